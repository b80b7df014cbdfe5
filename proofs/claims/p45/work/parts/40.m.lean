set_option maxRecDepth 200000 in
theorem w_2105 : Cond.code yX12_wayTo cX12_wayTo 3 (some .int) ∈ tb := tb_mem 2105 (by rfl) rfl
set_option maxRecDepth 200000 in
theorem w_2104 : Cond.static yX12_wayTo ∈ tb := tb_mem 2104 (by decide +kernel) rfl
set_option maxRecDepth 200000 in
theorem w_2103 : Cond.methodLink "CityRoadModel" 424 yX12_wayTo ∈ tb := tb_mem 2103 (by decide +kernel) rfl
set_option maxRecDepth 200000 in
theorem w_2098 : Cond.code yX12_finds cX12_finds 11 (some .boolean) ∈ tb := tb_mem 2098 (by rfl) rfl
set_option maxRecDepth 200000 in
theorem w_2097 : Cond.instanceMethod yX12_finds ∈ tb := tb_mem 2097 (by decide +kernel) rfl
set_option maxRecDepth 200000 in
theorem w_81 : Cond.selects "CityRoadModel" yX12_finds yX12_finds ∈ tb := tb_mem 81 (by decide +kernel) rfl
set_option maxRecDepth 200000 in
theorem w_2095 : Cond.methodLink "CityRoadModel" 431 yX12_finds ∈ tb := tb_mem 2095 (by decide +kernel) rfl
set_option maxRecDepth 200000 in
theorem w_2102 : Cond.code yX12_goAlong cX12_goAlong 7 none ∈ tb := tb_mem 2102 (by rfl) rfl
set_option maxRecDepth 200000 in
theorem w_2101 : Cond.instanceMethod yX12_goAlong ∈ tb := tb_mem 2101 (by decide +kernel) rfl
set_option maxRecDepth 200000 in
theorem w_82 : Cond.selects "CityRoadModel" yX12_goAlong yX12_goAlong ∈ tb := tb_mem 82 (by decide +kernel) rfl
set_option maxRecDepth 200000 in
theorem w_2099 : Cond.methodLink "CityRoadModel" 434 yX12_goAlong ∈ tb := tb_mem 2099 (by decide +kernel) rfl
set_option maxRecDepth 200000 in
theorem w_2094 : Cond.code yX12_comes cX12_comes 11 (some .boolean) ∈ tb := tb_mem 2094 (by rfl) rfl
set_option maxRecDepth 200000 in
theorem w_2093 : Cond.instanceMethod yX12_comes ∈ tb := tb_mem 2093 (by decide +kernel) rfl
set_option maxRecDepth 200000 in
theorem w_80 : Cond.selects "CityRoadModel" yX12_comes yX12_comes ∈ tb := tb_mem 80 (by decide +kernel) rfl
set_option maxRecDepth 200000 in
theorem w_2091 : Cond.methodLink "CityRoadModel" 427 yX12_comes ∈ tb := tb_mem 2091 (by decide +kernel) rfl
set_option maxRecDepth 200000 in
theorem w_1944 : Cond.code yX12_firstValue cX12_firstValue 3 (some .int) ∈ tb := tb_mem 1944 (by rfl) rfl
set_option maxRecDepth 200000 in
theorem w_1943 : Cond.instanceMethod yX12_firstValue ∈ tb := tb_mem 1943 (by decide +kernel) rfl
set_option maxRecDepth 200000 in
theorem w_65 : Cond.selects "CityRoadModel" yX12_firstValue yX12_firstValue ∈ tb := tb_mem 65 (by decide +kernel) rfl
set_option maxRecDepth 200000 in
theorem w_1941 : Cond.methodLink "CityRoadModel" 355 yX12_firstValue ∈ tb := tb_mem 1941 (by decide +kernel) rfl
set_option maxRecDepth 200000 in
theorem w_1524 : Cond.fieldLink "CityRoadModel" 153 "CityRoadModel" "spare" "[I" ∈ tb := tb_mem 1524 (by decide +kernel) rfl
set_option maxRecDepth 200000 in
theorem w_1525 : Cond.fieldLink "CityRoadModel" 156 "CityRoadModel" "reach" "[I" ∈ tb := tb_mem 1525 (by decide +kernel) rfl
set_option maxRecDepth 200000 in
theorem w_1526 : Cond.fieldLink "CityRoadModel" 159 "CityRoadModel" "byPerson" "[I" ∈ tb := tb_mem 1526 (by decide +kernel) rfl
set_option maxRecDepth 200000 in
theorem w_1527 : Cond.fieldLink "CityRoadModel" 162 "CityRoadModel" "byHouse" "[I" ∈ tb := tb_mem 1527 (by decide +kernel) rfl
set_option maxRecDepth 200000 in
theorem w_2016 : Cond.code yX12_walk cX12_walk 3 (some .int) ∈ tb := tb_mem 2016 (by rfl) rfl
set_option maxRecDepth 200000 in
theorem w_2015 : Cond.instanceMethod yX12_walk ∈ tb := tb_mem 2015 (by decide +kernel) rfl
set_option maxRecDepth 200000 in
theorem w_71 : Cond.selects "CityRoadModel" yX12_walk yX12_walk ∈ tb := tb_mem 71 (by decide +kernel) rfl
set_option maxRecDepth 200000 in
theorem w_2013 : Cond.methodLink "CityRoadModel" 380 yX12_walk ∈ tb := tb_mem 2013 (by decide +kernel) rfl
set_option maxRecDepth 200000 in
theorem w_2020 : Cond.code yX12_relax cX12_relax 5 (some .boolean) ∈ tb := tb_mem 2020 (by rfl) rfl
set_option maxRecDepth 200000 in
theorem w_2019 : Cond.instanceMethod yX12_relax ∈ tb := tb_mem 2019 (by decide +kernel) rfl
set_option maxRecDepth 200000 in
theorem w_72 : Cond.selects "CityRoadModel" yX12_relax yX12_relax ∈ tb := tb_mem 72 (by decide +kernel) rfl
set_option maxRecDepth 200000 in
theorem w_2017 : Cond.methodLink "CityRoadModel" 383 yX12_relax ∈ tb := tb_mem 2017 (by decide +kernel) rfl
set_option maxRecDepth 200000 in
theorem w_1523 : Cond.fieldLink "CityRoadModel" 150 "CityRoadModel" "mustGo" "[Z" ∈ tb := tb_mem 1523 (by decide +kernel) rfl
set_option maxRecDepth 200000 in
theorem w_1522 : Cond.fieldLink "CityRoadModel" 147 "CityRoadModel" "goes" "[I" ∈ tb := tb_mem 1522 (by decide +kernel) rfl
set_option maxRecDepth 200000 in
theorem w_2012 : Cond.code yX12_cheapest cX12_cheapest 5 (some .int) ∈ tb := tb_mem 2012 (by rfl) rfl
set_option maxRecDepth 200000 in
theorem w_2011 : Cond.instanceMethod yX12_cheapest ∈ tb := tb_mem 2011 (by decide +kernel) rfl
set_option maxRecDepth 200000 in
theorem w_70 : Cond.selects "CityRoadModel" yX12_cheapest yX12_cheapest ∈ tb := tb_mem 70 (by decide +kernel) rfl
set_option maxRecDepth 200000 in
theorem w_2009 : Cond.methodLink "CityRoadModel" 387 yX12_cheapest ∈ tb := tb_mem 2009 (by decide +kernel) rfl
theorem gdX12_wayTo_17 : decode cX12_wayTo 17 = .ok (.iload_n 2, 1) := by decide +kernel
theorem gdX12_wayTo_18 : decode cX12_wayTo 18 = .ok (.ireturn, 1) := by decide +kernel
theorem gdX12_wayTo_2 : decode cX12_wayTo 2 = .ok (.iload_n 0, 1) := by decide +kernel
theorem gdX12_wayTo_3 : decode cX12_wayTo 3 = .ok (.iload_n 2, 1) := by decide +kernel
theorem gdX12_wayTo_4 : decode cX12_wayTo 4 = .ok (.invokestatic 315, 3) := by decide +kernel
theorem gdX12_wayTo_7 : decode cX12_wayTo 7 = .ok (.iload_n 1, 1) := by decide +kernel
theorem gdX12_wayTo_8 : decode cX12_wayTo 8 = .ok (.if_icmp .eq 9, 3) := by decide +kernel
theorem gdX12_wayTo_11 : decode cX12_wayTo 11 = .ok (.iinc 2 1, 3) := by decide +kernel
theorem gdX12_wayTo_14 : decode cX12_wayTo 14 = .ok (.goto (-12), 3) := by decide +kernel
theorem gdX12_wayTo_0 : decode cX12_wayTo 0 = .ok (.iconst 0, 1) := by decide +kernel
theorem gdX12_wayTo_1 : decode cX12_wayTo 1 = .ok (.istore_n 2, 1) := by decide +kernel
theorem gdX12_goAlong_123 : decode cX12_goAlong 123 = .ok (.return_, 1) := by decide +kernel
theorem gdX12_goAlong_117 : decode cX12_goAlong 117 = .ok (.iload 4, 2) := by decide +kernel
theorem gdX12_goAlong_119 : decode cX12_goAlong 119 = .ok (.istore_n 3, 1) := by decide +kernel
theorem gdX12_goAlong_120 : decode cX12_goAlong 120 = .ok (.goto (-116), 3) := by decide +kernel
theorem gdX12_goAlong_59 : decode cX12_goAlong 59 = .ok (.iadd, 1) := by decide +kernel
theorem gdX12_goAlong_60 : decode cX12_goAlong 60 = .ok (.iastore, 1) := by decide +kernel
theorem gdX12_goAlong_61 : decode cX12_goAlong 61 = .ok (.goto 56, 3) := by decide +kernel
theorem gdX12_goAlong_4 : decode cX12_goAlong 4 = .ok (.iload_n 3, 1) := by decide +kernel
theorem gdX12_goAlong_5 : decode cX12_goAlong 5 = .ok (.iconst 2, 1) := by decide +kernel
theorem gdX12_goAlong_6 : decode cX12_goAlong 6 = .ok (.iload_n 1, 1) := by decide +kernel
theorem gdX12_goAlong_7 : decode cX12_goAlong 7 = .ok (.imul, 1) := by decide +kernel
theorem gdX12_goAlong_8 : decode cX12_goAlong 8 = .ok (.iconst 1, 1) := by decide +kernel
theorem gdX12_goAlong_9 : decode cX12_goAlong 9 = .ok (.iadd, 1) := by decide +kernel
theorem gdX12_goAlong_10 : decode cX12_goAlong 10 = .ok (.if_icmp .eq 113, 3) := by decide +kernel
theorem gdX12_goAlong_13 : decode cX12_goAlong 13 = .ok (.aload_n 0, 1) := by decide +kernel
theorem gdX12_goAlong_14 : decode cX12_goAlong 14 = .ok (.getfield 196, 3) := by decide +kernel
theorem gdX12_goAlong_17 : decode cX12_goAlong 17 = .ok (.iload_n 3, 1) := by decide +kernel
theorem gdX12_goAlong_18 : decode cX12_goAlong 18 = .ok (.iaload, 1) := by decide +kernel
theorem gdX12_goAlong_19 : decode cX12_goAlong 19 = .ok (.istore 4, 2) := by decide +kernel
theorem gdX12_goAlong_21 : decode cX12_goAlong 21 = .ok (.iload 4, 2) := by decide +kernel
theorem gdX12_goAlong_23 : decode cX12_goAlong 23 = .ok (.iconst 2, 1) := by decide +kernel
theorem gdX12_goAlong_24 : decode cX12_goAlong 24 = .ok (.idiv, 1) := by decide +kernel
theorem gdX12_goAlong_25 : decode cX12_goAlong 25 = .ok (.istore 5, 2) := by decide +kernel
theorem gdX12_goAlong_27 : decode cX12_goAlong 27 = .ok (.iload_n 3, 1) := by decide +kernel
theorem gdX12_goAlong_28 : decode cX12_goAlong 28 = .ok (.iconst 2, 1) := by decide +kernel
theorem gdX12_goAlong_29 : decode cX12_goAlong 29 = .ok (.idiv, 1) := by decide +kernel
theorem gdX12_goAlong_30 : decode cX12_goAlong 30 = .ok (.istore 6, 2) := by decide +kernel
theorem gdX12_goAlong_32 : decode cX12_goAlong 32 = .ok (.iload 5, 2) := by decide +kernel
theorem gdX12_goAlong_34 : decode cX12_goAlong 34 = .ok (.iload 6, 2) := by decide +kernel
theorem gdX12_goAlong_36 : decode cX12_goAlong 36 = .ok (.if_icmp .ne 28, 3) := by decide +kernel
theorem gdX12_goAlong_64 : decode cX12_goAlong 64 = .ok (.iload 4, 2) := by decide +kernel
theorem gdX12_goAlong_66 : decode cX12_goAlong 66 = .ok (.iconst 2, 1) := by decide +kernel
theorem gdX12_goAlong_67 : decode cX12_goAlong 67 = .ok (.irem, 1) := by decide +kernel
theorem gdX12_goAlong_68 : decode cX12_goAlong 68 = .ok (.iconst 1, 1) := by decide +kernel
theorem gdX12_goAlong_69 : decode cX12_goAlong 69 = .ok (.if_icmp .ne 27, 3) := by decide +kernel
theorem gdX12_goAlong_96 : decode cX12_goAlong 96 = .ok (.aload_n 0, 1) := by decide +kernel
theorem gdX12_goAlong_97 : decode cX12_goAlong 97 = .ok (.getfield 193, 3) := by decide +kernel
theorem gdX12_goAlong_100 : decode cX12_goAlong 100 = .ok (.iconst 4, 1) := by decide +kernel
theorem gdX12_goAlong_101 : decode cX12_goAlong 101 = .ok (.iload 6, 2) := by decide +kernel
theorem gdX12_goAlong_103 : decode cX12_goAlong 103 = .ok (.imul, 1) := by decide +kernel
theorem gdX12_goAlong_104 : decode cX12_goAlong 104 = .ok (.iload 6, 2) := by decide +kernel
theorem gdX12_goAlong_106 : decode cX12_goAlong 106 = .ok (.iload 5, 2) := by decide +kernel
theorem gdX12_goAlong_108 : decode cX12_goAlong 108 = .ok (.invokestatic 424, 3) := by decide +kernel
theorem gdX12_goAlong_111 : decode cX12_goAlong 111 = .ok (.iadd, 1) := by decide +kernel
theorem gdX12_goAlong_112 : decode cX12_goAlong 112 = .ok (.dup2, 1) := by decide +kernel
theorem gdX12_goAlong_113 : decode cX12_goAlong 113 = .ok (.iaload, 1) := by decide +kernel
theorem gdX12_goAlong_114 : decode cX12_goAlong 114 = .ok (.iconst 1, 1) := by decide +kernel
theorem gdX12_goAlong_115 : decode cX12_goAlong 115 = .ok (.isub, 1) := by decide +kernel
theorem gdX12_goAlong_116 : decode cX12_goAlong 116 = .ok (.iastore, 1) := by decide +kernel
theorem gdX12_goAlong_72 : decode cX12_goAlong 72 = .ok (.aload_n 0, 1) := by decide +kernel
theorem gdX12_goAlong_73 : decode cX12_goAlong 73 = .ok (.getfield 193, 3) := by decide +kernel
theorem gdX12_goAlong_76 : decode cX12_goAlong 76 = .ok (.iconst 4, 1) := by decide +kernel
theorem gdX12_goAlong_77 : decode cX12_goAlong 77 = .ok (.iload 5, 2) := by decide +kernel
theorem gdX12_goAlong_79 : decode cX12_goAlong 79 = .ok (.imul, 1) := by decide +kernel
theorem gdX12_goAlong_80 : decode cX12_goAlong 80 = .ok (.iload 5, 2) := by decide +kernel
theorem gdX12_goAlong_82 : decode cX12_goAlong 82 = .ok (.iload 6, 2) := by decide +kernel
theorem gdX12_goAlong_84 : decode cX12_goAlong 84 = .ok (.invokestatic 424, 3) := by decide +kernel
theorem gdX12_goAlong_87 : decode cX12_goAlong 87 = .ok (.iadd, 1) := by decide +kernel
theorem gdX12_goAlong_88 : decode cX12_goAlong 88 = .ok (.dup2, 1) := by decide +kernel
theorem gdX12_goAlong_89 : decode cX12_goAlong 89 = .ok (.iaload, 1) := by decide +kernel
theorem gdX12_goAlong_90 : decode cX12_goAlong 90 = .ok (.iconst 1, 1) := by decide +kernel
theorem gdX12_goAlong_91 : decode cX12_goAlong 91 = .ok (.iadd, 1) := by decide +kernel
theorem gdX12_goAlong_92 : decode cX12_goAlong 92 = .ok (.iastore, 1) := by decide +kernel
theorem gdX12_goAlong_93 : decode cX12_goAlong 93 = .ok (.goto 24, 3) := by decide +kernel
theorem gdX12_goAlong_39 : decode cX12_goAlong 39 = .ok (.aload_n 0, 1) := by decide +kernel
theorem gdX12_goAlong_40 : decode cX12_goAlong 40 = .ok (.getfield 190, 3) := by decide +kernel
theorem gdX12_goAlong_43 : decode cX12_goAlong 43 = .ok (.iload 5, 2) := by decide +kernel
theorem gdX12_goAlong_45 : decode cX12_goAlong 45 = .ok (.dup2, 1) := by decide +kernel
theorem gdX12_goAlong_46 : decode cX12_goAlong 46 = .ok (.iaload, 1) := by decide +kernel
theorem gdX12_goAlong_47 : decode cX12_goAlong 47 = .ok (.iload_n 3, 1) := by decide +kernel
theorem gdX12_goAlong_48 : decode cX12_goAlong 48 = .ok (.iconst 2, 1) := by decide +kernel
theorem gdX12_goAlong_49 : decode cX12_goAlong 49 = .ok (.irem, 1) := by decide +kernel
theorem gdX12_goAlong_50 : decode cX12_goAlong 50 = .ok (.iconst 1, 1) := by decide +kernel
theorem gdX12_goAlong_51 : decode cX12_goAlong 51 = .ok (.if_icmp .ne 7, 3) := by decide +kernel
theorem gdX12_goAlong_58 : decode cX12_goAlong 58 = .ok (.iconst (-1), 1) := by decide +kernel
theorem gdX12_goAlong_54 : decode cX12_goAlong 54 = .ok (.iconst 1, 1) := by decide +kernel
theorem gdX12_goAlong_55 : decode cX12_goAlong 55 = .ok (.goto 4, 3) := by decide +kernel
theorem gdX12_goAlong_0 : decode cX12_goAlong 0 = .ok (.iconst 2, 1) := by decide +kernel
theorem gdX12_goAlong_1 : decode cX12_goAlong 1 = .ok (.iload_n 2, 1) := by decide +kernel
theorem gdX12_goAlong_2 : decode cX12_goAlong 2 = .ok (.imul, 1) := by decide +kernel
theorem gdX12_goAlong_3 : decode cX12_goAlong 3 = .ok (.istore_n 3, 1) := by decide +kernel
theorem gdX12_stop_19 : decode cX12_stop 19 = .ok (.iconst (-1), 1) := by decide +kernel
theorem gdX12_stop_20 : decode cX12_stop 20 = .ok (.ireturn, 1) := by decide +kernel
theorem gdX12_stop_41 : decode cX12_stop 41 = .ok (.bipush (-4), 2) := by decide +kernel
theorem gdX12_stop_43 : decode cX12_stop 43 = .ok (.ireturn, 1) := by decide +kernel
theorem gdX12_stop_277 : decode cX12_stop 277 = .ok (.iload 4, 2) := by decide +kernel
theorem gdX12_stop_279 : decode cX12_stop 279 = .ok (.ireturn, 1) := by decide +kernel
theorem gdX12_stop_267 : decode cX12_stop 267 = .ok (.lor, 1) := by decide +kernel
theorem gdX12_stop_268 : decode cX12_stop 268 = .ok (.putfield 364, 3) := by decide +kernel
theorem gdX12_stop_271 : decode cX12_stop 271 = .ok (.iinc 5 1, 3) := by decide +kernel
theorem gdX12_stop_274 : decode cX12_stop 274 = .ok (.goto (-75), 3) := by decide +kernel
theorem gdX12_stop_247 : decode cX12_stop 247 = .ok (.istore 6, 2) := by decide +kernel
theorem gdX12_stop_249 : decode cX12_stop 249 = .ok (.aload_n 0, 1) := by decide +kernel
theorem gdX12_stop_250 : decode cX12_stop 250 = .ok (.dup, 1) := by decide +kernel
theorem gdX12_stop_251 : decode cX12_stop 251 = .ok (.getfield 364, 3) := by decide +kernel
theorem gdX12_stop_254 : decode cX12_stop 254 = .ok (.iload 6, 2) := by decide +kernel
theorem gdX12_stop_256 : decode cX12_stop 256 = .ok (.ifCond .eq 10, 3) := by decide +kernel
theorem gdX12_stop_266 : decode cX12_stop 266 = .ok (.lconst 0, 1) := by decide +kernel
theorem gdX12_stop_259 : decode cX12_stop 259 = .ok (.lconst 1, 1) := by decide +kernel
theorem gdX12_stop_260 : decode cX12_stop 260 = .ok (.iload 5, 2) := by decide +kernel
theorem gdX12_stop_262 : decode cX12_stop 262 = .ok (.lshl, 1) := by decide +kernel
theorem gdX12_stop_263 : decode cX12_stop 263 = .ok (.goto 4, 3) := by decide +kernel
theorem gdX12_stop_246 : decode cX12_stop 246 = .ok (.iconst 0, 1) := by decide +kernel
theorem gdX12_stop_199 : decode cX12_stop 199 = .ok (.iload 5, 2) := by decide +kernel
theorem gdX12_stop_201 : decode cX12_stop 201 = .ok (.bipush 64, 2) := by decide +kernel
theorem gdX12_stop_203 : decode cX12_stop 203 = .ok (.if_icmp .ge 74, 3) := by decide +kernel
theorem gdX12_stop_206 : decode cX12_stop 206 = .ok (.aload_n 0, 1) := by decide +kernel
theorem gdX12_stop_207 : decode cX12_stop 207 = .ok (.getfield 187, 3) := by decide +kernel
theorem gdX12_stop_210 : decode cX12_stop 210 = .ok (.iload 5, 2) := by decide +kernel
theorem gdX12_stop_212 : decode cX12_stop 212 = .ok (.baload, 1) := by decide +kernel
theorem gdX12_stop_213 : decode cX12_stop 213 = .ok (.ifCond .eq 33, 3) := by decide +kernel
theorem gdX12_stop_216 : decode cX12_stop 216 = .ok (.aload_n 0, 1) := by decide +kernel
theorem gdX12_stop_217 : decode cX12_stop 217 = .ok (.getfield 196, 3) := by decide +kernel
theorem gdX12_stop_220 : decode cX12_stop 220 = .ok (.iconst 2, 1) := by decide +kernel
theorem gdX12_stop_221 : decode cX12_stop 221 = .ok (.iload 5, 2) := by decide +kernel
theorem gdX12_stop_223 : decode cX12_stop 223 = .ok (.imul, 1) := by decide +kernel
theorem gdX12_stop_224 : decode cX12_stop 224 = .ok (.iaload, 1) := by decide +kernel
theorem gdX12_stop_225 : decode cX12_stop 225 = .ok (.ifCond .lt 21, 3) := by decide +kernel
theorem gdX12_stop_228 : decode cX12_stop 228 = .ok (.aload_n 0, 1) := by decide +kernel
theorem gdX12_stop_229 : decode cX12_stop 229 = .ok (.getfield 196, 3) := by decide +kernel
theorem gdX12_stop_232 : decode cX12_stop 232 = .ok (.iconst 2, 1) := by decide +kernel
theorem gdX12_stop_233 : decode cX12_stop 233 = .ok (.iload 5, 2) := by decide +kernel
theorem gdX12_stop_235 : decode cX12_stop 235 = .ok (.imul, 1) := by decide +kernel
theorem gdX12_stop_236 : decode cX12_stop 236 = .ok (.iconst 1, 1) := by decide +kernel
theorem gdX12_stop_237 : decode cX12_stop 237 = .ok (.iadd, 1) := by decide +kernel
theorem gdX12_stop_238 : decode cX12_stop 238 = .ok (.iaload, 1) := by decide +kernel
theorem gdX12_stop_239 : decode cX12_stop 239 = .ok (.ifCond .ge 7, 3) := by decide +kernel
theorem gdX12_stop_242 : decode cX12_stop 242 = .ok (.iconst 1, 1) := by decide +kernel
theorem gdX12_stop_243 : decode cX12_stop 243 = .ok (.goto 4, 3) := by decide +kernel
theorem gdX12_stop_191 : decode cX12_stop 191 = .ok (.aload_n 0, 1) := by decide +kernel
theorem gdX12_stop_192 : decode cX12_stop 192 = .ok (.lconst 0, 1) := by decide +kernel
theorem gdX12_stop_193 : decode cX12_stop 193 = .ok (.putfield 364, 3) := by decide +kernel
theorem gdX12_stop_196 : decode cX12_stop 196 = .ok (.iconst 0, 1) := by decide +kernel
theorem gdX12_stop_197 : decode cX12_stop 197 = .ok (.istore 5, 2) := by decide +kernel
theorem gdX12_stop_169 : decode cX12_stop 169 = .ok (.aload_n 0, 1) := by decide +kernel
theorem gdX12_stop_170 : decode cX12_stop 170 = .ok (.iload_n 1, 1) := by decide +kernel
theorem gdX12_stop_171 : decode cX12_stop 171 = .ok (.iload_n 2, 1) := by decide +kernel
theorem gdX12_stop_172 : decode cX12_stop 172 = .ok (.iload_n 3, 1) := by decide +kernel
theorem gdX12_stop_173 : decode cX12_stop 173 = .ok (.invokevirtual 431, 3) := by decide +kernel
theorem gdX12_stop_176 : decode cX12_stop 176 = .ok (.ifCond .eq 15, 3) := by decide +kernel
theorem gdX12_stop_179 : decode cX12_stop 179 = .ok (.aload_n 0, 1) := by decide +kernel
theorem gdX12_stop_180 : decode cX12_stop 180 = .ok (.iload_n 1, 1) := by decide +kernel
theorem gdX12_stop_181 : decode cX12_stop 181 = .ok (.iload_n 2, 1) := by decide +kernel
theorem gdX12_stop_182 : decode cX12_stop 182 = .ok (.invokevirtual 434, 3) := by decide +kernel
theorem gdX12_stop_185 : decode cX12_stop 185 = .ok (.iinc 4 1, 3) := by decide +kernel
theorem gdX12_stop_188 : decode cX12_stop 188 = .ok (.goto (-19), 3) := by decide +kernel
theorem gdX12_stop_135 : decode cX12_stop 135 = .ok (.aload_n 0, 1) := by decide +kernel
theorem gdX12_stop_136 : decode cX12_stop 136 = .ok (.iload_n 1, 1) := by decide +kernel
theorem gdX12_stop_137 : decode cX12_stop 137 = .ok (.iload_n 2, 1) := by decide +kernel
theorem gdX12_stop_138 : decode cX12_stop 138 = .ok (.iload_n 3, 1) := by decide +kernel
theorem gdX12_stop_139 : decode cX12_stop 139 = .ok (.iconst 1, 1) := by decide +kernel
theorem gdX12_stop_140 : decode cX12_stop 140 = .ok (.invokevirtual 427, 3) := by decide +kernel
theorem gdX12_stop_143 : decode cX12_stop 143 = .ok (.ifCond .ne 9, 3) := by decide +kernel
theorem gdX12_stop_152 : decode cX12_stop 152 = .ok (.aload_n 0, 1) := by decide +kernel
theorem gdX12_stop_153 : decode cX12_stop 153 = .ok (.iload_n 1, 1) := by decide +kernel
theorem gdX12_stop_154 : decode cX12_stop 154 = .ok (.iload_n 2, 1) := by decide +kernel
theorem gdX12_stop_155 : decode cX12_stop 155 = .ok (.iload_n 3, 1) := by decide +kernel
theorem gdX12_stop_156 : decode cX12_stop 156 = .ok (.iconst 0, 1) := by decide +kernel
theorem gdX12_stop_157 : decode cX12_stop 157 = .ok (.invokevirtual 427, 3) := by decide +kernel
theorem gdX12_stop_160 : decode cX12_stop 160 = .ok (.ifCond .eq 6, 3) := by decide +kernel
theorem gdX12_stop_166 : decode cX12_stop 166 = .ok (.iconst 0, 1) := by decide +kernel
theorem gdX12_stop_167 : decode cX12_stop 167 = .ok (.istore 4, 2) := by decide +kernel
theorem gdX12_stop_163 : decode cX12_stop 163 = .ok (.bipush (-9), 2) := by decide +kernel
theorem gdX12_stop_165 : decode cX12_stop 165 = .ok (.ireturn, 1) := by decide +kernel
theorem gdX12_stop_146 : decode cX12_stop 146 = .ok (.aload_n 0, 1) := by decide +kernel
theorem gdX12_stop_147 : decode cX12_stop 147 = .ok (.iconst 1, 1) := by decide +kernel
theorem gdX12_stop_148 : decode cX12_stop 148 = .ok (.invokevirtual 216, 3) := by decide +kernel
theorem gdX12_stop_151 : decode cX12_stop 151 = .ok (.ireturn, 1) := by decide +kernel
theorem gdX12_stop_129 : decode cX12_stop 129 = .ok (.iinc 4 1, 3) := by decide +kernel
theorem gdX12_stop_132 : decode cX12_stop 132 = .ok (.goto (-79), 3) := by decide +kernel
theorem gdX12_stop_104 : decode cX12_stop 104 = .ok (.iload 5, 2) := by decide +kernel
theorem gdX12_stop_106 : decode cX12_stop 106 = .ok (.iconst 4, 1) := by decide +kernel
theorem gdX12_stop_107 : decode cX12_stop 107 = .ok (.if_icmp .ge 22, 3) := by decide +kernel
theorem gdX12_stop_110 : decode cX12_stop 110 = .ok (.aload_n 0, 1) := by decide +kernel
theorem gdX12_stop_111 : decode cX12_stop 111 = .ok (.getfield 193, 3) := by decide +kernel
theorem gdX12_stop_114 : decode cX12_stop 114 = .ok (.iconst 4, 1) := by decide +kernel
theorem gdX12_stop_115 : decode cX12_stop 115 = .ok (.iload 4, 2) := by decide +kernel
theorem gdX12_stop_117 : decode cX12_stop 117 = .ok (.imul, 1) := by decide +kernel
theorem gdX12_stop_118 : decode cX12_stop 118 = .ok (.iload 5, 2) := by decide +kernel
theorem gdX12_stop_120 : decode cX12_stop 120 = .ok (.iadd, 1) := by decide +kernel
theorem gdX12_stop_121 : decode cX12_stop 121 = .ok (.iconst 0, 1) := by decide +kernel
theorem gdX12_stop_122 : decode cX12_stop 122 = .ok (.iastore, 1) := by decide +kernel
theorem gdX12_stop_123 : decode cX12_stop 123 = .ok (.iinc 5 1, 3) := by decide +kernel
theorem gdX12_stop_126 : decode cX12_stop 126 = .ok (.goto (-22), 3) := by decide +kernel
theorem gdX12_stop_92 : decode cX12_stop 92 = .ok (.bastore, 1) := by decide +kernel
theorem gdX12_stop_93 : decode cX12_stop 93 = .ok (.aload_n 0, 1) := by decide +kernel
theorem gdX12_stop_94 : decode cX12_stop 94 = .ok (.getfield 190, 3) := by decide +kernel
theorem gdX12_stop_97 : decode cX12_stop 97 = .ok (.iload 4, 2) := by decide +kernel
theorem gdX12_stop_99 : decode cX12_stop 99 = .ok (.iconst 0, 1) := by decide +kernel
theorem gdX12_stop_100 : decode cX12_stop 100 = .ok (.iastore, 1) := by decide +kernel
theorem gdX12_stop_101 : decode cX12_stop 101 = .ok (.iconst 0, 1) := by decide +kernel
theorem gdX12_stop_102 : decode cX12_stop 102 = .ok (.istore 5, 2) := by decide +kernel
theorem gdX12_stop_91 : decode cX12_stop 91 = .ok (.iconst 0, 1) := by decide +kernel
theorem gdX12_stop_53 : decode cX12_stop 53 = .ok (.iload 4, 2) := by decide +kernel
theorem gdX12_stop_55 : decode cX12_stop 55 = .ok (.bipush 64, 2) := by decide +kernel
theorem gdX12_stop_57 : decode cX12_stop 57 = .ok (.if_icmp .ge 78, 3) := by decide +kernel
theorem gdX12_stop_60 : decode cX12_stop 60 = .ok (.aload_n 0, 1) := by decide +kernel
theorem gdX12_stop_61 : decode cX12_stop 61 = .ok (.getfield 187, 3) := by decide +kernel
theorem gdX12_stop_64 : decode cX12_stop 64 = .ok (.iload 4, 2) := by decide +kernel
theorem gdX12_stop_66 : decode cX12_stop 66 = .ok (.iload 4, 2) := by decide +kernel
theorem gdX12_stop_68 : decode cX12_stop 68 = .ok (.iload_n 1, 1) := by decide +kernel
theorem gdX12_stop_69 : decode cX12_stop 69 = .ok (.if_icmp .eq 22, 3) := by decide +kernel
theorem gdX12_stop_72 : decode cX12_stop 72 = .ok (.iload 4, 2) := by decide +kernel
theorem gdX12_stop_74 : decode cX12_stop 74 = .ok (.iload_n 2, 1) := by decide +kernel
theorem gdX12_stop_75 : decode cX12_stop 75 = .ok (.if_icmp .eq 16, 3) := by decide +kernel
theorem gdX12_stop_78 : decode cX12_stop 78 = .ok (.aload_n 0, 1) := by decide +kernel
theorem gdX12_stop_79 : decode cX12_stop 79 = .ok (.iload 4, 2) := by decide +kernel
theorem gdX12_stop_81 : decode cX12_stop 81 = .ok (.invokevirtual 260, 3) := by decide +kernel
theorem gdX12_stop_84 : decode cX12_stop 84 = .ok (.ifCond .lt 7, 3) := by decide +kernel
theorem gdX12_stop_87 : decode cX12_stop 87 = .ok (.iconst 1, 1) := by decide +kernel
theorem gdX12_stop_88 : decode cX12_stop 88 = .ok (.goto 4, 3) := by decide +kernel
theorem gdX12_stop_0 : decode cX12_stop 0 = .ok (.iload_n 1, 1) := by decide +kernel
theorem gdX12_stop_1 : decode cX12_stop 1 = .ok (.invokestatic 257, 3) := by decide +kernel
theorem gdX12_stop_4 : decode cX12_stop 4 = .ok (.ifCond .eq 15, 3) := by decide +kernel
theorem gdX12_stop_7 : decode cX12_stop 7 = .ok (.iload_n 2, 1) := by decide +kernel
theorem gdX12_stop_8 : decode cX12_stop 8 = .ok (.invokestatic 257, 3) := by decide +kernel
theorem gdX12_stop_11 : decode cX12_stop 11 = .ok (.ifCond .eq 8, 3) := by decide +kernel
theorem gdX12_stop_14 : decode cX12_stop 14 = .ok (.iload_n 1, 1) := by decide +kernel
theorem gdX12_stop_15 : decode cX12_stop 15 = .ok (.iload_n 2, 1) := by decide +kernel
theorem gdX12_stop_16 : decode cX12_stop 16 = .ok (.if_icmp .ne 5, 3) := by decide +kernel
theorem gdX12_stop_21 : decode cX12_stop 21 = .ok (.aload_n 0, 1) := by decide +kernel
theorem gdX12_stop_22 : decode cX12_stop 22 = .ok (.getfield 40, 3) := by decide +kernel
theorem gdX12_stop_25 : decode cX12_stop 25 = .ok (.iload_n 1, 1) := by decide +kernel
theorem gdX12_stop_26 : decode cX12_stop 26 = .ok (.iaload, 1) := by decide +kernel
theorem gdX12_stop_27 : decode cX12_stop 27 = .ok (.iconst 4, 1) := by decide +kernel
theorem gdX12_stop_28 : decode cX12_stop 28 = .ok (.if_icmp .eq 13, 3) := by decide +kernel
theorem gdX12_stop_31 : decode cX12_stop 31 = .ok (.aload_n 0, 1) := by decide +kernel
theorem gdX12_stop_32 : decode cX12_stop 32 = .ok (.getfield 40, 3) := by decide +kernel
theorem gdX12_stop_35 : decode cX12_stop 35 = .ok (.iload_n 2, 1) := by decide +kernel
theorem gdX12_stop_36 : decode cX12_stop 36 = .ok (.iaload, 1) := by decide +kernel
theorem gdX12_stop_37 : decode cX12_stop 37 = .ok (.iconst 4, 1) := by decide +kernel
theorem gdX12_stop_38 : decode cX12_stop 38 = .ok (.if_icmp .ne 6, 3) := by decide +kernel
theorem gdX12_stop_44 : decode cX12_stop 44 = .ok (.aload_n 0, 1) := by decide +kernel
theorem gdX12_stop_45 : decode cX12_stop 45 = .ok (.iconst 0, 1) := by decide +kernel
theorem gdX12_stop_46 : decode cX12_stop 46 = .ok (.invokevirtual 328, 3) := by decide +kernel
theorem gdX12_stop_49 : decode cX12_stop 49 = .ok (.istore_n 3, 1) := by decide +kernel
theorem gdX12_stop_50 : decode cX12_stop 50 = .ok (.iconst 0, 1) := by decide +kernel
theorem gdX12_stop_51 : decode cX12_stop 51 = .ok (.istore 4, 2) := by decide +kernel
theorem gdX12_firstValue_18 : decode cX12_firstValue 18 = .ok (.aload_n 0, 1) := by decide +kernel
theorem gdX12_firstValue_19 : decode cX12_firstValue 19 = .ok (.getfield 68, 3) := by decide +kernel
theorem gdX12_firstValue_22 : decode cX12_firstValue 22 = .ok (.iload_n 2, 1) := by decide +kernel
theorem gdX12_firstValue_23 : decode cX12_firstValue 23 = .ok (.iaload, 1) := by decide +kernel
theorem gdX12_firstValue_24 : decode cX12_firstValue 24 = .ok (.ireturn, 1) := by decide +kernel
theorem gdX12_firstValue_2 : decode cX12_firstValue 2 = .ok (.aload_n 0, 1) := by decide +kernel
theorem gdX12_firstValue_3 : decode cX12_firstValue 3 = .ok (.getfield 62, 3) := by decide +kernel
theorem gdX12_firstValue_6 : decode cX12_firstValue 6 = .ok (.iload_n 2, 1) := by decide +kernel
theorem gdX12_firstValue_7 : decode cX12_firstValue 7 = .ok (.iaload, 1) := by decide +kernel
theorem gdX12_firstValue_8 : decode cX12_firstValue 8 = .ok (.iload_n 1, 1) := by decide +kernel
theorem gdX12_firstValue_9 : decode cX12_firstValue 9 = .ok (.if_icmp .eq 9, 3) := by decide +kernel
theorem gdX12_firstValue_12 : decode cX12_firstValue 12 = .ok (.iinc 2 1, 3) := by decide +kernel
theorem gdX12_firstValue_15 : decode cX12_firstValue 15 = .ok (.goto (-13), 3) := by decide +kernel
theorem gdX12_firstValue_0 : decode cX12_firstValue 0 = .ok (.iconst 0, 1) := by decide +kernel
theorem gdX12_firstValue_1 : decode cX12_firstValue 1 = .ok (.istore_n 2, 1) := by decide +kernel
theorem gdX12_take_16 : decode cX12_take 16 = .ok (.iconst (-1), 1) := by decide +kernel
theorem gdX12_take_17 : decode cX12_take 17 = .ok (.ireturn, 1) := by decide +kernel
theorem gdX12_take_79 : decode cX12_take 79 = .ok (.bipush (-4), 2) := by decide +kernel
theorem gdX12_take_81 : decode cX12_take 81 = .ok (.ireturn, 1) := by decide +kernel
theorem gdX12_take_195 : decode cX12_take 195 = .ok (.aload_n 0, 1) := by decide +kernel
theorem gdX12_take_196 : decode cX12_take 196 = .ok (.getfield 55, 3) := by decide +kernel
theorem gdX12_take_199 : decode cX12_take 199 = .ok (.iload_n 1, 1) := by decide +kernel
theorem gdX12_take_200 : decode cX12_take 200 = .ok (.iconst 1, 1) := by decide +kernel
theorem gdX12_take_201 : decode cX12_take 201 = .ok (.bastore, 1) := by decide +kernel
theorem gdX12_take_202 : decode cX12_take 202 = .ok (.aload_n 0, 1) := by decide +kernel
theorem gdX12_take_203 : decode cX12_take 203 = .ok (.aload_n 0, 1) := by decide +kernel
theorem gdX12_take_204 : decode cX12_take 204 = .ok (.getfield 104, 3) := by decide +kernel
theorem gdX12_take_207 : decode cX12_take 207 = .ok (.iload 4, 2) := by decide +kernel
theorem gdX12_take_209 : decode cX12_take 209 = .ok (.iaload, 1) := by decide +kernel
theorem gdX12_take_210 : decode cX12_take 210 = .ok (.iload 4, 2) := by decide +kernel
theorem gdX12_take_212 : decode cX12_take 212 = .ok (.invokevirtual 290, 3) := by decide +kernel
theorem gdX12_take_215 : decode cX12_take 215 = .ok (.ireturn, 1) := by decide +kernel
theorem gdX12_take_189 : decode cX12_take 189 = .ok (.iinc 5 1, 3) := by decide +kernel
theorem gdX12_take_192 : decode cX12_take 192 = .ok (.goto (-46), 3) := by decide +kernel
theorem gdX12_take_146 : decode cX12_take 146 = .ok (.iload 5, 2) := by decide +kernel
theorem gdX12_take_148 : decode cX12_take 148 = .ok (.aload_n 0, 1) := by decide +kernel
theorem gdX12_take_149 : decode cX12_take 149 = .ok (.getfield 281, 3) := by decide +kernel
theorem gdX12_take_152 : decode cX12_take 152 = .ok (.if_icmp .ge 43, 3) := by decide +kernel
theorem gdX12_take_155 : decode cX12_take 155 = .ok (.aload_n 0, 1) := by decide +kernel
theorem gdX12_take_156 : decode cX12_take 156 = .ok (.getfield 71, 3) := by decide +kernel
theorem gdX12_take_159 : decode cX12_take 159 = .ok (.iload 5, 2) := by decide +kernel
theorem gdX12_take_161 : decode cX12_take 161 = .ok (.iaload, 1) := by decide +kernel
theorem gdX12_take_162 : decode cX12_take 162 = .ok (.iload_n 1, 1) := by decide +kernel
theorem gdX12_take_163 : decode cX12_take 163 = .ok (.if_icmp .ne 26, 3) := by decide +kernel
theorem gdX12_take_166 : decode cX12_take 166 = .ok (.aload_n 0, 1) := by decide +kernel
theorem gdX12_take_167 : decode cX12_take 167 = .ok (.getfield 110, 3) := by decide +kernel
theorem gdX12_take_170 : decode cX12_take 170 = .ok (.iload 4, 2) := by decide +kernel
theorem gdX12_take_172 : decode cX12_take 172 = .ok (.dup2, 1) := by decide +kernel
theorem gdX12_take_173 : decode cX12_take 173 = .ok (.laload, 1) := by decide +kernel
theorem gdX12_take_174 : decode cX12_take 174 = .ok (.lconst 1, 1) := by decide +kernel
theorem gdX12_take_175 : decode cX12_take 175 = .ok (.iload 5, 2) := by decide +kernel
theorem gdX12_take_177 : decode cX12_take 177 = .ok (.lshl, 1) := by decide +kernel
theorem gdX12_take_178 : decode cX12_take 178 = .ok (.lor, 1) := by decide +kernel
theorem gdX12_take_179 : decode cX12_take 179 = .ok (.lastore, 1) := by decide +kernel
theorem gdX12_take_180 : decode cX12_take 180 = .ok (.aload_n 0, 1) := by decide +kernel
theorem gdX12_take_181 : decode cX12_take 181 = .ok (.getfield 71, 3) := by decide +kernel
theorem gdX12_take_184 : decode cX12_take 184 = .ok (.iload 5, 2) := by decide +kernel
theorem gdX12_take_186 : decode cX12_take 186 = .ok (.bipush (-9), 2) := by decide +kernel
theorem gdX12_take_188 : decode cX12_take 188 = .ok (.iastore, 1) := by decide +kernel
theorem gdX12_take_109 : decode cX12_take 109 = .ok (.istore_n 3, 1) := by decide +kernel
theorem gdX12_take_110 : decode cX12_take 110 = .ok (.aload_n 0, 1) := by decide +kernel
theorem gdX12_take_111 : decode cX12_take 111 = .ok (.iconst 3, 1) := by decide +kernel
theorem gdX12_take_112 : decode cX12_take 112 = .ok (.iload_n 2, 1) := by decide +kernel
theorem gdX12_take_113 : decode cX12_take 113 = .ok (.invokevirtual 334, 3) := by decide +kernel
theorem gdX12_take_116 : decode cX12_take 116 = .ok (.istore 4, 2) := by decide +kernel
theorem gdX12_take_118 : decode cX12_take 118 = .ok (.aload_n 0, 1) := by decide +kernel
theorem gdX12_take_119 : decode cX12_take 119 = .ok (.getfield 104, 3) := by decide +kernel
theorem gdX12_take_122 : decode cX12_take 122 = .ok (.iload 4, 2) := by decide +kernel
theorem gdX12_take_124 : decode cX12_take 124 = .ok (.aload_n 0, 1) := by decide +kernel
theorem gdX12_take_125 : decode cX12_take 125 = .ok (.iconst 2, 1) := by decide +kernel
theorem gdX12_take_126 : decode cX12_take 126 = .ok (.invokevirtual 328, 3) := by decide +kernel
theorem gdX12_take_129 : decode cX12_take 129 = .ok (.iload_n 3, 1) := by decide +kernel
theorem gdX12_take_130 : decode cX12_take 130 = .ok (.imul, 1) := by decide +kernel
theorem gdX12_take_131 : decode cX12_take 131 = .ok (.bipush 100, 2) := by decide +kernel
theorem gdX12_take_133 : decode cX12_take 133 = .ok (.idiv, 1) := by decide +kernel
theorem gdX12_take_134 : decode cX12_take 134 = .ok (.iastore, 1) := by decide +kernel
theorem gdX12_take_135 : decode cX12_take 135 = .ok (.aload_n 0, 1) := by decide +kernel
theorem gdX12_take_136 : decode cX12_take 136 = .ok (.getfield 110, 3) := by decide +kernel
theorem gdX12_take_139 : decode cX12_take 139 = .ok (.iload 4, 2) := by decide +kernel
theorem gdX12_take_141 : decode cX12_take 141 = .ok (.lconst 0, 1) := by decide +kernel
theorem gdX12_take_142 : decode cX12_take 142 = .ok (.lastore, 1) := by decide +kernel
theorem gdX12_take_143 : decode cX12_take 143 = .ok (.iconst 0, 1) := by decide +kernel
theorem gdX12_take_144 : decode cX12_take 144 = .ok (.istore 5, 2) := by decide +kernel
theorem gdX12_take_0 : decode cX12_take 0 = .ok (.aload_n 0, 1) := by decide +kernel
theorem gdX12_take_1 : decode cX12_take 1 = .ok (.iload_n 1, 1) := by decide +kernel
theorem gdX12_take_2 : decode cX12_take 2 = .ok (.invokevirtual 274, 3) := by decide +kernel
theorem gdX12_take_5 : decode cX12_take 5 = .ok (.ifCond .eq 11, 3) := by decide +kernel
theorem gdX12_take_8 : decode cX12_take 8 = .ok (.aload_n 0, 1) := by decide +kernel
theorem gdX12_take_9 : decode cX12_take 9 = .ok (.iload_n 2, 1) := by decide +kernel
theorem gdX12_take_10 : decode cX12_take 10 = .ok (.invokevirtual 308, 3) := by decide +kernel
theorem gdX12_take_13 : decode cX12_take 13 = .ok (.ifCond .ne 5, 3) := by decide +kernel
theorem gdX12_take_18 : decode cX12_take 18 = .ok (.aload_n 0, 1) := by decide +kernel
theorem gdX12_take_19 : decode cX12_take 19 = .ok (.getfield 305, 3) := by decide +kernel
theorem gdX12_take_22 : decode cX12_take 22 = .ok (.bipush 24, 2) := by decide +kernel
theorem gdX12_take_24 : decode cX12_take 24 = .ok (.if_icmp .ne 6, 3) := by decide +kernel
theorem gdX12_take_30 : decode cX12_take 30 = .ok (.aload_n 0, 1) := by decide +kernel
theorem gdX12_take_31 : decode cX12_take 31 = .ok (.iload_n 2, 1) := by decide +kernel
theorem gdX12_take_32 : decode cX12_take 32 = .ok (.invokevirtual 311, 3) := by decide +kernel
theorem gdX12_take_35 : decode cX12_take 35 = .ok (.ifCond .ne 9, 3) := by decide +kernel
theorem gdX12_take_44 : decode cX12_take 44 = .ok (.aload_n 0, 1) := by decide +kernel
theorem gdX12_take_45 : decode cX12_take 45 = .ok (.getfield 95, 3) := by decide +kernel
theorem gdX12_take_48 : decode cX12_take 48 = .ok (.iload_n 2, 1) := by decide +kernel
theorem gdX12_take_49 : decode cX12_take 49 = .ok (.iaload, 1) := by decide +kernel
theorem gdX12_take_50 : decode cX12_take 50 = .ok (.ifCond .lt 29, 3) := by decide +kernel
theorem gdX12_take_53 : decode cX12_take 53 = .ok (.aload_n 0, 1) := by decide +kernel
theorem gdX12_take_54 : decode cX12_take 54 = .ok (.getfield 55, 3) := by decide +kernel
theorem gdX12_take_57 : decode cX12_take 57 = .ok (.iload_n 1, 1) := by decide +kernel
theorem gdX12_take_58 : decode cX12_take 58 = .ok (.baload, 1) := by decide +kernel
theorem gdX12_take_59 : decode cX12_take 59 = .ok (.ifCond .ne 20, 3) := by decide +kernel
theorem gdX12_take_62 : decode cX12_take 62 = .ok (.aload_n 0, 1) := by decide +kernel
theorem gdX12_take_63 : decode cX12_take 63 = .ok (.iload_n 2, 1) := by decide +kernel
theorem gdX12_take_64 : decode cX12_take 64 = .ok (.invokevirtual 340, 3) := by decide +kernel
theorem gdX12_take_67 : decode cX12_take 67 = .ok (.aload_n 0, 1) := by decide +kernel
theorem gdX12_take_68 : decode cX12_take 68 = .ok (.getfield 46, 3) := by decide +kernel
theorem gdX12_take_71 : decode cX12_take 71 = .ok (.iload_n 1, 1) := by decide +kernel
theorem gdX12_take_72 : decode cX12_take 72 = .ok (.iaload, 1) := by decide +kernel
theorem gdX12_take_73 : decode cX12_take 73 = .ok (.invokestatic 344, 3) := by decide +kernel
theorem gdX12_take_76 : decode cX12_take 76 = .ok (.ifCond .ne 6, 3) := by decide +kernel
theorem gdX12_take_82 : decode cX12_take 82 = .ok (.aload_n 0, 1) := by decide +kernel
theorem gdX12_take_83 : decode cX12_take 83 = .ok (.iload_n 1, 1) := by decide +kernel
theorem gdX12_take_84 : decode cX12_take 84 = .ok (.aload_n 0, 1) := by decide +kernel
theorem gdX12_take_85 : decode cX12_take 85 = .ok (.getfield 95, 3) := by decide +kernel
theorem gdX12_take_88 : decode cX12_take 88 = .ok (.iload_n 2, 1) := by decide +kernel
theorem gdX12_take_89 : decode cX12_take 89 = .ok (.iaload, 1) := by decide +kernel
theorem gdX12_take_90 : decode cX12_take 90 = .ok (.iconst 1, 1) := by decide +kernel
theorem gdX12_take_91 : decode cX12_take 91 = .ok (.isub, 1) := by decide +kernel
theorem gdX12_take_92 : decode cX12_take 92 = .ok (.invokevirtual 277, 3) := by decide +kernel
theorem gdX12_take_95 : decode cX12_take 95 = .ok (.istore_n 3, 1) := by decide +kernel
theorem gdX12_take_96 : decode cX12_take 96 = .ok (.iload_n 3, 1) := by decide +kernel
theorem gdX12_take_97 : decode cX12_take 97 = .ok (.ifCond .ge 11, 3) := by decide +kernel
theorem gdX12_take_108 : decode cX12_take 108 = .ok (.iload_n 3, 1) := by decide +kernel
theorem gdX12_take_100 : decode cX12_take 100 = .ok (.aload_n 0, 1) := by decide +kernel
theorem gdX12_take_101 : decode cX12_take 101 = .ok (.iload_n 1, 1) := by decide +kernel
theorem gdX12_take_102 : decode cX12_take 102 = .ok (.invokevirtual 355, 3) := by decide +kernel
theorem gdX12_take_105 : decode cX12_take 105 = .ok (.goto 4, 3) := by decide +kernel
theorem gdX12_take_38 : decode cX12_take 38 = .ok (.aload_n 0, 1) := by decide +kernel
theorem gdX12_take_39 : decode cX12_take 39 = .ok (.iconst 3, 1) := by decide +kernel
theorem gdX12_take_40 : decode cX12_take 40 = .ok (.invokevirtual 216, 3) := by decide +kernel
theorem gdX12_take_43 : decode cX12_take 43 = .ok (.ireturn, 1) := by decide +kernel
theorem gdX12_take_27 : decode cX12_take 27 = .ok (.bipush (-2), 2) := by decide +kernel
theorem gdX12_take_29 : decode cX12_take 29 = .ok (.ireturn, 1) := by decide +kernel
theorem gdX12_tear_0 : decode cX12_tear 0 = .ok (.aload_n 0, 1) := by decide +kernel
theorem gdX12_tear_1 : decode cX12_tear 1 = .ok (.iload_n 1, 1) := by decide +kernel
theorem gdX12_tear_2 : decode cX12_tear 2 = .ok (.invokevirtual 223, 3) := by decide +kernel
theorem gdX12_tear_5 : decode cX12_tear 5 = .ok (.istore_n 2, 1) := by decide +kernel
theorem gdX12_tear_6 : decode cX12_tear 6 = .ok (.iload_n 2, 1) := by decide +kernel
theorem gdX12_tear_7 : decode cX12_tear 7 = .ok (.ifCond .ge 5, 3) := by decide +kernel
theorem gdX12_tear_12 : decode cX12_tear 12 = .ok (.aload_n 0, 1) := by decide +kernel
theorem gdX12_tear_13 : decode cX12_tear 13 = .ok (.getfield 13, 3) := by decide +kernel
theorem gdX12_tear_16 : decode cX12_tear 16 = .ok (.iload_n 1, 1) := by decide +kernel
theorem gdX12_tear_17 : decode cX12_tear 17 = .ok (.bipush (-9), 2) := by decide +kernel
theorem gdX12_tear_19 : decode cX12_tear 19 = .ok (.iastore, 1) := by decide +kernel
theorem gdX12_tear_20 : decode cX12_tear 20 = .ok (.iconst 1, 1) := by decide +kernel
theorem gdX12_tear_21 : decode cX12_tear 21 = .ok (.ireturn, 1) := by decide +kernel
theorem gdX12_tear_10 : decode cX12_tear 10 = .ok (.iload_n 2, 1) := by decide +kernel
theorem gdX12_tear_11 : decode cX12_tear 11 = .ok (.ireturn, 1) := by decide +kernel
theorem gdX12_text_13 : decode cX12_text 13 = .ok (.iconst (-1), 1) := by decide +kernel
theorem gdX12_text_14 : decode cX12_text 14 = .ok (.ireturn, 1) := by decide +kernel
theorem gdX12_text_59 : decode cX12_text 59 = .ok (.iload_n 2, 1) := by decide +kernel
theorem gdX12_text_60 : decode cX12_text 60 = .ok (.ireturn, 1) := by decide +kernel
theorem gdX12_text_34 : decode cX12_text 34 = .ok (.iload_n 3, 1) := by decide +kernel
theorem gdX12_text_35 : decode cX12_text 35 = .ok (.bipush 40, 2) := by decide +kernel
theorem gdX12_text_37 : decode cX12_text 37 = .ok (.if_icmp .ge 22, 3) := by decide +kernel
theorem gdX12_text_40 : decode cX12_text 40 = .ok (.aload_n 0, 1) := by decide +kernel
theorem gdX12_text_41 : decode cX12_text 41 = .ok (.getfield 25, 3) := by decide +kernel
theorem gdX12_text_44 : decode cX12_text 44 = .ok (.bipush 40, 2) := by decide +kernel
theorem gdX12_text_46 : decode cX12_text 46 = .ok (.iload_n 1, 1) := by decide +kernel
theorem gdX12_text_47 : decode cX12_text 47 = .ok (.imul, 1) := by decide +kernel
theorem gdX12_text_48 : decode cX12_text 48 = .ok (.iload_n 3, 1) := by decide +kernel
theorem gdX12_text_49 : decode cX12_text 49 = .ok (.iadd, 1) := by decide +kernel
theorem gdX12_text_50 : decode cX12_text 50 = .ok (.bipush 32, 2) := by decide +kernel
theorem gdX12_text_52 : decode cX12_text 52 = .ok (.iastore, 1) := by decide +kernel
theorem gdX12_text_53 : decode cX12_text 53 = .ok (.iinc 3 1, 3) := by decide +kernel
theorem gdX12_text_56 : decode cX12_text 56 = .ok (.goto (-22), 3) := by decide +kernel
theorem gdX12_text_0 : decode cX12_text 0 = .ok (.iload_n 1, 1) := by decide +kernel
theorem gdX12_text_1 : decode cX12_text 1 = .ok (.invokestatic 220, 3) := by decide +kernel
theorem gdX12_text_4 : decode cX12_text 4 = .ok (.ifCond .eq 9, 3) := by decide +kernel
theorem gdX12_text_7 : decode cX12_text 7 = .ok (.iload_n 2, 1) := by decide +kernel
theorem gdX12_text_8 : decode cX12_text 8 = .ok (.bipush 40, 2) := by decide +kernel
theorem gdX12_text_10 : decode cX12_text 10 = .ok (.if_icmp .le 5, 3) := by decide +kernel
theorem gdX12_text_15 : decode cX12_text 15 = .ok (.iload_n 2, 1) := by decide +kernel
theorem gdX12_text_16 : decode cX12_text 16 = .ok (.ifCond .ge 9, 3) := by decide +kernel
theorem gdX12_text_25 : decode cX12_text 25 = .ok (.aload_n 0, 1) := by decide +kernel
theorem gdX12_text_26 : decode cX12_text 26 = .ok (.getfield 22, 3) := by decide +kernel
theorem gdX12_text_29 : decode cX12_text 29 = .ok (.iload_n 1, 1) := by decide +kernel
theorem gdX12_text_30 : decode cX12_text 30 = .ok (.iload_n 2, 1) := by decide +kernel
theorem gdX12_text_31 : decode cX12_text 31 = .ok (.iastore, 1) := by decide +kernel
theorem gdX12_text_32 : decode cX12_text 32 = .ok (.iconst 0, 1) := by decide +kernel
theorem gdX12_text_33 : decode cX12_text 33 = .ok (.istore_n 3, 1) := by decide +kernel
theorem gdX12_text_19 : decode cX12_text 19 = .ok (.aload_n 0, 1) := by decide +kernel
theorem gdX12_text_20 : decode cX12_text 20 = .ok (.iconst 5, 1) := by decide +kernel
theorem gdX12_text_21 : decode cX12_text 21 = .ok (.invokevirtual 216, 3) := by decide +kernel
theorem gdX12_text_24 : decode cX12_text 24 = .ok (.ireturn, 1) := by decide +kernel
theorem gdX12_told_32 : decode cX12_told 32 = .ok (.ireturn, 1) := by decide +kernel
theorem gdX12_told_31 : decode cX12_told 31 = .ok (.iconst (-1), 1) := by decide +kernel
theorem gdX12_told_0 : decode cX12_told 0 = .ok (.aload_n 0, 1) := by decide +kernel
theorem gdX12_told_1 : decode cX12_told 1 = .ok (.iload_n 1, 1) := by decide +kernel
theorem gdX12_told_2 : decode cX12_told 2 = .ok (.invokevirtual 308, 3) := by decide +kernel
theorem gdX12_told_5 : decode cX12_told 5 = .ok (.ifCond .eq 26, 3) := by decide +kernel
theorem gdX12_told_8 : decode cX12_told 8 = .ok (.iload_n 2, 1) := by decide +kernel
theorem gdX12_told_9 : decode cX12_told 9 = .ok (.iconst 0, 1) := by decide +kernel
theorem gdX12_told_10 : decode cX12_told 10 = .ok (.iconst 2, 1) := by decide +kernel
theorem gdX12_told_11 : decode cX12_told 11 = .ok (.invokestatic 208, 3) := by decide +kernel
theorem gdX12_told_14 : decode cX12_told 14 = .ok (.ifCond .eq 17, 3) := by decide +kernel
theorem gdX12_told_17 : decode cX12_told 17 = .ok (.aload_n 0, 1) := by decide +kernel
theorem gdX12_told_18 : decode cX12_told 18 = .ok (.aload_n 0, 1) := by decide +kernel
theorem gdX12_told_19 : decode cX12_told 19 = .ok (.iload_n 1, 1) := by decide +kernel
theorem gdX12_told_20 : decode cX12_told 20 = .ok (.iload_n 2, 1) := by decide +kernel
theorem gdX12_told_21 : decode cX12_told 21 = .ok (.invokevirtual 358, 3) := by decide +kernel
theorem gdX12_told_24 : decode cX12_told 24 = .ok (.iconst 1, 1) := by decide +kernel
theorem gdX12_told_25 : decode cX12_told 25 = .ok (.invokevirtual 290, 3) := by decide +kernel
theorem gdX12_told_28 : decode cX12_told 28 = .ok (.goto 4, 3) := by decide +kernel
theorem gdX12_value_25 : decode cX12_value 25 = .ok (.ireturn, 1) := by decide +kernel
theorem gdX12_value_24 : decode cX12_value 24 = .ok (.iconst (-1), 1) := by decide +kernel
theorem gdX12_value_0 : decode cX12_value 0 = .ok (.aload_n 0, 1) := by decide +kernel
theorem gdX12_value_1 : decode cX12_value 1 = .ok (.iload_n 1, 1) := by decide +kernel
theorem gdX12_value_2 : decode cX12_value 2 = .ok (.invokevirtual 274, 3) := by decide +kernel
theorem gdX12_value_5 : decode cX12_value 5 = .ok (.ifCond .eq 19, 3) := by decide +kernel
theorem gdX12_value_8 : decode cX12_value 8 = .ok (.iload_n 2, 1) := by decide +kernel
theorem gdX12_value_9 : decode cX12_value 9 = .ok (.invokestatic 238, 3) := by decide +kernel
theorem gdX12_value_12 : decode cX12_value 12 = .ok (.ifCond .eq 12, 3) := by decide +kernel
theorem gdX12_value_15 : decode cX12_value 15 = .ok (.aload_n 0, 1) := by decide +kernel
theorem gdX12_value_16 : decode cX12_value 16 = .ok (.iload_n 1, 1) := by decide +kernel
theorem gdX12_value_17 : decode cX12_value 17 = .ok (.iload_n 2, 1) := by decide +kernel
theorem gdX12_value_18 : decode cX12_value 18 = .ok (.invokevirtual 277, 3) := by decide +kernel
theorem gdX12_value_21 : decode cX12_value 21 = .ok (.goto 4, 3) := by decide +kernel
theorem gdX12_walk_28 : decode cX12_walk 28 = .ok (.ireturn, 1) := by decide +kernel
theorem gdX12_walk_0 : decode cX12_walk 0 = .ok (.aload_n 0, 1) := by decide +kernel
theorem gdX12_walk_1 : decode cX12_walk 1 = .ok (.getfield 74, 3) := by decide +kernel
theorem gdX12_walk_4 : decode cX12_walk 4 = .ok (.iload_n 1, 1) := by decide +kernel
theorem gdX12_walk_5 : decode cX12_walk 5 = .ok (.iaload, 1) := by decide +kernel
theorem gdX12_walk_6 : decode cX12_walk 6 = .ok (.ifCond .ge 7, 3) := by decide +kernel
theorem gdX12_walk_13 : decode cX12_walk 13 = .ok (.aload_n 0, 1) := by decide +kernel
theorem gdX12_walk_14 : decode cX12_walk 14 = .ok (.getfield 74, 3) := by decide +kernel
theorem gdX12_walk_17 : decode cX12_walk 17 = .ok (.iload_n 1, 1) := by decide +kernel
theorem gdX12_walk_18 : decode cX12_walk 18 = .ok (.iaload, 1) := by decide +kernel
theorem gdX12_walk_19 : decode cX12_walk 19 = .ok (.aload_n 0, 1) := by decide +kernel
theorem gdX12_walk_20 : decode cX12_walk 20 = .ok (.getfield 46, 3) := by decide +kernel
theorem gdX12_walk_23 : decode cX12_walk 23 = .ok (.iload_n 2, 1) := by decide +kernel
theorem gdX12_walk_24 : decode cX12_walk 24 = .ok (.iaload, 1) := by decide +kernel
theorem gdX12_walk_25 : decode cX12_walk 25 = .ok (.invokestatic 337, 3) := by decide +kernel
theorem gdX12_walk_9 : decode cX12_walk 9 = .ok (.iconst 0, 1) := by decide +kernel
theorem gdX12_walk_10 : decode cX12_walk 10 = .ok (.goto 18, 3) := by decide +kernel
theorem gdX12_relax_19 : decode cX12_relax 19 = .ok (.iconst 0, 1) := by decide +kernel
theorem gdX12_relax_20 : decode cX12_relax 20 = .ok (.ireturn, 1) := by decide +kernel
theorem gdX12_relax_0 : decode cX12_relax 0 = .ok (.aload_n 0, 1) := by decide +kernel
theorem gdX12_relax_1 : decode cX12_relax 1 = .ok (.getfield 153, 3) := by decide +kernel
theorem gdX12_relax_4 : decode cX12_relax 4 = .ok (.iload_n 1, 1) := by decide +kernel
theorem gdX12_relax_5 : decode cX12_relax 5 = .ok (.iaload, 1) := by decide +kernel
theorem gdX12_relax_6 : decode cX12_relax 6 = .ok (.ifCond .lt 13, 3) := by decide +kernel
theorem gdX12_relax_9 : decode cX12_relax 9 = .ok (.iload_n 2, 1) := by decide +kernel
theorem gdX12_relax_10 : decode cX12_relax 10 = .ok (.aload_n 0, 1) := by decide +kernel
theorem gdX12_relax_11 : decode cX12_relax 11 = .ok (.getfield 156, 3) := by decide +kernel
theorem gdX12_relax_14 : decode cX12_relax 14 = .ok (.iload_n 1, 1) := by decide +kernel
theorem gdX12_relax_15 : decode cX12_relax 15 = .ok (.iaload, 1) := by decide +kernel
theorem gdX12_relax_16 : decode cX12_relax 16 = .ok (.if_icmp .lt 5, 3) := by decide +kernel
theorem gdX12_relax_21 : decode cX12_relax 21 = .ok (.aload_n 0, 1) := by decide +kernel
theorem gdX12_relax_22 : decode cX12_relax 22 = .ok (.getfield 156, 3) := by decide +kernel
theorem gdX12_relax_25 : decode cX12_relax 25 = .ok (.iload_n 1, 1) := by decide +kernel
theorem gdX12_relax_26 : decode cX12_relax 26 = .ok (.iload_n 2, 1) := by decide +kernel
theorem gdX12_relax_27 : decode cX12_relax 27 = .ok (.iastore, 1) := by decide +kernel
theorem gdX12_relax_28 : decode cX12_relax 28 = .ok (.aload_n 0, 1) := by decide +kernel
theorem gdX12_relax_29 : decode cX12_relax 29 = .ok (.getfield 159, 3) := by decide +kernel
theorem gdX12_relax_32 : decode cX12_relax 32 = .ok (.iload_n 1, 1) := by decide +kernel
theorem gdX12_relax_33 : decode cX12_relax 33 = .ok (.iload_n 3, 1) := by decide +kernel
theorem gdX12_relax_34 : decode cX12_relax 34 = .ok (.iastore, 1) := by decide +kernel
theorem gdX12_relax_35 : decode cX12_relax 35 = .ok (.aload_n 0, 1) := by decide +kernel
theorem gdX12_relax_36 : decode cX12_relax 36 = .ok (.getfield 162, 3) := by decide +kernel
theorem gdX12_relax_39 : decode cX12_relax 39 = .ok (.iload_n 1, 1) := by decide +kernel
theorem gdX12_relax_40 : decode cX12_relax 40 = .ok (.iload 4, 2) := by decide +kernel
theorem gdX12_relax_42 : decode cX12_relax 42 = .ok (.iastore, 1) := by decide +kernel
theorem gdX12_relax_43 : decode cX12_relax 43 = .ok (.iconst 1, 1) := by decide +kernel
theorem gdX12_relax_44 : decode cX12_relax 44 = .ok (.ireturn, 1) := by decide +kernel
theorem gdX12_cheapest_285 : decode cX12_cheapest 285 = .ok (.iload_n 2, 1) := by decide +kernel
theorem gdX12_cheapest_286 : decode cX12_cheapest 286 = .ok (.ireturn, 1) := by decide +kernel
theorem gdX12_cheapest_278 : decode cX12_cheapest 278 = .ok (.istore_n 2, 1) := by decide +kernel
theorem gdX12_cheapest_279 : decode cX12_cheapest 279 = .ok (.iinc 3 1, 3) := by decide +kernel
theorem gdX12_cheapest_282 : decode cX12_cheapest 282 = .ok (.goto (-57), 3) := by decide +kernel
theorem gdX12_cheapest_273 : decode cX12_cheapest 273 = .ok (.iload_n 3, 1) := by decide +kernel
theorem gdX12_cheapest_274 : decode cX12_cheapest 274 = .ok (.goto 4, 3) := by decide +kernel
theorem gdX12_cheapest_277 : decode cX12_cheapest 277 = .ok (.iload_n 2, 1) := by decide +kernel
theorem gdX12_cheapest_225 : decode cX12_cheapest 225 = .ok (.iload_n 3, 1) := by decide +kernel
theorem gdX12_cheapest_226 : decode cX12_cheapest 226 = .ok (.aload_n 0, 1) := by decide +kernel
theorem gdX12_cheapest_227 : decode cX12_cheapest 227 = .ok (.getfield 254, 3) := by decide +kernel
theorem gdX12_cheapest_230 : decode cX12_cheapest 230 = .ok (.if_icmp .ge 55, 3) := by decide +kernel
theorem gdX12_cheapest_233 : decode cX12_cheapest 233 = .ok (.aload_n 0, 1) := by decide +kernel
theorem gdX12_cheapest_234 : decode cX12_cheapest 234 = .ok (.getfield 153, 3) := by decide +kernel
theorem gdX12_cheapest_237 : decode cX12_cheapest 237 = .ok (.iload_n 3, 1) := by decide +kernel
theorem gdX12_cheapest_238 : decode cX12_cheapest 238 = .ok (.iaload, 1) := by decide +kernel
theorem gdX12_cheapest_239 : decode cX12_cheapest 239 = .ok (.ifCond .le 38, 3) := by decide +kernel
theorem gdX12_cheapest_242 : decode cX12_cheapest 242 = .ok (.aload_n 0, 1) := by decide +kernel
theorem gdX12_cheapest_243 : decode cX12_cheapest 243 = .ok (.getfield 156, 3) := by decide +kernel
theorem gdX12_cheapest_246 : decode cX12_cheapest 246 = .ok (.iload_n 3, 1) := by decide +kernel
theorem gdX12_cheapest_247 : decode cX12_cheapest 247 = .ok (.iaload, 1) := by decide +kernel
theorem gdX12_cheapest_248 : decode cX12_cheapest 248 = .ok (.ldc_w 314, 3) := by decide +kernel
theorem gdX12_cheapest_251 : decode cX12_cheapest 251 = .ok (.if_icmp .ge 26, 3) := by decide +kernel
theorem gdX12_cheapest_254 : decode cX12_cheapest 254 = .ok (.iload_n 2, 1) := by decide +kernel
theorem gdX12_cheapest_255 : decode cX12_cheapest 255 = .ok (.ifCond .lt 18, 3) := by decide +kernel
theorem gdX12_cheapest_258 : decode cX12_cheapest 258 = .ok (.aload_n 0, 1) := by decide +kernel
theorem gdX12_cheapest_259 : decode cX12_cheapest 259 = .ok (.getfield 156, 3) := by decide +kernel
theorem gdX12_cheapest_262 : decode cX12_cheapest 262 = .ok (.iload_n 3, 1) := by decide +kernel
theorem gdX12_cheapest_263 : decode cX12_cheapest 263 = .ok (.iaload, 1) := by decide +kernel
theorem gdX12_cheapest_264 : decode cX12_cheapest 264 = .ok (.aload_n 0, 1) := by decide +kernel
theorem gdX12_cheapest_265 : decode cX12_cheapest 265 = .ok (.getfield 156, 3) := by decide +kernel
theorem gdX12_cheapest_268 : decode cX12_cheapest 268 = .ok (.iload_n 2, 1) := by decide +kernel
theorem gdX12_cheapest_269 : decode cX12_cheapest 269 = .ok (.iaload, 1) := by decide +kernel
theorem gdX12_cheapest_270 : decode cX12_cheapest 270 = .ok (.if_icmp .ge 7, 3) := by decide +kernel
theorem gdX12_cheapest_220 : decode cX12_cheapest 220 = .ok (.bipush (-9), 2) := by decide +kernel
theorem gdX12_cheapest_222 : decode cX12_cheapest 222 = .ok (.istore_n 2, 1) := by decide +kernel
theorem gdX12_cheapest_223 : decode cX12_cheapest 223 = .ok (.iconst 0, 1) := by decide +kernel
theorem gdX12_cheapest_224 : decode cX12_cheapest 224 = .ok (.istore_n 3, 1) := by decide +kernel
theorem gdX12_cheapest_217 : decode cX12_cheapest 217 = .ok (.goto (-125), 3) := by decide +kernel
theorem gdX12_cheapest_211 : decode cX12_cheapest 211 = .ok (.iinc 2 1, 3) := by decide +kernel
theorem gdX12_cheapest_214 : decode cX12_cheapest 214 = .ok (.goto (-114), 3) := by decide +kernel
theorem gdX12_cheapest_204 : decode cX12_cheapest 204 = .ok (.istore_n 1, 1) := by decide +kernel
theorem gdX12_cheapest_205 : decode cX12_cheapest 205 = .ok (.iinc 4 1, 3) := by decide +kernel
theorem gdX12_cheapest_208 : decode cX12_cheapest 208 = .ok (.goto (-76), 3) := by decide +kernel
theorem gdX12_cheapest_199 : decode cX12_cheapest 199 = .ok (.iconst 1, 1) := by decide +kernel
theorem gdX12_cheapest_200 : decode cX12_cheapest 200 = .ok (.goto 4, 3) := by decide +kernel
theorem gdX12_cheapest_195 : decode cX12_cheapest 195 = .ok (.iload_n 1, 1) := by decide +kernel
theorem gdX12_cheapest_196 : decode cX12_cheapest 196 = .ok (.ifCond .eq 7, 3) := by decide +kernel
theorem gdX12_cheapest_203 : decode cX12_cheapest 203 = .ok (.iconst 0, 1) := by decide +kernel
theorem gdX12_cheapest_132 : decode cX12_cheapest 132 = .ok (.iload 4, 2) := by decide +kernel
theorem gdX12_cheapest_134 : decode cX12_cheapest 134 = .ok (.aload_n 0, 1) := by decide +kernel
theorem gdX12_cheapest_135 : decode cX12_cheapest 135 = .ok (.getfield 254, 3) := by decide +kernel
theorem gdX12_cheapest_138 : decode cX12_cheapest 138 = .ok (.if_icmp .ge 73, 3) := by decide +kernel
theorem gdX12_cheapest_141 : decode cX12_cheapest 141 = .ok (.iload_n 3, 1) := by decide +kernel
theorem gdX12_cheapest_142 : decode cX12_cheapest 142 = .ok (.ifCond .lt 69, 3) := by decide +kernel
theorem gdX12_cheapest_145 : decode cX12_cheapest 145 = .ok (.aload_n 0, 1) := by decide +kernel
theorem gdX12_cheapest_146 : decode cX12_cheapest 146 = .ok (.getfield 156, 3) := by decide +kernel
theorem gdX12_cheapest_149 : decode cX12_cheapest 149 = .ok (.iload_n 3, 1) := by decide +kernel
theorem gdX12_cheapest_150 : decode cX12_cheapest 150 = .ok (.iaload, 1) := by decide +kernel
theorem gdX12_cheapest_151 : decode cX12_cheapest 151 = .ok (.ldc_w 314, 3) := by decide +kernel
theorem gdX12_cheapest_154 : decode cX12_cheapest 154 = .ok (.if_icmp .ge 57, 3) := by decide +kernel
theorem gdX12_cheapest_157 : decode cX12_cheapest 157 = .ok (.iload 4, 2) := by decide +kernel
theorem gdX12_cheapest_159 : decode cX12_cheapest 159 = .ok (.iload_n 3, 1) := by decide +kernel
theorem gdX12_cheapest_160 : decode cX12_cheapest 160 = .ok (.if_icmp .eq 35, 3) := by decide +kernel
theorem gdX12_cheapest_163 : decode cX12_cheapest 163 = .ok (.aload_n 0, 1) := by decide +kernel
theorem gdX12_cheapest_164 : decode cX12_cheapest 164 = .ok (.iload 4, 2) := by decide +kernel
theorem gdX12_cheapest_166 : decode cX12_cheapest 166 = .ok (.aload_n 0, 1) := by decide +kernel
theorem gdX12_cheapest_167 : decode cX12_cheapest 167 = .ok (.getfield 156, 3) := by decide +kernel
theorem gdX12_cheapest_170 : decode cX12_cheapest 170 = .ok (.iload_n 3, 1) := by decide +kernel
theorem gdX12_cheapest_171 : decode cX12_cheapest 171 = .ok (.iaload, 1) := by decide +kernel
theorem gdX12_cheapest_172 : decode cX12_cheapest 172 = .ok (.aload_n 0, 1) := by decide +kernel
theorem gdX12_cheapest_173 : decode cX12_cheapest 173 = .ok (.iload_n 2, 1) := by decide +kernel
theorem gdX12_cheapest_174 : decode cX12_cheapest 174 = .ok (.iload_n 3, 1) := by decide +kernel
theorem gdX12_cheapest_175 : decode cX12_cheapest 175 = .ok (.invokevirtual 380, 3) := by decide +kernel
theorem gdX12_cheapest_178 : decode cX12_cheapest 178 = .ok (.isub, 1) := by decide +kernel
theorem gdX12_cheapest_179 : decode cX12_cheapest 179 = .ok (.aload_n 0, 1) := by decide +kernel
theorem gdX12_cheapest_180 : decode cX12_cheapest 180 = .ok (.iload_n 2, 1) := by decide +kernel
theorem gdX12_cheapest_181 : decode cX12_cheapest 181 = .ok (.iload 4, 2) := by decide +kernel
theorem gdX12_cheapest_183 : decode cX12_cheapest 183 = .ok (.invokevirtual 380, 3) := by decide +kernel
theorem gdX12_cheapest_186 : decode cX12_cheapest 186 = .ok (.iadd, 1) := by decide +kernel
theorem gdX12_cheapest_187 : decode cX12_cheapest 187 = .ok (.iload_n 2, 1) := by decide +kernel
theorem gdX12_cheapest_188 : decode cX12_cheapest 188 = .ok (.iload_n 3, 1) := by decide +kernel
theorem gdX12_cheapest_189 : decode cX12_cheapest 189 = .ok (.invokevirtual 383, 3) := by decide +kernel
theorem gdX12_cheapest_192 : decode cX12_cheapest 192 = .ok (.ifCond .ne 7, 3) := by decide +kernel
theorem gdX12_cheapest_128 : decode cX12_cheapest 128 = .ok (.istore_n 3, 1) := by decide +kernel
theorem gdX12_cheapest_129 : decode cX12_cheapest 129 = .ok (.iconst 0, 1) := by decide +kernel
theorem gdX12_cheapest_130 : decode cX12_cheapest 130 = .ok (.istore 4, 2) := by decide +kernel
theorem gdX12_cheapest_100 : decode cX12_cheapest 100 = .ok (.iload_n 2, 1) := by decide +kernel
theorem gdX12_cheapest_101 : decode cX12_cheapest 101 = .ok (.aload_n 0, 1) := by decide +kernel
theorem gdX12_cheapest_102 : decode cX12_cheapest 102 = .ok (.getfield 281, 3) := by decide +kernel
theorem gdX12_cheapest_105 : decode cX12_cheapest 105 = .ok (.if_icmp .ge 112, 3) := by decide +kernel
theorem gdX12_cheapest_108 : decode cX12_cheapest 108 = .ok (.aload_n 0, 1) := by decide +kernel
theorem gdX12_cheapest_109 : decode cX12_cheapest 109 = .ok (.getfield 150, 3) := by decide +kernel
theorem gdX12_cheapest_112 : decode cX12_cheapest 112 = .ok (.iload_n 2, 1) := by decide +kernel
theorem gdX12_cheapest_113 : decode cX12_cheapest 113 = .ok (.baload, 1) := by decide +kernel
theorem gdX12_cheapest_114 : decode cX12_cheapest 114 = .ok (.ifCond .eq 12, 3) := by decide +kernel
theorem gdX12_cheapest_126 : decode cX12_cheapest 126 = .ok (.bipush (-9), 2) := by decide +kernel
theorem gdX12_cheapest_117 : decode cX12_cheapest 117 = .ok (.aload_n 0, 1) := by decide +kernel
theorem gdX12_cheapest_118 : decode cX12_cheapest 118 = .ok (.getfield 147, 3) := by decide +kernel
theorem gdX12_cheapest_121 : decode cX12_cheapest 121 = .ok (.iload_n 2, 1) := by decide +kernel
theorem gdX12_cheapest_122 : decode cX12_cheapest 122 = .ok (.iaload, 1) := by decide +kernel
theorem gdX12_cheapest_123 : decode cX12_cheapest 123 = .ok (.goto 5, 3) := by decide +kernel
theorem gdX12_cheapest_92 : decode cX12_cheapest 92 = .ok (.iload_n 1, 1) := by decide +kernel
theorem gdX12_cheapest_93 : decode cX12_cheapest 93 = .ok (.ifCond .eq 127, 3) := by decide +kernel
theorem gdX12_cheapest_96 : decode cX12_cheapest 96 = .ok (.iconst 0, 1) := by decide +kernel
theorem gdX12_cheapest_97 : decode cX12_cheapest 97 = .ok (.istore_n 1, 1) := by decide +kernel
theorem gdX12_cheapest_98 : decode cX12_cheapest 98 = .ok (.iconst 0, 1) := by decide +kernel
theorem gdX12_cheapest_99 : decode cX12_cheapest 99 = .ok (.istore_n 2, 1) := by decide +kernel
theorem gdX12_cheapest_90 : decode cX12_cheapest 90 = .ok (.iconst 1, 1) := by decide +kernel
theorem gdX12_cheapest_91 : decode cX12_cheapest 91 = .ok (.istore_n 1, 1) := by decide +kernel
theorem gdX12_cheapest_84 : decode cX12_cheapest 84 = .ok (.iinc 1 1, 3) := by decide +kernel
theorem gdX12_cheapest_87 : decode cX12_cheapest 87 = .ok (.goto (-60), 3) := by decide +kernel
theorem gdX12_cheapest_37 : decode cX12_cheapest 37 = .ok (.iload_n 2, 1) := by decide +kernel
theorem gdX12_cheapest_38 : decode cX12_cheapest 38 = .ok (.aload_n 0, 1) := by decide +kernel
theorem gdX12_cheapest_39 : decode cX12_cheapest 39 = .ok (.getfield 254, 3) := by decide +kernel
theorem gdX12_cheapest_42 : decode cX12_cheapest 42 = .ok (.if_icmp .ge 42, 3) := by decide +kernel
theorem gdX12_cheapest_45 : decode cX12_cheapest 45 = .ok (.aload_n 0, 1) := by decide +kernel
theorem gdX12_cheapest_46 : decode cX12_cheapest 46 = .ok (.getfield 150, 3) := by decide +kernel
theorem gdX12_cheapest_49 : decode cX12_cheapest 49 = .ok (.iload_n 1, 1) := by decide +kernel
theorem gdX12_cheapest_50 : decode cX12_cheapest 50 = .ok (.baload, 1) := by decide +kernel
theorem gdX12_cheapest_51 : decode cX12_cheapest 51 = .ok (.ifCond .eq 33, 3) := by decide +kernel
theorem gdX12_cheapest_54 : decode cX12_cheapest 54 = .ok (.aload_n 0, 1) := by decide +kernel
theorem gdX12_cheapest_55 : decode cX12_cheapest 55 = .ok (.getfield 147, 3) := by decide +kernel
theorem gdX12_cheapest_58 : decode cX12_cheapest 58 = .ok (.iload_n 1, 1) := by decide +kernel
theorem gdX12_cheapest_59 : decode cX12_cheapest 59 = .ok (.iaload, 1) := by decide +kernel
theorem gdX12_cheapest_60 : decode cX12_cheapest 60 = .ok (.ifCond .ge 24, 3) := by decide +kernel
theorem gdX12_cheapest_63 : decode cX12_cheapest 63 = .ok (.aload_n 0, 1) := by decide +kernel
theorem gdX12_cheapest_64 : decode cX12_cheapest 64 = .ok (.iload_n 2, 1) := by decide +kernel
theorem gdX12_cheapest_65 : decode cX12_cheapest 65 = .ok (.aload_n 0, 1) := by decide +kernel
theorem gdX12_cheapest_66 : decode cX12_cheapest 66 = .ok (.iload_n 1, 1) := by decide +kernel
theorem gdX12_cheapest_67 : decode cX12_cheapest 67 = .ok (.iload_n 2, 1) := by decide +kernel
theorem gdX12_cheapest_68 : decode cX12_cheapest 68 = .ok (.invokevirtual 380, 3) := by decide +kernel
theorem gdX12_cheapest_71 : decode cX12_cheapest 71 = .ok (.iload_n 1, 1) := by decide +kernel
theorem gdX12_cheapest_72 : decode cX12_cheapest 72 = .ok (.bipush (-9), 2) := by decide +kernel
theorem gdX12_cheapest_74 : decode cX12_cheapest 74 = .ok (.invokevirtual 383, 3) := by decide +kernel
theorem gdX12_cheapest_77 : decode cX12_cheapest 77 = .ok (.pop, 1) := by decide +kernel
theorem gdX12_cheapest_78 : decode cX12_cheapest 78 = .ok (.iinc 2 1, 3) := by decide +kernel
theorem gdX12_cheapest_81 : decode cX12_cheapest 81 = .ok (.goto (-44), 3) := by decide +kernel
theorem gdX12_cheapest_27 : decode cX12_cheapest 27 = .ok (.iload_n 1, 1) := by decide +kernel
theorem gdX12_cheapest_28 : decode cX12_cheapest 28 = .ok (.aload_n 0, 1) := by decide +kernel
theorem gdX12_cheapest_29 : decode cX12_cheapest 29 = .ok (.getfield 281, 3) := by decide +kernel
theorem gdX12_cheapest_32 : decode cX12_cheapest 32 = .ok (.if_icmp .ge 58, 3) := by decide +kernel
theorem gdX12_cheapest_35 : decode cX12_cheapest 35 = .ok (.iconst 0, 1) := by decide +kernel
theorem gdX12_cheapest_36 : decode cX12_cheapest 36 = .ok (.istore_n 2, 1) := by decide +kernel
theorem gdX12_cheapest_25 : decode cX12_cheapest 25 = .ok (.iconst 0, 1) := by decide +kernel
theorem gdX12_cheapest_26 : decode cX12_cheapest 26 = .ok (.istore_n 1, 1) := by decide +kernel
theorem gdX12_cheapest_2 : decode cX12_cheapest 2 = .ok (.iload_n 1, 1) := by decide +kernel
theorem gdX12_cheapest_3 : decode cX12_cheapest 3 = .ok (.aload_n 0, 1) := by decide +kernel
theorem gdX12_cheapest_4 : decode cX12_cheapest 4 = .ok (.getfield 254, 3) := by decide +kernel
theorem gdX12_cheapest_7 : decode cX12_cheapest 7 = .ok (.if_icmp .ge 18, 3) := by decide +kernel
theorem gdX12_cheapest_10 : decode cX12_cheapest 10 = .ok (.aload_n 0, 1) := by decide +kernel
theorem gdX12_cheapest_11 : decode cX12_cheapest 11 = .ok (.getfield 156, 3) := by decide +kernel
theorem gdX12_cheapest_14 : decode cX12_cheapest 14 = .ok (.iload_n 1, 1) := by decide +kernel
theorem gdX12_cheapest_15 : decode cX12_cheapest 15 = .ok (.ldc_w 314, 3) := by decide +kernel
theorem gdX12_cheapest_18 : decode cX12_cheapest 18 = .ok (.iastore, 1) := by decide +kernel
theorem gdX12_cheapest_19 : decode cX12_cheapest 19 = .ok (.iinc 1 1, 3) := by decide +kernel
theorem gdX12_cheapest_22 : decode cX12_cheapest 22 = .ok (.goto (-20), 3) := by decide +kernel
theorem gdX12_cheapest_0 : decode cX12_cheapest 0 = .ok (.iconst 0, 1) := by decide +kernel
theorem gdX12_cheapest_1 : decode cX12_cheapest 1 = .ok (.istore_n 1, 1) := by decide +kernel
theorem gdX12_whither_267 : decode cX12_whither 267 = .ok (.aload_n 0, 1) := by decide +kernel
theorem gdX12_whither_268 : decode cX12_whither 268 = .ok (.iload 6, 2) := by decide +kernel
theorem gdX12_whither_270 : decode cX12_whither 270 = .ok (.iload 5, 2) := by decide +kernel
theorem gdX12_whither_272 : decode cX12_whither 272 = .ok (.invokevirtual 290, 3) := by decide +kernel
theorem gdX12_whither_275 : decode cX12_whither 275 = .ok (.ireturn, 1) := by decide +kernel
theorem gdX12_whither_258 : decode cX12_whither 258 = .ok (.aload_n 0, 1) := by decide +kernel
theorem gdX12_whither_259 : decode cX12_whither 259 = .ok (.invokevirtual 387, 3) := by decide +kernel
theorem gdX12_whither_262 : decode cX12_whither 262 = .ok (.istore 7, 2) := by decide +kernel
theorem gdX12_whither_264 : decode cX12_whither 264 = .ok (.goto (-76), 3) := by decide +kernel
theorem gdX12_whither_223 : decode cX12_whither 223 = .ok (.iload 8, 2) := by decide +kernel
theorem gdX12_whither_225 : decode cX12_whither 225 = .ok (.ifCond .lt 33, 3) := by decide +kernel
theorem gdX12_whither_228 : decode cX12_whither 228 = .ok (.aload_n 0, 1) := by decide +kernel
theorem gdX12_whither_229 : decode cX12_whither 229 = .ok (.getfield 162, 3) := by decide +kernel
theorem gdX12_whither_232 : decode cX12_whither 232 = .ok (.iload 8, 2) := by decide +kernel
theorem gdX12_whither_234 : decode cX12_whither 234 = .ok (.iaload, 1) := by decide +kernel
theorem gdX12_whither_235 : decode cX12_whither 235 = .ok (.istore 9, 2) := by decide +kernel
theorem gdX12_whither_237 : decode cX12_whither 237 = .ok (.aload_n 0, 1) := by decide +kernel
theorem gdX12_whither_238 : decode cX12_whither 238 = .ok (.getfield 147, 3) := by decide +kernel
theorem gdX12_whither_241 : decode cX12_whither 241 = .ok (.aload_n 0, 1) := by decide +kernel
theorem gdX12_whither_242 : decode cX12_whither 242 = .ok (.getfield 159, 3) := by decide +kernel
theorem gdX12_whither_245 : decode cX12_whither 245 = .ok (.iload 8, 2) := by decide +kernel
theorem gdX12_whither_247 : decode cX12_whither 247 = .ok (.iaload, 1) := by decide +kernel
theorem gdX12_whither_248 : decode cX12_whither 248 = .ok (.iload 8, 2) := by decide +kernel
theorem gdX12_whither_250 : decode cX12_whither 250 = .ok (.iastore, 1) := by decide +kernel
theorem gdX12_whither_251 : decode cX12_whither 251 = .ok (.iload 9, 2) := by decide +kernel
theorem gdX12_whither_253 : decode cX12_whither 253 = .ok (.istore 8, 2) := by decide +kernel
theorem gdX12_whither_255 : decode cX12_whither 255 = .ok (.goto (-32), 3) := by decide +kernel
theorem gdX12_whither_188 : decode cX12_whither 188 = .ok (.iload 7, 2) := by decide +kernel
theorem gdX12_whither_190 : decode cX12_whither 190 = .ok (.ifCond .lt 77, 3) := by decide +kernel
theorem gdX12_whither_193 : decode cX12_whither 193 = .ok (.iinc 5 1, 3) := by decide +kernel
theorem gdX12_whither_196 : decode cX12_whither 196 = .ok (.iload 6, 2) := by decide +kernel
theorem gdX12_whither_198 : decode cX12_whither 198 = .ok (.aload_n 0, 1) := by decide +kernel
theorem gdX12_whither_199 : decode cX12_whither 199 = .ok (.getfield 156, 3) := by decide +kernel
theorem gdX12_whither_202 : decode cX12_whither 202 = .ok (.iload 7, 2) := by decide +kernel
theorem gdX12_whither_204 : decode cX12_whither 204 = .ok (.iaload, 1) := by decide +kernel
theorem gdX12_whither_205 : decode cX12_whither 205 = .ok (.iadd, 1) := by decide +kernel
theorem gdX12_whither_206 : decode cX12_whither 206 = .ok (.istore 6, 2) := by decide +kernel
theorem gdX12_whither_208 : decode cX12_whither 208 = .ok (.aload_n 0, 1) := by decide +kernel
theorem gdX12_whither_209 : decode cX12_whither 209 = .ok (.getfield 153, 3) := by decide +kernel
theorem gdX12_whither_212 : decode cX12_whither 212 = .ok (.iload 7, 2) := by decide +kernel
theorem gdX12_whither_214 : decode cX12_whither 214 = .ok (.dup2, 1) := by decide +kernel
theorem gdX12_whither_215 : decode cX12_whither 215 = .ok (.iaload, 1) := by decide +kernel
theorem gdX12_whither_216 : decode cX12_whither 216 = .ok (.iconst 1, 1) := by decide +kernel
theorem gdX12_whither_217 : decode cX12_whither 217 = .ok (.isub, 1) := by decide +kernel
theorem gdX12_whither_218 : decode cX12_whither 218 = .ok (.iastore, 1) := by decide +kernel
theorem gdX12_whither_219 : decode cX12_whither 219 = .ok (.iload 7, 2) := by decide +kernel
theorem gdX12_whither_221 : decode cX12_whither 221 = .ok (.istore 8, 2) := by decide +kernel
theorem gdX12_whither_176 : decode cX12_whither 176 = .ok (.iconst 0, 1) := by decide +kernel
theorem gdX12_whither_177 : decode cX12_whither 177 = .ok (.istore 5, 2) := by decide +kernel
theorem gdX12_whither_179 : decode cX12_whither 179 = .ok (.iconst 0, 1) := by decide +kernel
theorem gdX12_whither_180 : decode cX12_whither 180 = .ok (.istore 6, 2) := by decide +kernel
theorem gdX12_whither_182 : decode cX12_whither 182 = .ok (.aload_n 0, 1) := by decide +kernel
theorem gdX12_whither_183 : decode cX12_whither 183 = .ok (.invokevirtual 387, 3) := by decide +kernel
theorem gdX12_whither_186 : decode cX12_whither 186 = .ok (.istore 7, 2) := by decide +kernel
theorem gdX12_whither_169 : decode cX12_whither 169 = .ok (.bastore, 1) := by decide +kernel
theorem gdX12_whither_170 : decode cX12_whither 170 = .ok (.iinc 5 1, 3) := by decide +kernel
theorem gdX12_whither_173 : decode cX12_whither 173 = .ok (.goto (-62), 3) := by decide +kernel
theorem gdX12_whither_168 : decode cX12_whither 168 = .ok (.iconst 0, 1) := by decide +kernel
theorem gdX12_whither_111 : decode cX12_whither 111 = .ok (.iload 5, 2) := by decide +kernel
theorem gdX12_whither_113 : decode cX12_whither 113 = .ok (.aload_n 0, 1) := by decide +kernel
theorem gdX12_whither_114 : decode cX12_whither 114 = .ok (.getfield 281, 3) := by decide +kernel
theorem gdX12_whither_117 : decode cX12_whither 117 = .ok (.if_icmp .ge 59, 3) := by decide +kernel
theorem gdX12_whither_120 : decode cX12_whither 120 = .ok (.aload_n 0, 1) := by decide +kernel
theorem gdX12_whither_121 : decode cX12_whither 121 = .ok (.getfield 147, 3) := by decide +kernel
theorem gdX12_whither_124 : decode cX12_whither 124 = .ok (.iload 5, 2) := by decide +kernel
theorem gdX12_whither_126 : decode cX12_whither 126 = .ok (.bipush (-9), 2) := by decide +kernel
theorem gdX12_whither_128 : decode cX12_whither 128 = .ok (.iastore, 1) := by decide +kernel
theorem gdX12_whither_129 : decode cX12_whither 129 = .ok (.aload_n 0, 1) := by decide +kernel
theorem gdX12_whither_130 : decode cX12_whither 130 = .ok (.getfield 150, 3) := by decide +kernel
theorem gdX12_whither_133 : decode cX12_whither 133 = .ok (.iload 5, 2) := by decide +kernel
theorem gdX12_whither_135 : decode cX12_whither 135 = .ok (.aload_n 0, 1) := by decide +kernel
theorem gdX12_whither_136 : decode cX12_whither 136 = .ok (.getfield 71, 3) := by decide +kernel
theorem gdX12_whither_139 : decode cX12_whither 139 = .ok (.iload 5, 2) := by decide +kernel
theorem gdX12_whither_141 : decode cX12_whither 141 = .ok (.iaload, 1) := by decide +kernel
theorem gdX12_whither_142 : decode cX12_whither 142 = .ok (.ifCond .lt 26, 3) := by decide +kernel
theorem gdX12_whither_145 : decode cX12_whither 145 = .ok (.lload_n 3, 1) := by decide +kernel
theorem gdX12_whither_146 : decode cX12_whither 146 = .ok (.aload_n 0, 1) := by decide +kernel
theorem gdX12_whither_147 : decode cX12_whither 147 = .ok (.getfield 46, 3) := by decide +kernel
theorem gdX12_whither_150 : decode cX12_whither 150 = .ok (.aload_n 0, 1) := by decide +kernel
theorem gdX12_whither_151 : decode cX12_whither 151 = .ok (.getfield 71, 3) := by decide +kernel
theorem gdX12_whither_154 : decode cX12_whither 154 = .ok (.iload 5, 2) := by decide +kernel
theorem gdX12_whither_156 : decode cX12_whither 156 = .ok (.iaload, 1) := by decide +kernel
theorem gdX12_whither_157 : decode cX12_whither 157 = .ok (.iaload, 1) := by decide +kernel
theorem gdX12_whither_158 : decode cX12_whither 158 = .ok (.invokestatic 344, 3) := by decide +kernel
theorem gdX12_whither_161 : decode cX12_whither 161 = .ok (.ifCond .eq 7, 3) := by decide +kernel
theorem gdX12_whither_164 : decode cX12_whither 164 = .ok (.iconst 1, 1) := by decide +kernel
theorem gdX12_whither_165 : decode cX12_whither 165 = .ok (.goto 4, 3) := by decide +kernel
theorem gdX12_whither_108 : decode cX12_whither 108 = .ok (.iconst 0, 1) := by decide +kernel
theorem gdX12_whither_109 : decode cX12_whither 109 = .ok (.istore 5, 2) := by decide +kernel
theorem gdX12_whither_101 : decode cX12_whither 101 = .ok (.iastore, 1) := by decide +kernel
theorem gdX12_whither_102 : decode cX12_whither 102 = .ok (.iinc 5 1, 3) := by decide +kernel
theorem gdX12_whither_105 : decode cX12_whither 105 = .ok (.goto (-84), 3) := by decide +kernel
theorem gdX12_whither_69 : decode cX12_whither 69 = .ok (.istore 6, 2) := by decide +kernel
theorem gdX12_whither_71 : decode cX12_whither 71 = .ok (.aload_n 0, 1) := by decide +kernel
theorem gdX12_whither_72 : decode cX12_whither 72 = .ok (.getfield 153, 3) := by decide +kernel
theorem gdX12_whither_75 : decode cX12_whither 75 = .ok (.iload 5, 2) := by decide +kernel
theorem gdX12_whither_77 : decode cX12_whither 77 = .ok (.iload 6, 2) := by decide +kernel
theorem gdX12_whither_79 : decode cX12_whither 79 = .ok (.ifCond .eq 20, 3) := by decide +kernel
theorem gdX12_whither_99 : decode cX12_whither 99 = .ok (.bipush (-9), 2) := by decide +kernel
theorem gdX12_whither_82 : decode cX12_whither 82 = .ok (.aload_n 0, 1) := by decide +kernel
theorem gdX12_whither_83 : decode cX12_whither 83 = .ok (.getfield 52, 3) := by decide +kernel
theorem gdX12_whither_86 : decode cX12_whither 86 = .ok (.iload 5, 2) := by decide +kernel
theorem gdX12_whither_88 : decode cX12_whither 88 = .ok (.iaload, 1) := by decide +kernel
theorem gdX12_whither_89 : decode cX12_whither 89 = .ok (.aload_n 0, 1) := by decide +kernel
theorem gdX12_whither_90 : decode cX12_whither 90 = .ok (.iload 5, 2) := by decide +kernel
theorem gdX12_whither_92 : decode cX12_whither 92 = .ok (.invokevirtual 284, 3) := by decide +kernel
theorem gdX12_whither_95 : decode cX12_whither 95 = .ok (.isub, 1) := by decide +kernel
theorem gdX12_whither_96 : decode cX12_whither 96 = .ok (.goto 5, 3) := by decide +kernel
theorem gdX12_whither_68 : decode cX12_whither 68 = .ok (.iconst 0, 1) := by decide +kernel
theorem gdX12_whither_21 : decode cX12_whither 21 = .ok (.iload 5, 2) := by decide +kernel
theorem gdX12_whither_23 : decode cX12_whither 23 = .ok (.aload_n 0, 1) := by decide +kernel
theorem gdX12_whither_24 : decode cX12_whither 24 = .ok (.getfield 254, 3) := by decide +kernel
theorem gdX12_whither_27 : decode cX12_whither 27 = .ok (.if_icmp .ge 81, 3) := by decide +kernel
theorem gdX12_whither_30 : decode cX12_whither 30 = .ok (.aload_n 0, 1) := by decide +kernel
theorem gdX12_whither_31 : decode cX12_whither 31 = .ok (.getfield 49, 3) := by decide +kernel
theorem gdX12_whither_34 : decode cX12_whither 34 = .ok (.iload 5, 2) := by decide +kernel
theorem gdX12_whither_36 : decode cX12_whither 36 = .ok (.iaload, 1) := by decide +kernel
theorem gdX12_whither_37 : decode cX12_whither 37 = .ok (.ifCond .ne 31, 3) := by decide +kernel
theorem gdX12_whither_40 : decode cX12_whither 40 = .ok (.aload_n 0, 1) := by decide +kernel
theorem gdX12_whither_41 : decode cX12_whither 41 = .ok (.getfield 55, 3) := by decide +kernel
theorem gdX12_whither_44 : decode cX12_whither 44 = .ok (.iload 5, 2) := by decide +kernel
theorem gdX12_whither_46 : decode cX12_whither 46 = .ok (.baload, 1) := by decide +kernel
theorem gdX12_whither_47 : decode cX12_whither 47 = .ok (.ifCond .ne 21, 3) := by decide +kernel
theorem gdX12_whither_50 : decode cX12_whither 50 = .ok (.lload_n 3, 1) := by decide +kernel
theorem gdX12_whither_51 : decode cX12_whither 51 = .ok (.aload_n 0, 1) := by decide +kernel
theorem gdX12_whither_52 : decode cX12_whither 52 = .ok (.getfield 46, 3) := by decide +kernel
theorem gdX12_whither_55 : decode cX12_whither 55 = .ok (.iload 5, 2) := by decide +kernel
theorem gdX12_whither_57 : decode cX12_whither 57 = .ok (.iaload, 1) := by decide +kernel
theorem gdX12_whither_58 : decode cX12_whither 58 = .ok (.invokestatic 344, 3) := by decide +kernel
theorem gdX12_whither_61 : decode cX12_whither 61 = .ok (.ifCond .ne 7, 3) := by decide +kernel
theorem gdX12_whither_64 : decode cX12_whither 64 = .ok (.iconst 1, 1) := by decide +kernel
theorem gdX12_whither_65 : decode cX12_whither 65 = .ok (.goto 4, 3) := by decide +kernel
theorem gdX12_whither_0 : decode cX12_whither 0 = .ok (.aload_n 0, 1) := by decide +kernel
theorem gdX12_whither_1 : decode cX12_whither 1 = .ok (.iload_n 1, 1) := by decide +kernel
theorem gdX12_whither_2 : decode cX12_whither 2 = .ok (.invokevirtual 348, 3) := by decide +kernel
theorem gdX12_whither_5 : decode cX12_whither 5 = .ok (.istore_n 2, 1) := by decide +kernel
theorem gdX12_whither_6 : decode cX12_whither 6 = .ok (.iload_n 2, 1) := by decide +kernel
theorem gdX12_whither_7 : decode cX12_whither 7 = .ok (.ifCond .ge 5, 3) := by decide +kernel
theorem gdX12_whither_12 : decode cX12_whither 12 = .ok (.aload_n 0, 1) := by decide +kernel
theorem gdX12_whither_13 : decode cX12_whither 13 = .ok (.iload_n 1, 1) := by decide +kernel
theorem gdX12_whither_14 : decode cX12_whither 14 = .ok (.invokevirtual 340, 3) := by decide +kernel
theorem gdX12_whither_17 : decode cX12_whither 17 = .ok (.lstore_n 3, 1) := by decide +kernel
theorem gdX12_whither_18 : decode cX12_whither 18 = .ok (.iconst 0, 1) := by decide +kernel
theorem gdX12_whither_19 : decode cX12_whither 19 = .ok (.istore 5, 2) := by decide +kernel
theorem gdX12_whither_10 : decode cX12_whither 10 = .ok (.iload_n 2, 1) := by decide +kernel
theorem gdX12_whither_11 : decode cX12_whither 11 = .ok (.ireturn, 1) := by decide +kernel
theorem gdX12_who_32 : decode cX12_who 32 = .ok (.ireturn, 1) := by decide +kernel
theorem gdX12_who_31 : decode cX12_who 31 = .ok (.iconst (-1), 1) := by decide +kernel
theorem gdX12_who_0 : decode cX12_who 0 = .ok (.aload_n 0, 1) := by decide +kernel
theorem gdX12_who_1 : decode cX12_who 1 = .ok (.iload_n 1, 1) := by decide +kernel
theorem gdX12_who_2 : decode cX12_who 2 = .ok (.invokevirtual 296, 3) := by decide +kernel
theorem gdX12_who_5 : decode cX12_who 5 = .ok (.ifCond .eq 26, 3) := by decide +kernel
theorem gdX12_who_8 : decode cX12_who 8 = .ok (.iload_n 2, 1) := by decide +kernel
theorem gdX12_who_9 : decode cX12_who 9 = .ok (.iconst 0, 1) := by decide +kernel
theorem gdX12_who_10 : decode cX12_who 10 = .ok (.iconst 3, 1) := by decide +kernel
theorem gdX12_who_11 : decode cX12_who 11 = .ok (.invokestatic 208, 3) := by decide +kernel
theorem gdX12_who_14 : decode cX12_who 14 = .ok (.ifCond .eq 17, 3) := by decide +kernel
theorem gdX12_who_17 : decode cX12_who 17 = .ok (.aload_n 0, 1) := by decide +kernel
theorem gdX12_who_18 : decode cX12_who 18 = .ok (.aload_n 0, 1) := by decide +kernel
theorem gdX12_who_19 : decode cX12_who 19 = .ok (.iload_n 1, 1) := by decide +kernel
theorem gdX12_who_20 : decode cX12_who 20 = .ok (.iload_n 2, 1) := by decide +kernel
theorem gdX12_who_21 : decode cX12_who 21 = .ok (.invokevirtual 299, 3) := by decide +kernel
theorem gdX12_who_24 : decode cX12_who 24 = .ok (.iconst 1, 1) := by decide +kernel
theorem gdX12_who_25 : decode cX12_who 25 = .ok (.invokevirtual 290, 3) := by decide +kernel
theorem gdX12_who_28 : decode cX12_who 28 = .ok (.goto 4, 3) := by decide +kernel
theorem gdX12_why_20 : decode cX12_why 20 = .ok (.ireturn, 1) := by decide +kernel
theorem gdX12_why_0 : decode cX12_why 0 = .ok (.iload_n 1, 1) := by decide +kernel
theorem gdX12_why_1 : decode cX12_why 1 = .ok (.iload_n 2, 1) := by decide +kernel
theorem gdX12_why_2 : decode cX12_why 2 = .ok (.iload_n 3, 1) := by decide +kernel
theorem gdX12_why_3 : decode cX12_why 3 = .ok (.invokestatic 251, 3) := by decide +kernel
theorem gdX12_why_6 : decode cX12_why 6 = .ok (.ifCond .eq 13, 3) := by decide +kernel
theorem gdX12_why_19 : decode cX12_why 19 = .ok (.iconst (-1), 1) := by decide +kernel
theorem gdX12_why_9 : decode cX12_why 9 = .ok (.aload_n 0, 1) := by decide +kernel
theorem gdX12_why_10 : decode cX12_why 10 = .ok (.iload_n 1, 1) := by decide +kernel
theorem gdX12_why_11 : decode cX12_why 11 = .ok (.iload_n 2, 1) := by decide +kernel
theorem gdX12_why_12 : decode cX12_why 12 = .ok (.iload_n 3, 1) := by decide +kernel
theorem gdX12_why_13 : decode cX12_why 13 = .ok (.invokevirtual 244, 3) := by decide +kernel
theorem gdX12_why_16 : decode cX12_why 16 = .ok (.goto 4, 3) := by decide +kernel
theorem gdX12_worth_15 : decode cX12_worth 15 = .ok (.iconst (-1), 1) := by decide +kernel
theorem gdX12_worth_16 : decode cX12_worth 16 = .ok (.ireturn, 1) := by decide +kernel
theorem gdX12_worth_0 : decode cX12_worth 0 = .ok (.aload_n 0, 1) := by decide +kernel
theorem gdX12_worth_1 : decode cX12_worth 1 = .ok (.iload_n 1, 1) := by decide +kernel
theorem gdX12_worth_2 : decode cX12_worth 2 = .ok (.invokevirtual 274, 3) := by decide +kernel
theorem gdX12_worth_5 : decode cX12_worth 5 = .ok (.ifCond .eq 10, 3) := by decide +kernel
theorem gdX12_worth_8 : decode cX12_worth 8 = .ok (.iload_n 2, 1) := by decide +kernel
theorem gdX12_worth_9 : decode cX12_worth 9 = .ok (.invokestatic 267, 3) := by decide +kernel
theorem gdX12_worth_12 : decode cX12_worth 12 = .ok (.ifCond .ne 5, 3) := by decide +kernel
theorem gdX12_worth_17 : decode cX12_worth 17 = .ok (.aload_n 0, 1) := by decide +kernel
theorem gdX12_worth_18 : decode cX12_worth 18 = .ok (.getfield 55, 3) := by decide +kernel
theorem gdX12_worth_21 : decode cX12_worth 21 = .ok (.iload_n 1, 1) := by decide +kernel
theorem gdX12_worth_22 : decode cX12_worth 22 = .ok (.baload, 1) := by decide +kernel
theorem gdX12_worth_23 : decode cX12_worth 23 = .ok (.ifCond .eq 6, 3) := by decide +kernel
theorem gdX12_worth_29 : decode cX12_worth 29 = .ok (.aload_n 0, 1) := by decide +kernel
theorem gdX12_worth_30 : decode cX12_worth 30 = .ok (.getfield 263, 3) := by decide +kernel
theorem gdX12_worth_33 : decode cX12_worth 33 = .ok (.bipush 100, 2) := by decide +kernel
theorem gdX12_worth_35 : decode cX12_worth 35 = .ok (.if_icmp .ne 6, 3) := by decide +kernel
theorem gdX12_worth_41 : decode cX12_worth 41 = .ok (.aload_n 0, 1) := by decide +kernel
theorem gdX12_worth_42 : decode cX12_worth 42 = .ok (.iload_n 1, 1) := by decide +kernel
theorem gdX12_worth_43 : decode cX12_worth 43 = .ok (.aload_n 0, 1) := by decide +kernel
theorem gdX12_worth_44 : decode cX12_worth 44 = .ok (.getfield 229, 3) := by decide +kernel
theorem gdX12_worth_47 : decode cX12_worth 47 = .ok (.invokevirtual 277, 3) := by decide +kernel
theorem gdX12_worth_50 : decode cX12_worth 50 = .ok (.istore_n 3, 1) := by decide +kernel
theorem gdX12_worth_51 : decode cX12_worth 51 = .ok (.aload_n 0, 1) := by decide +kernel
theorem gdX12_worth_52 : decode cX12_worth 52 = .ok (.iload_n 1, 1) := by decide +kernel
theorem gdX12_worth_53 : decode cX12_worth 53 = .ok (.iload_n 2, 1) := by decide +kernel
theorem gdX12_worth_54 : decode cX12_worth 54 = .ok (.invokevirtual 270, 3) := by decide +kernel
theorem gdX12_worth_57 : decode cX12_worth 57 = .ok (.iload_n 3, 1) := by decide +kernel
theorem gdX12_worth_58 : decode cX12_worth 58 = .ok (.ireturn, 1) := by decide +kernel
theorem gdX12_worth_38 : decode cX12_worth 38 = .ok (.bipush (-2), 2) := by decide +kernel
theorem gdX12_worth_40 : decode cX12_worth 40 = .ok (.ireturn, 1) := by decide +kernel
theorem gdX12_worth_26 : decode cX12_worth 26 = .ok (.bipush (-4), 2) := by decide +kernel
theorem gdX12_worth_28 : decode cX12_worth 28 = .ok (.ireturn, 1) := by decide +kernel
theorem okm_X12_wayTo : okM yX12_wayTo cX12_wayTo 3 (some .int) 2 := ⟨w_2105, w_103, by decide +kernel, by decide +kernel, by decide +kernel⟩
theorem okm_X12_finds : okM yX12_finds cX12_finds 11 (some .boolean) 3 := ⟨w_2098, w_103, by decide +kernel, by decide +kernel, by decide +kernel⟩
theorem okw_X12_finds : okV yX12_finds := ⟨w_2097, w_81⟩
theorem okm_X12_goAlong : okM yX12_goAlong cX12_goAlong 7 none 2 := ⟨w_2102, w_103, by decide +kernel, by decide +kernel, by decide +kernel⟩
theorem okw_X12_goAlong : okV yX12_goAlong := ⟨w_2101, w_82⟩
theorem okm_X12_comes : okM yX12_comes cX12_comes 11 (some .boolean) 4 := ⟨w_2094, w_103, by decide +kernel, by decide +kernel, by decide +kernel⟩
theorem okw_X12_comes : okV yX12_comes := ⟨w_2093, w_80⟩
theorem okm_X12_firstValue : okM yX12_firstValue cX12_firstValue 3 (some .int) 1 := ⟨w_1944, w_103, by decide +kernel, by decide +kernel, by decide +kernel⟩
theorem okw_X12_firstValue : okV yX12_firstValue := ⟨w_1943, w_65⟩
theorem okm_X12_walk : okM yX12_walk cX12_walk 3 (some .int) 2 := ⟨w_2016, w_103, by decide +kernel, by decide +kernel, by decide +kernel⟩
theorem okw_X12_walk : okV yX12_walk := ⟨w_2015, w_71⟩
theorem okm_X12_relax : okM yX12_relax cX12_relax 5 (some .boolean) 4 := ⟨w_2020, w_103, by decide +kernel, by decide +kernel, by decide +kernel⟩
theorem okw_X12_relax : okV yX12_relax := ⟨w_2019, w_72⟩
theorem okm_X12_cheapest : okM yX12_cheapest cX12_cheapest 5 (some .int) 0 := ⟨w_2012, w_103, by decide +kernel, by decide +kernel, by decide +kernel⟩
theorem okw_X12_cheapest : okV yX12_cheapest := ⟨w_2011, w_70⟩
set_option maxHeartbeats 4000000 in
set_option maxRecDepth 100000 in
theorem c_X12_wayTo (l : Launch) (g : GG) (ws : va_W) (x0 : Int) (x1 : Int) (v : Int) (h : s_X12_wayTo x0 x1 = some v) : CI l g yX12_wayTo cX12_wayTo 3 (some .int) 1 21 ws [iv x0, iv x1] v ws := by
  refine met_I (by decide) (Nat.le_of_ble_eq_true rfl) ?_
  intro X E hQ
  show Go X 0 ws [(0, iv x0), (1, iv x1)] []
  have j17 : ∀ (x2 : Int), b_X12_wayTo_17 x2 = some v → Go X 17 ws [(2, iv x2)] [] := by
    intro x2 h
    unfold b_X12_wayTo_17 at h
    refine g_iload_n E gdX12_wayTo_17 rfl 0 rfl ?_
    exact g_iret E hQ (Option.some.inj h) rfl gdX12_wayTo_18
  have l2 : ∀ (x0 : Int) (x1 : Int) (r : (Int)) (s0 : Int), loopW (fun s => l_X12_wayTo_2 x0 x1 s) s0 = some r → (∀ (x2 : Int), r = (x2) → Go X 17 ws [(2, iv x2)] []) → Go X 2 ws [(0, iv x0), (1, iv x1), (2, iv s0)] [] := by
    intro x0 x1 r s0 h k1
    refine loop_rule (Head := fun s0 => Go X 2 ws [(0, iv x0), (1, iv x1), (2, iv s0)] []) h ?_
    intro s v h kk kx
    obtain ⟨x2, hs⟩ : ∃ q, q = s := ⟨_, rfl⟩
    subst hs
    have h : l_X12_wayTo_2 x0 x1 x2 = some v := h
    have k0 : ∀ (x2 : Int), v = .inl x2 → Go X 2 ws [(0, iv x0), (1, iv x1), (2, iv x2)] [] := fun x2 e => kk x2 e
    have k1 : ∀ (x2 : Int), v = .inr (x2) → Go X 17 ws [(2, iv x2)] [] := fun x2 e => k1 x2 (kx _ e).symm
    unfold l_X12_wayTo_2 at h
    refine g_iload_n E gdX12_wayTo_2 rfl 0 rfl ?_
    refine g_iload_n E gdX12_wayTo_3 rfl 2 rfl ?_
    obtain ⟨r1, hc2, h⟩ := qB_of h
    refine g_Si (r := r1) (As := [iv x0, iv x2]) (rest := []) (w := ws) E (c_X12_beside l g ws x0 x2 r1 hc2) okm_X12_beside w_1881 w_1880 rfl rfl (Nat.le_of_ble_eq_true rfl) ⟨Nat.le_of_ble_eq_true rfl, Nat.le_of_ble_eq_true rfl⟩ gdX12_wayTo_4 ?_
    refine g_iload_n E gdX12_wayTo_7 rfl 1 rfl ?_
    refine g_icmp_eq E 17 gdX12_wayTo_8 (by decide) h (fun h => ?_) (fun h => ?_)
    ·
      refine g_sub E [2] rfl ?_
      exact k1 x2 (Option.some.inj h).symm
    ·
      refine g_iinc E [(2, iv (x2 + 1)), (0, iv x0), (1, iv x1)] gdX12_wayTo_11 2 rfl (by decide) rfl ?_
      refine g_goto E 2 gdX12_wayTo_14 (by decide) ?_
      refine g_sub E [1, 2, 0] rfl ?_
      exact k0 (x2 + 1) (Option.some.inj h).symm
  have j2 : ∀ (x0 : Int) (x1 : Int) (x2 : Int), e_X12_wayTo_2 x0 x1 x2 = some v → Go X 2 ws [(0, iv x0), (1, iv x1), (2, iv x2)] [] := by
    intro x0 x1 x2 h
    unfold e_X12_wayTo_2 at h
    obtain ⟨r, hr, h⟩ := qB_of h
    refine l2 x0 x1 r _ hr ?_
    ·
      intro u0 e
      have e := e.symm
      subst e
      have h : b_X12_wayTo_17 u0 = some v := h
      exact j17 u0 h
  unfold s_X12_wayTo at h
  refine g_iconst E gdX12_wayTo_0 ?_
  refine g_istore_n E [(2, iv 0), (0, iv x0), (1, iv x1)] gdX12_wayTo_1 rfl (by decide) rfl ?_
  refine g_sub E [1, 2, 0] rfl ?_
  exact j2 x0 x1 0 h
set_option maxHeartbeats 4000000 in
set_option maxRecDepth 100000 in
theorem c_X12_goAlong (l : Launch) (g : GG) (ad : Nat → Nat) (o : OO) (x1 : Int) (x2 : Int) (v : OO) (h : s_X12_goAlong o x1 x2 = some v) : CV l g yX12_goAlong cX12_goAlong 7 2 43 (wM g ad o) [.ref (ad 0), iv x1, iv x2] (wM g ad v) := by
  refine met_V (by decide) (Nat.le_of_ble_eq_true rfl) ?_
  intro X E hQ
  show Go X 0 (wM g ad o) [(0, .ref (ad 0)), (1, iv x1), (2, iv x2)] []
  have j123 : ∀ (o : OO), b_X12_goAlong_123 o = some v → Go X 123 (wM g ad o) [] [] := by
    intro o h
    unfold b_X12_goAlong_123 at h
    exact g_vret E hQ (by rw [← Option.some.inj h]) gdX12_goAlong_123
  have j117 : ∀ (o : OO) (x1 : Int) (x4 : Int) (v : (OO × Int) ⊕ ((OO))), b_X12_goAlong_117 o x1 x4 = some v → (∀ (o : OO) (x3 : Int), v = .inl (o, x3) → Go X 4 (wM g ad o) [(0, .ref (ad 0)), (1, iv x1), (3, iv x3)] []) → (∀ (o : OO), v = .inr (o) → Go X 123 (wM g ad o) [] []) → Go X 117 (wM g ad o) [(0, .ref (ad 0)), (1, iv x1), (4, iv x4)] [] := by
    intro o x1 x4 v h k0 k1
    unfold b_X12_goAlong_117 at h
    refine g_iload E gdX12_goAlong_117 2 rfl ?_
    refine g_istore_n E [(3, iv x4), (0, .ref (ad 0)), (1, iv x1), (4, iv x4)] gdX12_goAlong_119 rfl (by decide) rfl ?_
    refine g_goto E 4 gdX12_goAlong_120 (by decide) ?_
    refine g_sub E [1, 2, 0] rfl ?_
    exact k0 o x4 (Option.some.inj h).symm
  have j59 : ∀ (o : OO) (x1 : Int) (x4 : Int) (y1 : Int) (y2 : Int) (y3 : Int) (v : (OO × Int) ⊕ ((OO))), b_X12_goAlong_59 o x1 x4 y1 y2 y3 = some v → (∀ (o : OO) (x3 : Int), v = .inl (o, x3) → Go X 4 (wM g ad o) [(0, .ref (ad 0)), (1, iv x1), (3, iv x3)] []) → (∀ (o : OO), v = .inr (o) → Go X 123 (wM g ad o) [] []) → Go X 59 (wM g ad o) [(0, .ref (ad 0)), (1, iv x1), (4, iv x4)] [iv y3, iv y2, iv y1, .ref (ad 59)] := by
    intro o x1 x4 y1 y2 y3 v h k0 k1
    unfold b_X12_goAlong_59 at h
    refine g_iadd E gdX12_goAlong_59 ?_
    obtain ⟨hi1, h⟩ := qIn_of h
    obtain ⟨o2, e_o2, h⟩ := qNm_of h
    refine g_iast (ws' := wM g ad o2) E 59 (wM_59 g ad o) (by decide) hi1 (by rw [e_o2]; exact wM_s59 g ad o _ _) gdX12_goAlong_60 ?_
    refine g_goto E 117 gdX12_goAlong_61 (by decide) ?_
    exact j117 o2 x1 x4 v h k0 k1
  have l4 : ∀ (x1 : Int) (r : (OO)) (s0 : OO × Int), loopW (fun s => l_X12_goAlong_4 x1 s.1 s.2) s0 = some r → (∀ (o : OO), r = (o) → Go X 123 (wM g ad o) [] []) → Go X 4 (wM g ad s0.1) [(0, .ref (ad 0)), (1, iv x1), (3, iv s0.2)] [] := by
    intro x1 r s0 h k1
    refine loop_rule (Head := fun s0 => Go X 4 (wM g ad s0.1) [(0, .ref (ad 0)), (1, iv x1), (3, iv s0.2)] []) h ?_
    intro s v h kk kx
    obtain ⟨o, x3⟩ := s
    have h : l_X12_goAlong_4 x1 o x3 = some v := h
    have k0 : ∀ (o : OO) (x3 : Int), v = .inl (o, x3) → Go X 4 (wM g ad o) [(0, .ref (ad 0)), (1, iv x1), (3, iv x3)] [] := fun o x3 e => kk (o, x3) e
    have k1 : ∀ (o : OO), v = .inr (o) → Go X 123 (wM g ad o) [] [] := fun o e => k1 o (kx _ e).symm
    unfold l_X12_goAlong_4 at h
    refine g_iload_n E gdX12_goAlong_4 rfl 2 rfl ?_
    refine g_iconst E gdX12_goAlong_5 ?_
    refine g_iload_n E gdX12_goAlong_6 rfl 1 rfl ?_
    refine g_imul E gdX12_goAlong_7 ?_
    refine g_iconst E gdX12_goAlong_8 ?_
    refine g_iadd E gdX12_goAlong_9 ?_
    refine g_icmp_eq E 123 gdX12_goAlong_10 (by decide) h (fun h => ?_) (fun h => ?_)
    ·
      refine g_sub E [] rfl ?_
      exact k1 o (Option.some.inj h).symm
    ·
      refine g_aload_n E gdX12_goAlong_13 rfl 0 rfl ?_
      refine g_get (T := TX12) E fw_X12 0 (wM_0 g ad o) rfl 74 (by decide) w_1540 rfl rfl gdX12_goAlong_14 ?_
      refine g_iload_n E gdX12_goAlong_17 rfl 2 rfl ?_
      obtain ⟨hi3, h⟩ := qIn_of h
      refine g_iald E 61 (wM_61 g ad o) (by decide) hi3 gdX12_goAlong_18 ?_
      obtain ⟨n4, e_n4, h⟩ := qNm_of h
      refine g_nmi e_n4 ?_
      refine g_istore E [(4, iv n4), (0, .ref (ad 0)), (1, iv x1), (3, iv x3)] gdX12_goAlong_19 (by decide) rfl ?_
      refine g_iload E gdX12_goAlong_21 0 rfl ?_
      refine g_iconst E gdX12_goAlong_23 ?_
      obtain ⟨hd5, h⟩ := qDv_of h
      refine g_idiv E hd5 gdX12_goAlong_24 ?_
      obtain ⟨n6, e_n6, h⟩ := qNm_of h
      refine g_nmi e_n6 ?_
      refine g_istore E [(5, iv n6), (4, iv n4), (0, .ref (ad 0)), (1, iv x1), (3, iv x3)] gdX12_goAlong_25 (by decide) rfl ?_
      refine g_iload_n E gdX12_goAlong_27 rfl 4 rfl ?_
      refine g_iconst E gdX12_goAlong_28 ?_
      obtain ⟨hd7, h⟩ := qDv_of h
      refine g_idiv E hd7 gdX12_goAlong_29 ?_
      obtain ⟨n8, e_n8, h⟩ := qNm_of h
      refine g_nmi e_n8 ?_
      refine g_istore E [(6, iv n8), (5, iv n6), (4, iv n4), (0, .ref (ad 0)), (1, iv x1), (3, iv x3)] gdX12_goAlong_30 (by decide) rfl ?_
      refine g_iload E gdX12_goAlong_32 1 rfl ?_
      refine g_iload E gdX12_goAlong_34 0 rfl ?_
      refine g_icmp_ne E 64 gdX12_goAlong_36 (by decide) h (fun h => ?_) (fun h => ?_)
      ·
        refine g_iload E gdX12_goAlong_64 2 rfl ?_
        refine g_iconst E gdX12_goAlong_66 ?_
        obtain ⟨hd9, h⟩ := qDv_of h
        refine g_irem E hd9 gdX12_goAlong_67 ?_
        refine g_iconst E gdX12_goAlong_68 ?_
        refine g_icmp_ne E 96 gdX12_goAlong_69 (by decide) h (fun h => ?_) (fun h => ?_)
        ·
          refine g_aload_n E gdX12_goAlong_96 rfl 3 rfl ?_
          refine g_get (T := TX12) E fw_X12 0 (wM_0 g ad o) rfl 73 (by decide) w_1539 rfl rfl gdX12_goAlong_97 ?_
          refine g_iconst E gdX12_goAlong_100 ?_
          refine g_iload E gdX12_goAlong_101 0 rfl ?_
          refine g_imul E gdX12_goAlong_103 ?_
          refine g_iload E gdX12_goAlong_104 0 rfl ?_
          refine g_iload E gdX12_goAlong_106 1 rfl ?_
          obtain ⟨r10, hc11, h⟩ := qB_of h
          refine g_Si (r := r10) (As := [iv n8, iv n6]) (rest := [iv (4 * n8), .ref (ad 60)]) (w := wM g ad o) E (c_X12_wayTo l g (wM g ad o) n8 n6 r10 hc11) okm_X12_wayTo w_2104 w_2103 rfl rfl (Nat.le_of_ble_eq_true rfl) ⟨Nat.le_of_ble_eq_true rfl, Nat.le_of_ble_eq_true rfl⟩ gdX12_goAlong_108 ?_
          refine g_iadd E gdX12_goAlong_111 ?_
          obtain ⟨n12, e_n12, h⟩ := qNm_of h
          refine g_nmi e_n12 ?_
          refine g_dup2 E gdX12_goAlong_112 rfl rfl ?_
          obtain ⟨hi13, h⟩ := qIn_of h
          refine g_iald E 60 (wM_60 g ad o) (by decide) hi13 gdX12_goAlong_113 ?_
          obtain ⟨n14, e_n14, h⟩ := qNm_of h
          refine g_nmi e_n14 ?_
          refine g_iconst E gdX12_goAlong_114 ?_
          refine g_isub E gdX12_goAlong_115 ?_
          obtain ⟨hi15, h⟩ := qIn_of h
          obtain ⟨o16, e_o16, h⟩ := qNm_of h
          refine g_iast (ws' := wM g ad o16) E 60 (wM_60 g ad o) (by decide) hi15 (by rw [e_o16]; exact wM_s60 g ad o _ _) gdX12_goAlong_116 ?_
          refine g_sub E [3, 4, 2] rfl ?_
          exact j117 o16 x1 n4 v h k0 k1
        ·
          refine g_aload_n E gdX12_goAlong_72 rfl 3 rfl ?_
          refine g_get (T := TX12) E fw_X12 0 (wM_0 g ad o) rfl 73 (by decide) w_1539 rfl rfl gdX12_goAlong_73 ?_
          refine g_iconst E gdX12_goAlong_76 ?_
          refine g_iload E gdX12_goAlong_77 1 rfl ?_
          refine g_imul E gdX12_goAlong_79 ?_
          refine g_iload E gdX12_goAlong_80 1 rfl ?_
          refine g_iload E gdX12_goAlong_82 0 rfl ?_
          obtain ⟨r17, hc18, h⟩ := qB_of h
          refine g_Si (r := r17) (As := [iv n6, iv n8]) (rest := [iv (4 * n6), .ref (ad 60)]) (w := wM g ad o) E (c_X12_wayTo l g (wM g ad o) n6 n8 r17 hc18) okm_X12_wayTo w_2104 w_2103 rfl rfl (Nat.le_of_ble_eq_true rfl) ⟨Nat.le_of_ble_eq_true rfl, Nat.le_of_ble_eq_true rfl⟩ gdX12_goAlong_84 ?_
          refine g_iadd E gdX12_goAlong_87 ?_
          obtain ⟨n19, e_n19, h⟩ := qNm_of h
          refine g_nmi e_n19 ?_
          refine g_dup2 E gdX12_goAlong_88 rfl rfl ?_
          obtain ⟨hi20, h⟩ := qIn_of h
          refine g_iald E 60 (wM_60 g ad o) (by decide) hi20 gdX12_goAlong_89 ?_
          obtain ⟨n21, e_n21, h⟩ := qNm_of h
          refine g_nmi e_n21 ?_
          refine g_iconst E gdX12_goAlong_90 ?_
          refine g_iadd E gdX12_goAlong_91 ?_
          obtain ⟨hi22, h⟩ := qIn_of h
          obtain ⟨o23, e_o23, h⟩ := qNm_of h
          refine g_iast (ws' := wM g ad o23) E 60 (wM_60 g ad o) (by decide) hi22 (by rw [e_o23]; exact wM_s60 g ad o _ _) gdX12_goAlong_92 ?_
          refine g_goto E 117 gdX12_goAlong_93 (by decide) ?_
          refine g_sub E [3, 4, 2] rfl ?_
          exact j117 o23 x1 n4 v h k0 k1
      ·
        refine g_aload_n E gdX12_goAlong_39 rfl 3 rfl ?_
        refine g_get (T := TX12) E fw_X12 0 (wM_0 g ad o) rfl 72 (by decide) w_1538 rfl rfl gdX12_goAlong_40 ?_
        refine g_iload E gdX12_goAlong_43 1 rfl ?_
        refine g_dup2 E gdX12_goAlong_45 rfl rfl ?_
        obtain ⟨hi24, h⟩ := qIn_of h
        refine g_iald E 59 (wM_59 g ad o) (by decide) hi24 gdX12_goAlong_46 ?_
        obtain ⟨n25, e_n25, h⟩ := qNm_of h
        refine g_nmi e_n25 ?_
        refine g_iload_n E gdX12_goAlong_47 rfl 5 rfl ?_
        refine g_iconst E gdX12_goAlong_48 ?_
        obtain ⟨hd26, h⟩ := qDv_of h
        refine g_irem E hd26 gdX12_goAlong_49 ?_
        refine g_iconst E gdX12_goAlong_50 ?_
        refine g_icmp_ne E 58 gdX12_goAlong_51 (by decide) h (fun h => ?_) (fun h => ?_)
        ·
          refine g_iconst E gdX12_goAlong_58 ?_
          refine g_sub E [3, 4, 2] rfl ?_
          exact j59 o x1 n4 n6 n25 (-1) v h k0 k1
        ·
          refine g_iconst E gdX12_goAlong_54 ?_
          refine g_goto E 59 gdX12_goAlong_55 (by decide) ?_
          refine g_sub E [3, 4, 2] rfl ?_
          exact j59 o x1 n4 n6 n25 1 v h k0 k1
  have j4 : ∀ (o : OO) (x1 : Int) (x3 : Int), e_X12_goAlong_4 o x1 x3 = some v → Go X 4 (wM g ad o) [(0, .ref (ad 0)), (1, iv x1), (3, iv x3)] [] := by
    intro o x1 x3 h
    unfold e_X12_goAlong_4 at h
    obtain ⟨r, hr, h⟩ := qB_of h
    refine l4 x1 r _ hr ?_
    ·
      intro u0 e
      have e := e.symm
      subst e
      have h : b_X12_goAlong_123 u0 = some v := h
      exact j123 u0 h
  unfold s_X12_goAlong at h
  refine g_iconst E gdX12_goAlong_0 ?_
  refine g_iload_n E gdX12_goAlong_1 rfl 2 rfl ?_
  refine g_imul E gdX12_goAlong_2 ?_
  obtain ⟨n27, e_n27, h⟩ := qNm_of h
  refine g_nmi e_n27 ?_
  refine g_istore_n E [(3, iv n27), (0, .ref (ad 0)), (1, iv x1), (2, iv x2)] gdX12_goAlong_3 rfl (by decide) rfl ?_
  refine g_sub E [1, 2, 0] rfl ?_
  exact j4 o x1 n27 h
set_option maxHeartbeats 4000000 in
set_option maxRecDepth 100000 in
theorem c_X12_stop (l : Launch) (g : GG) (ad : Nat → Nat) (o : OO) (x1 : Int) (x2 : Int) (v : Int × OO) (h : s_X12_stop o x1 x2 = some v) : CI l g yX12_stop cX12_stop 7 (some .int) 3 76 (wM g ad o) [.ref (ad 0), iv x1, iv x2] v.1 (wM g ad v.2) := by
  refine met_I (by decide) (Nat.le_of_ble_eq_true rfl) ?_
  intro X E hQ
  show Go X 0 (wM g ad o) [(0, .ref (ad 0)), (1, iv x1), (2, iv x2)] []
  have j19 : ∀ (o : OO), b_X12_stop_19 o = some v → Go X 19 (wM g ad o) [] [] := by
    intro o h
    unfold b_X12_stop_19 at h
    refine g_iconst E gdX12_stop_19 ?_
    exact g_iret E hQ (by rw [← Option.some.inj h]) (by rw [← Option.some.inj h]) gdX12_stop_20
  have j41 : ∀ (o : OO), b_X12_stop_41 o = some v → Go X 41 (wM g ad o) [] [] := by
    intro o h
    unfold b_X12_stop_41 at h
    refine g_bipush E gdX12_stop_41 (by decide) ?_
    exact g_iret E hQ (by rw [← Option.some.inj h]) (by rw [← Option.some.inj h]) gdX12_stop_43
  have j277 : ∀ (o : OO) (x4 : Int), b_X12_stop_277 o x4 = some v → Go X 277 (wM g ad o) [(4, iv x4)] [] := by
    intro o x4 h
    unfold b_X12_stop_277 at h
    refine g_iload E gdX12_stop_277 0 rfl ?_
    exact g_iret E hQ (by rw [← Option.some.inj h]) (by rw [← Option.some.inj h]) gdX12_stop_279
  have j267 : ∀ (o : OO) (x4 : Int) (x5 : Int) (y1 : Int64) (y2 : Int64) (v : (OO × Int) ⊕ ((OO))), b_X12_stop_267 o x4 x5 y1 y2 = some v → (∀ (o : OO) (x5 : Int), v = .inl (o, x5) → Go X 199 (wM g ad o) [(0, .ref (ad 0)), (4, iv x4), (5, iv x5)] []) → (∀ (o : OO), v = .inr (o) → Go X 277 (wM g ad o) [(4, iv x4)] []) → Go X 267 (wM g ad o) [(0, .ref (ad 0)), (4, iv x4), (5, iv x5)] [.long y2, .long y1, .ref (ad 0)] := by
    intro o x4 x5 y1 y2 v h k0 k1
    unfold b_X12_stop_267 at h
    refine g_lor E gdX12_stop_267 ?_
    obtain ⟨o1, e_o1, h⟩ := qNm_of h
    refine g_putl (T := TX12) (ws' := wM g ad o1) E fw_X12 tyX12 tyX12_ok nmX12 0 (wM_0 g ad o) rfl 3 (by decide) w_1469 rfl rfl (by decide +kernel) (Nat.le_of_ble_eq_true rfl) (by rw [e_o1]; exact wM_p0_3 g ad o _) gdX12_stop_268 ?_
    refine g_iinc E [(5, iv (x5 + 1)), (0, .ref (ad 0)), (4, iv x4)] gdX12_stop_271 2 rfl (by decide) rfl ?_
    refine g_goto E 199 gdX12_stop_274 (by decide) ?_
    refine g_sub E [1, 2, 0] rfl ?_
    exact k0 o1 (x5 + 1) (Option.some.inj h).symm
  have j247 : ∀ (o : OO) (x4 : Int) (x5 : Int) (y0 : Int) (v : (OO × Int) ⊕ ((OO))), b_X12_stop_247 o x4 x5 y0 = some v → (∀ (o : OO) (x5 : Int), v = .inl (o, x5) → Go X 199 (wM g ad o) [(0, .ref (ad 0)), (4, iv x4), (5, iv x5)] []) → (∀ (o : OO), v = .inr (o) → Go X 277 (wM g ad o) [(4, iv x4)] []) → Go X 247 (wM g ad o) [(0, .ref (ad 0)), (4, iv x4), (5, iv x5)] [iv y0] := by
    intro o x4 x5 y0 v h k0 k1
    unfold b_X12_stop_247 at h
    refine g_istore E [(6, iv y0), (0, .ref (ad 0)), (4, iv x4), (5, iv x5)] gdX12_stop_247 (by decide) rfl ?_
    refine g_aload_n E gdX12_stop_249 rfl 1 rfl ?_
    refine g_dup E gdX12_stop_250 rfl ?_
    refine g_get (T := TX12) E fw_X12 0 (wM_0 g ad o) rfl 3 (by decide) w_1469 rfl rfl gdX12_stop_251 ?_
    refine g_iload E gdX12_stop_254 0 rfl ?_
    refine g_if_eq E 266 gdX12_stop_256 (by decide) h (fun h => ?_) (fun h => ?_)
    ·
      refine g_lconst (v := 0) E gdX12_stop_266 (by decide) ?_
      refine g_sub E [1, 2, 3] rfl ?_
      exact j267 o x4 x5 (o.2 0 3) (0 : Int64) v h k0 k1
    ·
      refine g_lconst (v := 1) E gdX12_stop_259 (by decide) ?_
      refine g_iload E gdX12_stop_260 3 rfl ?_
      refine g_lshl E gdX12_stop_262 ?_
      refine g_goto E 267 gdX12_stop_263 (by decide) ?_
      refine g_sub E [1, 2, 3] rfl ?_
      exact j267 o x4 x5 (o.2 0 3) (jshl (1 : Int64) (Int32.ofInt x5)) v h k0 k1
  have j246 : ∀ (o : OO) (x4 : Int) (x5 : Int) (v : (OO × Int) ⊕ ((OO))), b_X12_stop_246 o x4 x5 = some v → (∀ (o : OO) (x5 : Int), v = .inl (o, x5) → Go X 199 (wM g ad o) [(0, .ref (ad 0)), (4, iv x4), (5, iv x5)] []) → (∀ (o : OO), v = .inr (o) → Go X 277 (wM g ad o) [(4, iv x4)] []) → Go X 246 (wM g ad o) [(0, .ref (ad 0)), (4, iv x4), (5, iv x5)] [] := by
    intro o x4 x5 v h k0 k1
    unfold b_X12_stop_246 at h
    refine g_iconst E gdX12_stop_246 ?_
    exact j247 o x4 x5 0 v h k0 k1
  have l199 : ∀ (x4 : Int) (r : (OO)) (s0 : OO × Int), loopW (fun s => l_X12_stop_199 x4 s.1 s.2) s0 = some r → (∀ (o : OO), r = (o) → Go X 277 (wM g ad o) [(4, iv x4)] []) → Go X 199 (wM g ad s0.1) [(0, .ref (ad 0)), (4, iv x4), (5, iv s0.2)] [] := by
    intro x4 r s0 h k1
    refine loop_rule (Head := fun s0 => Go X 199 (wM g ad s0.1) [(0, .ref (ad 0)), (4, iv x4), (5, iv s0.2)] []) h ?_
    intro s v h kk kx
    obtain ⟨o, x5⟩ := s
    have h : l_X12_stop_199 x4 o x5 = some v := h
    have k0 : ∀ (o : OO) (x5 : Int), v = .inl (o, x5) → Go X 199 (wM g ad o) [(0, .ref (ad 0)), (4, iv x4), (5, iv x5)] [] := fun o x5 e => kk (o, x5) e
    have k1 : ∀ (o : OO), v = .inr (o) → Go X 277 (wM g ad o) [(4, iv x4)] [] := fun o e => k1 o (kx _ e).symm
    unfold l_X12_stop_199 at h
    refine g_iload E gdX12_stop_199 2 rfl ?_
    refine g_bipush E gdX12_stop_201 (by decide) ?_
    refine g_icmp_ge E 277 gdX12_stop_203 (by decide) h (fun h => ?_) (fun h => ?_)
    ·
      refine g_sub E [1] rfl ?_
      exact k1 o (Option.some.inj h).symm
    ·
      refine g_aload_n E gdX12_stop_206 rfl 0 rfl ?_
      refine g_get (T := TX12) E fw_X12 0 (wM_0 g ad o) rfl 71 (by decide) w_1537 rfl rfl gdX12_stop_207 ?_
      refine g_iload E gdX12_stop_210 2 rfl ?_
      obtain ⟨hi2, h⟩ := qIn_of h
      refine g_zald E 58 (wM_58 g ad o) (by decide) hi2 gdX12_stop_212 ?_
      obtain ⟨n3, e_n3, h⟩ := qNm_of h
      refine g_nmi e_n3 ?_
      refine g_if_eq E 246 gdX12_stop_213 (by decide) h (fun h => ?_) (fun h => ?_)
      ·
        exact j246 o x4 x5 v h k0 k1
      ·
        refine g_aload_n E gdX12_stop_216 rfl 0 rfl ?_
        refine g_get (T := TX12) E fw_X12 0 (wM_0 g ad o) rfl 74 (by decide) w_1540 rfl rfl gdX12_stop_217 ?_
        refine g_iconst E gdX12_stop_220 ?_
        refine g_iload E gdX12_stop_221 2 rfl ?_
        refine g_imul E gdX12_stop_223 ?_
        obtain ⟨hi4, h⟩ := qIn_of h
        refine g_iald E 61 (wM_61 g ad o) (by decide) hi4 gdX12_stop_224 ?_
        obtain ⟨n5, e_n5, h⟩ := qNm_of h
        refine g_nmi e_n5 ?_
        refine g_if_lt E 246 gdX12_stop_225 (by decide) h (fun h => ?_) (fun h => ?_)
        ·
          exact j246 o x4 x5 v h k0 k1
        ·
          refine g_aload_n E gdX12_stop_228 rfl 0 rfl ?_
          refine g_get (T := TX12) E fw_X12 0 (wM_0 g ad o) rfl 74 (by decide) w_1540 rfl rfl gdX12_stop_229 ?_
          refine g_iconst E gdX12_stop_232 ?_
          refine g_iload E gdX12_stop_233 2 rfl ?_
          refine g_imul E gdX12_stop_235 ?_
          refine g_iconst E gdX12_stop_236 ?_
          refine g_iadd E gdX12_stop_237 ?_
          obtain ⟨hi6, h⟩ := qIn_of h
          refine g_iald E 61 (wM_61 g ad o) (by decide) hi6 gdX12_stop_238 ?_
          obtain ⟨n7, e_n7, h⟩ := qNm_of h
          refine g_nmi e_n7 ?_
          refine g_if_ge E 246 gdX12_stop_239 (by decide) h (fun h => ?_) (fun h => ?_)
          ·
            exact j246 o x4 x5 v h k0 k1
          ·
            refine g_iconst E gdX12_stop_242 ?_
            refine g_goto E 247 gdX12_stop_243 (by decide) ?_
            exact j247 o x4 x5 1 v h k0 k1
  have j199 : ∀ (o : OO) (x4 : Int) (x5 : Int), e_X12_stop_199 o x4 x5 = some v → Go X 199 (wM g ad o) [(0, .ref (ad 0)), (4, iv x4), (5, iv x5)] [] := by
    intro o x4 x5 h
    unfold e_X12_stop_199 at h
    obtain ⟨r, hr, h⟩ := qB_of h
    refine l199 x4 r _ hr ?_
    ·
      intro u0 e
      have e := e.symm
      subst e
      have h : b_X12_stop_277 u0 x4 = some v := h
      exact j277 u0 x4 h
  have j191 : ∀ (o : OO) (x4 : Int), b_X12_stop_191 o x4 = some v → Go X 191 (wM g ad o) [(0, .ref (ad 0)), (4, iv x4)] [] := by
    intro o x4 h
    unfold b_X12_stop_191 at h
    refine g_aload_n E gdX12_stop_191 rfl 0 rfl ?_
    refine g_lconst (v := 0) E gdX12_stop_192 (by decide) ?_
    obtain ⟨o8, e_o8, h⟩ := qNm_of h
    refine g_putl (T := TX12) (ws' := wM g ad o8) E fw_X12 tyX12 tyX12_ok nmX12 0 (wM_0 g ad o) rfl 3 (by decide) w_1469 rfl rfl (by decide +kernel) (Nat.le_of_ble_eq_true rfl) (by rw [e_o8]; exact wM_p0_3 g ad o _) gdX12_stop_193 ?_
    refine g_iconst E gdX12_stop_196 ?_
    refine g_istore E [(5, iv 0), (0, .ref (ad 0)), (4, iv x4)] gdX12_stop_197 (by decide) rfl ?_
    refine g_sub E [1, 2, 0] rfl ?_
    exact j199 o8 x4 0 h
  have l169 : ∀ (x1 : Int) (x2 : Int) (x3 : Int) (r : (OO × Int)) (s0 : OO × Int), loopW (fun s => l_X12_stop_169 x1 x2 x3 s.1 s.2) s0 = some r → (∀ (o : OO) (x4 : Int), r = ((o, x4)) → Go X 191 (wM g ad o) [(0, .ref (ad 0)), (4, iv x4)] []) → Go X 169 (wM g ad s0.1) [(0, .ref (ad 0)), (1, iv x1), (2, iv x2), (3, iv x3), (4, iv s0.2)] [] := by
    intro x1 x2 x3 r s0 h k1
    refine loop_rule (Head := fun s0 => Go X 169 (wM g ad s0.1) [(0, .ref (ad 0)), (1, iv x1), (2, iv x2), (3, iv x3), (4, iv s0.2)] []) h ?_
    intro s v h kk kx
    obtain ⟨o, x4⟩ := s
    have h : l_X12_stop_169 x1 x2 x3 o x4 = some v := h
    have k0 : ∀ (o : OO) (x4 : Int), v = .inl (o, x4) → Go X 169 (wM g ad o) [(0, .ref (ad 0)), (1, iv x1), (2, iv x2), (3, iv x3), (4, iv x4)] [] := fun o x4 e => kk (o, x4) e
    have k1 : ∀ (o : OO) (x4 : Int), v = .inr ((o, x4)) → Go X 191 (wM g ad o) [(0, .ref (ad 0)), (4, iv x4)] [] := fun o x4 e => k1 o x4 (kx _ e).symm
    unfold l_X12_stop_169 at h
    refine g_aload_n E gdX12_stop_169 rfl 0 rfl ?_
    refine g_iload_n E gdX12_stop_170 rfl 1 rfl ?_
    refine g_iload_n E gdX12_stop_171 rfl 2 rfl ?_
    refine g_iload_n E gdX12_stop_172 rfl 3 rfl ?_
    obtain ⟨r9, o11, hc10, h⟩ := qB2_of h
    refine g_Vi (r := r9) (As := [iv x1, iv x2, iv x3]) (rest := []) (w := wM g ad o11) E (c_X12_finds l g ad o x1 x2 x3 (r9, o11) hc10) okm_X12_finds okw_X12_finds w_2095 rfl (wM_0 g ad o) rfl rfl (Nat.le_of_ble_eq_true rfl) ⟨Nat.le_of_ble_eq_true rfl, Nat.le_of_ble_eq_true rfl⟩ gdX12_stop_173 ?_
    refine g_if_eq E 191 gdX12_stop_176 (by decide) h (fun h => ?_) (fun h => ?_)
    ·
      refine g_sub E [0, 4] rfl ?_
      exact k1 o11 x4 (Option.some.inj h).symm
    ·
      refine g_aload_n E gdX12_stop_179 rfl 0 rfl ?_
      refine g_iload_n E gdX12_stop_180 rfl 1 rfl ?_
      refine g_iload_n E gdX12_stop_181 rfl 2 rfl ?_
      obtain ⟨o14, hc13, h⟩ := qB_of h
      refine g_Vv (As := [iv x1, iv x2]) (rest := []) (w := wM g ad o14) E (c_X12_goAlong l g ad o11 x1 x2 o14 hc13) okm_X12_goAlong okw_X12_goAlong w_2099 rfl (wM_0 g ad o11) rfl rfl (Nat.le_of_ble_eq_true rfl) ⟨Nat.le_of_ble_eq_true rfl, Nat.le_of_ble_eq_true rfl⟩ gdX12_stop_182 ?_
      refine g_iinc E [(4, iv (x4 + 1)), (0, .ref (ad 0)), (1, iv x1), (2, iv x2), (3, iv x3)] gdX12_stop_185 4 rfl (by decide) rfl ?_
      refine g_goto E 169 gdX12_stop_188 (by decide) ?_
      refine g_sub E [1, 2, 3, 4, 0] rfl ?_
      exact k0 o14 (x4 + 1) (Option.some.inj h).symm
  have j169 : ∀ (o : OO) (x1 : Int) (x2 : Int) (x3 : Int) (x4 : Int), e_X12_stop_169 o x1 x2 x3 x4 = some v → Go X 169 (wM g ad o) [(0, .ref (ad 0)), (1, iv x1), (2, iv x2), (3, iv x3), (4, iv x4)] [] := by
    intro o x1 x2 x3 x4 h
    unfold e_X12_stop_169 at h
    obtain ⟨r, hr, h⟩ := qB_of h
    refine l169 x1 x2 x3 r _ hr ?_
    ·
      intro u0 u1 e
      subst e
      have h : b_X12_stop_191 u0 u1 = some v := h
      exact j191 u0 u1 h
  have j135 : ∀ (o : OO) (x1 : Int) (x2 : Int) (x3 : Int), b_X12_stop_135 o x1 x2 x3 = some v → Go X 135 (wM g ad o) [(0, .ref (ad 0)), (1, iv x1), (2, iv x2), (3, iv x3)] [] := by
    intro o x1 x2 x3 h
    unfold b_X12_stop_135 at h
    refine g_aload_n E gdX12_stop_135 rfl 0 rfl ?_
    refine g_iload_n E gdX12_stop_136 rfl 1 rfl ?_
    refine g_iload_n E gdX12_stop_137 rfl 2 rfl ?_
    refine g_iload_n E gdX12_stop_138 rfl 3 rfl ?_
    refine g_iconst E gdX12_stop_139 ?_
    obtain ⟨r15, hc16, h⟩ := qB_of h
    refine g_Vi (r := r15) (As := [iv x1, iv x2, iv x3, iv 1]) (rest := []) (w := wM g ad o) E (c_X12_comes l g ad o x1 x2 x3 1 r15 hc16) okm_X12_comes okw_X12_comes w_2091 rfl (wM_0 g ad o) rfl rfl (Nat.le_of_ble_eq_true rfl) ⟨Nat.le_of_ble_eq_true rfl, Nat.le_of_ble_eq_true rfl⟩ gdX12_stop_140 ?_
    refine g_if_ne E 152 gdX12_stop_143 (by decide) h (fun h => ?_) (fun h => ?_)
    ·
      refine g_aload_n E gdX12_stop_152 rfl 0 rfl ?_
      refine g_iload_n E gdX12_stop_153 rfl 1 rfl ?_
      refine g_iload_n E gdX12_stop_154 rfl 2 rfl ?_
      refine g_iload_n E gdX12_stop_155 rfl 3 rfl ?_
      refine g_iconst E gdX12_stop_156 ?_
      obtain ⟨r17, hc18, h⟩ := qB_of h
      refine g_Vi (r := r17) (As := [iv x1, iv x2, iv x3, iv 0]) (rest := []) (w := wM g ad o) E (c_X12_comes l g ad o x1 x2 x3 0 r17 hc18) okm_X12_comes okw_X12_comes w_2091 rfl (wM_0 g ad o) rfl rfl (Nat.le_of_ble_eq_true rfl) ⟨Nat.le_of_ble_eq_true rfl, Nat.le_of_ble_eq_true rfl⟩ gdX12_stop_157 ?_
      refine g_if_eq E 166 gdX12_stop_160 (by decide) h (fun h => ?_) (fun h => ?_)
      ·
        refine g_iconst E gdX12_stop_166 ?_
        refine g_istore E [(4, iv 0), (0, .ref (ad 0)), (1, iv x1), (2, iv x2), (3, iv x3)] gdX12_stop_167 (by decide) rfl ?_
        refine g_sub E [1, 2, 3, 4, 0] rfl ?_
        exact j169 o x1 x2 x3 0 h
      ·
        refine g_bipush E gdX12_stop_163 (by decide) ?_
        exact g_iret E hQ (by rw [← Option.some.inj h]) (by rw [← Option.some.inj h]) gdX12_stop_165
    ·
      refine g_aload_n E gdX12_stop_146 rfl 0 rfl ?_
      refine g_iconst E gdX12_stop_147 ?_
      obtain ⟨r19, o21, hc20, h⟩ := qB2_of h
      refine g_Vi (r := r19) (As := [iv 1]) (rest := []) (w := wM g ad o21) E (c_X12_meets l g ad o 1 (r19, o21) hc20) okm_X12_meets okw_X12_meets w_1708 rfl (wM_0 g ad o) rfl rfl (Nat.le_of_ble_eq_true rfl) ⟨Nat.le_of_ble_eq_true rfl, Nat.le_of_ble_eq_true rfl⟩ gdX12_stop_148 ?_
      exact g_iret E hQ (by rw [← Option.some.inj h]) (by rw [← Option.some.inj h]) gdX12_stop_151
  have j129 : ∀ (o : OO) (x1 : Int) (x2 : Int) (x3 : Int) (x4 : Int) (v : (OO × Int) ⊕ ((OO))), b_X12_stop_129 o x1 x2 x3 x4 = some v → (∀ (o : OO) (x4 : Int), v = .inl (o, x4) → Go X 53 (wM g ad o) [(0, .ref (ad 0)), (1, iv x1), (2, iv x2), (3, iv x3), (4, iv x4)] []) → (∀ (o : OO), v = .inr (o) → Go X 135 (wM g ad o) [(0, .ref (ad 0)), (1, iv x1), (2, iv x2), (3, iv x3)] []) → Go X 129 (wM g ad o) [(0, .ref (ad 0)), (1, iv x1), (2, iv x2), (3, iv x3), (4, iv x4)] [] := by
    intro o x1 x2 x3 x4 v h k0 k1
    unfold b_X12_stop_129 at h
    refine g_iinc E [(4, iv (x4 + 1)), (0, .ref (ad 0)), (1, iv x1), (2, iv x2), (3, iv x3)] gdX12_stop_129 4 rfl (by decide) rfl ?_
    refine g_goto E 53 gdX12_stop_132 (by decide) ?_
    refine g_sub E [1, 2, 3, 4, 0] rfl ?_
    exact k0 o (x4 + 1) (Option.some.inj h).symm
  have l104 : ∀ (x1 : Int) (x2 : Int) (x3 : Int) (x4 : Int) (r : (OO)) (s0 : OO × Int), loopW (fun s => l_X12_stop_104 x1 x2 x3 x4 s.1 s.2) s0 = some r → (∀ (o : OO), r = (o) → Go X 129 (wM g ad o) [(0, .ref (ad 0)), (1, iv x1), (2, iv x2), (3, iv x3), (4, iv x4)] []) → Go X 104 (wM g ad s0.1) [(0, .ref (ad 0)), (1, iv x1), (2, iv x2), (3, iv x3), (4, iv x4), (5, iv s0.2)] [] := by
    intro x1 x2 x3 x4 r s0 h k1
    refine loop_rule (Head := fun s0 => Go X 104 (wM g ad s0.1) [(0, .ref (ad 0)), (1, iv x1), (2, iv x2), (3, iv x3), (4, iv x4), (5, iv s0.2)] []) h ?_
    intro s v h kk kx
    obtain ⟨o, x5⟩ := s
    have h : l_X12_stop_104 x1 x2 x3 x4 o x5 = some v := h
    have k0 : ∀ (o : OO) (x5 : Int), v = .inl (o, x5) → Go X 104 (wM g ad o) [(0, .ref (ad 0)), (1, iv x1), (2, iv x2), (3, iv x3), (4, iv x4), (5, iv x5)] [] := fun o x5 e => kk (o, x5) e
    have k1 : ∀ (o : OO), v = .inr (o) → Go X 129 (wM g ad o) [(0, .ref (ad 0)), (1, iv x1), (2, iv x2), (3, iv x3), (4, iv x4)] [] := fun o e => k1 o (kx _ e).symm
    unfold l_X12_stop_104 at h
    refine g_iload E gdX12_stop_104 5 rfl ?_
    refine g_iconst E gdX12_stop_106 ?_
    refine g_icmp_ge E 129 gdX12_stop_107 (by decide) h (fun h => ?_) (fun h => ?_)
    ·
      refine g_sub E [0, 1, 2, 3, 4] rfl ?_
      exact k1 o (Option.some.inj h).symm
    ·
      refine g_aload_n E gdX12_stop_110 rfl 0 rfl ?_
      refine g_get (T := TX12) E fw_X12 0 (wM_0 g ad o) rfl 73 (by decide) w_1539 rfl rfl gdX12_stop_111 ?_
      refine g_iconst E gdX12_stop_114 ?_
      refine g_iload E gdX12_stop_115 4 rfl ?_
      refine g_imul E gdX12_stop_117 ?_
      refine g_iload E gdX12_stop_118 5 rfl ?_
      refine g_iadd E gdX12_stop_120 ?_
      refine g_iconst E gdX12_stop_121 ?_
      obtain ⟨hi22, h⟩ := qIn_of h
      obtain ⟨o23, e_o23, h⟩ := qNm_of h
      refine g_iast (ws' := wM g ad o23) E 60 (wM_60 g ad o) (by decide) hi22 (by rw [e_o23]; exact wM_s60 g ad o _ _) gdX12_stop_122 ?_
      refine g_iinc E [(5, iv (x5 + 1)), (0, .ref (ad 0)), (1, iv x1), (2, iv x2), (3, iv x3), (4, iv x4)] gdX12_stop_123 5 rfl (by decide) rfl ?_
      refine g_goto E 104 gdX12_stop_126 (by decide) ?_
      refine g_sub E [1, 2, 3, 4, 5, 0] rfl ?_
      exact k0 o23 (x5 + 1) (Option.some.inj h).symm
  have j104 : ∀ (o : OO) (x1 : Int) (x2 : Int) (x3 : Int) (x4 : Int) (x5 : Int) (v : (OO × Int) ⊕ ((OO))), e_X12_stop_104 o x1 x2 x3 x4 x5 = some v → (∀ (o : OO) (x4 : Int), v = .inl (o, x4) → Go X 53 (wM g ad o) [(0, .ref (ad 0)), (1, iv x1), (2, iv x2), (3, iv x3), (4, iv x4)] []) → (∀ (o : OO), v = .inr (o) → Go X 135 (wM g ad o) [(0, .ref (ad 0)), (1, iv x1), (2, iv x2), (3, iv x3)] []) → Go X 104 (wM g ad o) [(0, .ref (ad 0)), (1, iv x1), (2, iv x2), (3, iv x3), (4, iv x4), (5, iv x5)] [] := by
    intro o x1 x2 x3 x4 x5 v h k0 k1
    unfold e_X12_stop_104 at h
    obtain ⟨r, hr, h⟩ := qB_of h
    refine l104 x1 x2 x3 x4 r _ hr ?_
    ·
      intro u0 e
      have e := e.symm
      subst e
      have h : b_X12_stop_129 u0 x1 x2 x3 x4 = some v := h
      exact j129 u0 x1 x2 x3 x4 v h k0 k1
  have j92 : ∀ (o : OO) (x1 : Int) (x2 : Int) (x3 : Int) (x4 : Int) (y1 : Int) (y2 : Int) (v : (OO × Int) ⊕ ((OO))), b_X12_stop_92 o x1 x2 x3 x4 y1 y2 = some v → (∀ (o : OO) (x4 : Int), v = .inl (o, x4) → Go X 53 (wM g ad o) [(0, .ref (ad 0)), (1, iv x1), (2, iv x2), (3, iv x3), (4, iv x4)] []) → (∀ (o : OO), v = .inr (o) → Go X 135 (wM g ad o) [(0, .ref (ad 0)), (1, iv x1), (2, iv x2), (3, iv x3)] []) → Go X 92 (wM g ad o) [(0, .ref (ad 0)), (1, iv x1), (2, iv x2), (3, iv x3), (4, iv x4)] [iv y2, iv y1, .ref (ad 58)] := by
    intro o x1 x2 x3 x4 y1 y2 v h k0 k1
    unfold b_X12_stop_92 at h
    obtain ⟨hi24, h⟩ := qIn_of h
    obtain ⟨hz25, h⟩ := qZ_of h
    obtain ⟨o26, e_o26, h⟩ := qNm_of h
    refine g_zast (ws' := wM g ad o26) E 58 (wM_58 g ad o) (by decide) hi24 hz25 (by rw [e_o26]; exact wM_s58 g ad o _ _) gdX12_stop_92 ?_
    refine g_aload_n E gdX12_stop_93 rfl 0 rfl ?_
    refine g_get (T := TX12) E fw_X12 0 (wM_0 g ad o26) rfl 72 (by decide) w_1538 rfl rfl gdX12_stop_94 ?_
    refine g_iload E gdX12_stop_97 4 rfl ?_
    refine g_iconst E gdX12_stop_99 ?_
    obtain ⟨hi27, h⟩ := qIn_of h
    obtain ⟨o28, e_o28, h⟩ := qNm_of h
    refine g_iast (ws' := wM g ad o28) E 59 (wM_59 g ad o26) (by decide) hi27 (by rw [e_o28]; exact wM_s59 g ad o26 _ _) gdX12_stop_100 ?_
    refine g_iconst E gdX12_stop_101 ?_
    refine g_istore E [(5, iv 0), (0, .ref (ad 0)), (1, iv x1), (2, iv x2), (3, iv x3), (4, iv x4)] gdX12_stop_102 (by decide) rfl ?_
    refine g_sub E [1, 2, 3, 4, 5, 0] rfl ?_
    exact j104 o28 x1 x2 x3 x4 0 v h k0 k1
  have j91 : ∀ (o : OO) (x1 : Int) (x2 : Int) (x3 : Int) (x4 : Int) (y1 : Int) (v : (OO × Int) ⊕ ((OO))), b_X12_stop_91 o x1 x2 x3 x4 y1 = some v → (∀ (o : OO) (x4 : Int), v = .inl (o, x4) → Go X 53 (wM g ad o) [(0, .ref (ad 0)), (1, iv x1), (2, iv x2), (3, iv x3), (4, iv x4)] []) → (∀ (o : OO), v = .inr (o) → Go X 135 (wM g ad o) [(0, .ref (ad 0)), (1, iv x1), (2, iv x2), (3, iv x3)] []) → Go X 91 (wM g ad o) [(0, .ref (ad 0)), (1, iv x1), (2, iv x2), (3, iv x3), (4, iv x4)] [iv y1, .ref (ad 58)] := by
    intro o x1 x2 x3 x4 y1 v h k0 k1
    unfold b_X12_stop_91 at h
    refine g_iconst E gdX12_stop_91 ?_
    exact j92 o x1 x2 x3 x4 y1 0 v h k0 k1
  have l53 : ∀ (x1 : Int) (x2 : Int) (x3 : Int) (r : (OO)) (s0 : OO × Int), loopW (fun s => l_X12_stop_53 x1 x2 x3 s.1 s.2) s0 = some r → (∀ (o : OO), r = (o) → Go X 135 (wM g ad o) [(0, .ref (ad 0)), (1, iv x1), (2, iv x2), (3, iv x3)] []) → Go X 53 (wM g ad s0.1) [(0, .ref (ad 0)), (1, iv x1), (2, iv x2), (3, iv x3), (4, iv s0.2)] [] := by
    intro x1 x2 x3 r s0 h k1
    refine loop_rule (Head := fun s0 => Go X 53 (wM g ad s0.1) [(0, .ref (ad 0)), (1, iv x1), (2, iv x2), (3, iv x3), (4, iv s0.2)] []) h ?_
    intro s v h kk kx
    obtain ⟨o, x4⟩ := s
    have h : l_X12_stop_53 x1 x2 x3 o x4 = some v := h
    have k0 : ∀ (o : OO) (x4 : Int), v = .inl (o, x4) → Go X 53 (wM g ad o) [(0, .ref (ad 0)), (1, iv x1), (2, iv x2), (3, iv x3), (4, iv x4)] [] := fun o x4 e => kk (o, x4) e
    have k1 : ∀ (o : OO), v = .inr (o) → Go X 135 (wM g ad o) [(0, .ref (ad 0)), (1, iv x1), (2, iv x2), (3, iv x3)] [] := fun o e => k1 o (kx _ e).symm
    unfold l_X12_stop_53 at h
    refine g_iload E gdX12_stop_53 4 rfl ?_
    refine g_bipush E gdX12_stop_55 (by decide) ?_
    refine g_icmp_ge E 135 gdX12_stop_57 (by decide) h (fun h => ?_) (fun h => ?_)
    ·
      refine g_sub E [0, 1, 2, 3] rfl ?_
      exact k1 o (Option.some.inj h).symm
    ·
      refine g_aload_n E gdX12_stop_60 rfl 0 rfl ?_
      refine g_get (T := TX12) E fw_X12 0 (wM_0 g ad o) rfl 71 (by decide) w_1537 rfl rfl gdX12_stop_61 ?_
      refine g_iload E gdX12_stop_64 4 rfl ?_
      refine g_iload E gdX12_stop_66 4 rfl ?_
      refine g_iload_n E gdX12_stop_68 rfl 1 rfl ?_
      refine g_icmp_eq E 91 gdX12_stop_69 (by decide) h (fun h => ?_) (fun h => ?_)
      ·
        exact j91 o x1 x2 x3 x4 x4 v h k0 k1
      ·
        refine g_iload E gdX12_stop_72 4 rfl ?_
        refine g_iload_n E gdX12_stop_74 rfl 2 rfl ?_
        refine g_icmp_eq E 91 gdX12_stop_75 (by decide) h (fun h => ?_) (fun h => ?_)
        ·
          exact j91 o x1 x2 x3 x4 x4 v h k0 k1
        ·
          refine g_aload_n E gdX12_stop_78 rfl 0 rfl ?_
          refine g_iload E gdX12_stop_79 4 rfl ?_
          obtain ⟨r29, hc30, h⟩ := qB_of h
          refine g_Vi (r := r29) (As := [iv x4]) (rest := [iv x4, .ref (ad 58)]) (w := wM g ad o) E (c_X12_on l g ad o x4 r29 hc30) okm_X12_on okw_X12_on w_1791 rfl (wM_0 g ad o) rfl rfl (Nat.le_of_ble_eq_true rfl) ⟨Nat.le_of_ble_eq_true rfl, Nat.le_of_ble_eq_true rfl⟩ gdX12_stop_81 ?_
          refine g_if_lt E 91 gdX12_stop_84 (by decide) h (fun h => ?_) (fun h => ?_)
          ·
            exact j91 o x1 x2 x3 x4 x4 v h k0 k1
          ·
            refine g_iconst E gdX12_stop_87 ?_
            refine g_goto E 92 gdX12_stop_88 (by decide) ?_
            exact j92 o x1 x2 x3 x4 x4 1 v h k0 k1
  have j53 : ∀ (o : OO) (x1 : Int) (x2 : Int) (x3 : Int) (x4 : Int), e_X12_stop_53 o x1 x2 x3 x4 = some v → Go X 53 (wM g ad o) [(0, .ref (ad 0)), (1, iv x1), (2, iv x2), (3, iv x3), (4, iv x4)] [] := by
    intro o x1 x2 x3 x4 h
    unfold e_X12_stop_53 at h
    obtain ⟨r, hr, h⟩ := qB_of h
    refine l53 x1 x2 x3 r _ hr ?_
    ·
      intro u0 e
      have e := e.symm
      subst e
      have h : b_X12_stop_135 u0 x1 x2 x3 = some v := h
      exact j135 u0 x1 x2 x3 h
  unfold s_X12_stop at h
  refine g_iload_n E gdX12_stop_0 rfl 1 rfl ?_
  obtain ⟨r31, hc32, h⟩ := qB_of h
  refine g_Si (r := r31) (As := [iv x1]) (rest := []) (w := wM g ad o) E (c_X12_isCell l g (wM g ad o) x1 r31 hc32) okm_X12_isCell w_1789 w_1788 rfl rfl (Nat.le_of_ble_eq_true rfl) ⟨Nat.le_of_ble_eq_true rfl, Nat.le_of_ble_eq_true rfl⟩ gdX12_stop_1 ?_
  refine g_if_eq E 19 gdX12_stop_4 (by decide) h (fun h => ?_) (fun h => ?_)
  ·
    refine g_sub E [] rfl ?_
    exact j19 o h
  ·
    refine g_iload_n E gdX12_stop_7 rfl 2 rfl ?_
    obtain ⟨r33, hc34, h⟩ := qB_of h
    refine g_Si (r := r33) (As := [iv x2]) (rest := []) (w := wM g ad o) E (c_X12_isCell l g (wM g ad o) x2 r33 hc34) okm_X12_isCell w_1789 w_1788 rfl rfl (Nat.le_of_ble_eq_true rfl) ⟨Nat.le_of_ble_eq_true rfl, Nat.le_of_ble_eq_true rfl⟩ gdX12_stop_8 ?_
    refine g_if_eq E 19 gdX12_stop_11 (by decide) h (fun h => ?_) (fun h => ?_)
    ·
      refine g_sub E [] rfl ?_
      exact j19 o h
    ·
      refine g_iload_n E gdX12_stop_14 rfl 1 rfl ?_
      refine g_iload_n E gdX12_stop_15 rfl 2 rfl ?_
      refine g_icmp_ne E 21 gdX12_stop_16 (by decide) h (fun h => ?_) (fun h => ?_)
      ·
        refine g_aload_n E gdX12_stop_21 rfl 0 rfl ?_
        refine g_get (T := TX12) E fw_X12 0 (wM_0 g ad o) rfl 15 (by decide) w_1481 rfl rfl gdX12_stop_22 ?_
        refine g_iload_n E gdX12_stop_25 rfl 1 rfl ?_
        obtain ⟨hi35, h⟩ := qIn_of h
        refine g_iald E 11 (wM_11 g ad o) (by decide) hi35 gdX12_stop_26 ?_
        obtain ⟨n36, e_n36, h⟩ := qNm_of h
        refine g_nmi e_n36 ?_
        refine g_iconst E gdX12_stop_27 ?_
        refine g_icmp_eq E 41 gdX12_stop_28 (by decide) h (fun h => ?_) (fun h => ?_)
        ·
          refine g_sub E [] rfl ?_
          exact j41 o h
        ·
          refine g_aload_n E gdX12_stop_31 rfl 0 rfl ?_
          refine g_get (T := TX12) E fw_X12 0 (wM_0 g ad o) rfl 15 (by decide) w_1481 rfl rfl gdX12_stop_32 ?_
          refine g_iload_n E gdX12_stop_35 rfl 2 rfl ?_
          obtain ⟨hi37, h⟩ := qIn_of h
          refine g_iald E 11 (wM_11 g ad o) (by decide) hi37 gdX12_stop_36 ?_
          obtain ⟨n38, e_n38, h⟩ := qNm_of h
          refine g_nmi e_n38 ?_
          refine g_iconst E gdX12_stop_37 ?_
          refine g_icmp_ne E 44 gdX12_stop_38 (by decide) h (fun h => ?_) (fun h => ?_)
          ·
            refine g_aload_n E gdX12_stop_44 rfl 0 rfl ?_
            refine g_iconst E gdX12_stop_45 ?_
            obtain ⟨r39, hc40, h⟩ := qB_of h
            refine g_Vi (r := r39) (As := [iv 0]) (rest := []) (w := wM g ad o) E (c_X12_nowInForce l g ad o 0 r39 hc40) okm_X12_nowInForce okw_X12_nowInForce w_1871 rfl (wM_0 g ad o) rfl rfl (Nat.le_of_ble_eq_true rfl) ⟨Nat.le_of_ble_eq_true rfl, Nat.le_of_ble_eq_true rfl⟩ gdX12_stop_46 ?_
            refine g_istore_n E [(3, iv r39), (0, .ref (ad 0)), (1, iv x1), (2, iv x2)] gdX12_stop_49 rfl (by decide) rfl ?_
            refine g_iconst E gdX12_stop_50 ?_
            refine g_istore E [(4, iv 0), (3, iv r39), (0, .ref (ad 0)), (1, iv x1), (2, iv x2)] gdX12_stop_51 (by decide) rfl ?_
            refine g_sub E [2, 3, 4, 1, 0] rfl ?_
            exact j53 o x1 x2 r39 0 h
          ·
            refine g_sub E [] rfl ?_
            exact j41 o h
      ·
        refine g_sub E [] rfl ?_
        exact j19 o h
set_option maxHeartbeats 4000000 in
set_option maxRecDepth 100000 in
theorem c_X12_firstValue (l : Launch) (g : GG) (ad : Nat → Nat) (o : OO) (x1 : Int) (v : Int) (h : s_X12_firstValue o x1 = some v) : CI l g yX12_firstValue cX12_firstValue 3 (some .int) 0 0 (wM g ad o) [.ref (ad 0), iv x1] v (wM g ad o) := by
  refine met_I (by decide) (Nat.le_of_ble_eq_true rfl) ?_
  intro X E hQ
  show Go X 0 (wM g ad o) [(0, .ref (ad 0)), (1, iv x1)] []
  have j18 : ∀ (x2 : Int), b_X12_firstValue_18 o x2 = some v → Go X 18 (wM g ad o) [(0, .ref (ad 0)), (2, iv x2)] [] := by
    intro x2 h
    unfold b_X12_firstValue_18 at h
    refine g_aload_n E gdX12_firstValue_18 rfl 0 rfl ?_
    refine g_get (T := TX12) E fw_X12 0 (wM_0 g ad o) rfl 26 (by decide) w_1492 rfl rfl gdX12_firstValue_19 ?_
    refine g_iload_n E gdX12_firstValue_22 rfl 1 rfl ?_
    obtain ⟨hi1, h⟩ := qIn_of h
    refine g_iald E 20 (wM_20 g ad o) (by decide) hi1 gdX12_firstValue_23 ?_
    obtain ⟨n2, e_n2, h⟩ := qNm_of h
    refine g_nmi e_n2 ?_
    exact g_iret E hQ (Option.some.inj h) rfl gdX12_firstValue_24
  have l2 : ∀ (x1 : Int) (r : (Int)) (s0 : Int), loopW (fun s => l_X12_firstValue_2 o x1 s) s0 = some r → (∀ (x2 : Int), r = (x2) → Go X 18 (wM g ad o) [(0, .ref (ad 0)), (2, iv x2)] []) → Go X 2 (wM g ad o) [(0, .ref (ad 0)), (1, iv x1), (2, iv s0)] [] := by
    intro x1 r s0 h k1
    refine loop_rule (Head := fun s0 => Go X 2 (wM g ad o) [(0, .ref (ad 0)), (1, iv x1), (2, iv s0)] []) h ?_
    intro s v h kk kx
    obtain ⟨x2, hs⟩ : ∃ q, q = s := ⟨_, rfl⟩
    subst hs
    have h : l_X12_firstValue_2 o x1 x2 = some v := h
    have k0 : ∀ (x2 : Int), v = .inl x2 → Go X 2 (wM g ad o) [(0, .ref (ad 0)), (1, iv x1), (2, iv x2)] [] := fun x2 e => kk x2 e
    have k1 : ∀ (x2 : Int), v = .inr (x2) → Go X 18 (wM g ad o) [(0, .ref (ad 0)), (2, iv x2)] [] := fun x2 e => k1 x2 (kx _ e).symm
    unfold l_X12_firstValue_2 at h
    refine g_aload_n E gdX12_firstValue_2 rfl 0 rfl ?_
    refine g_get (T := TX12) E fw_X12 0 (wM_0 g ad o) rfl 24 (by decide) w_1490 rfl rfl gdX12_firstValue_3 ?_
    refine g_iload_n E gdX12_firstValue_6 rfl 2 rfl ?_
    obtain ⟨hi3, h⟩ := qIn_of h
    refine g_iald E 18 (wM_18 g ad o) (by decide) hi3 gdX12_firstValue_7 ?_
    obtain ⟨n4, e_n4, h⟩ := qNm_of h
    refine g_nmi e_n4 ?_
    refine g_iload_n E gdX12_firstValue_8 rfl 1 rfl ?_
    refine g_icmp_eq E 18 gdX12_firstValue_9 (by decide) h (fun h => ?_) (fun h => ?_)
    ·
      refine g_sub E [0, 2] rfl ?_
      exact k1 x2 (Option.some.inj h).symm
    ·
      refine g_iinc E [(2, iv (x2 + 1)), (0, .ref (ad 0)), (1, iv x1)] gdX12_firstValue_12 2 rfl (by decide) rfl ?_
      refine g_goto E 2 gdX12_firstValue_15 (by decide) ?_
      refine g_sub E [1, 2, 0] rfl ?_
      exact k0 (x2 + 1) (Option.some.inj h).symm
  have j2 : ∀ (x1 : Int) (x2 : Int), e_X12_firstValue_2 o x1 x2 = some v → Go X 2 (wM g ad o) [(0, .ref (ad 0)), (1, iv x1), (2, iv x2)] [] := by
    intro x1 x2 h
    unfold e_X12_firstValue_2 at h
    obtain ⟨r, hr, h⟩ := qB_of h
    refine l2 x1 r _ hr ?_
    ·
      intro u0 e
      have e := e.symm
      subst e
      have h : b_X12_firstValue_18 o u0 = some v := h
      exact j18 u0 h
  unfold s_X12_firstValue at h
  refine g_iconst E gdX12_firstValue_0 ?_
  refine g_istore_n E [(2, iv 0), (0, .ref (ad 0)), (1, iv x1)] gdX12_firstValue_1 rfl (by decide) rfl ?_
  refine g_sub E [1, 2, 0] rfl ?_
  exact j2 x1 0 h
set_option maxHeartbeats 4000000 in
set_option maxRecDepth 100000 in
theorem c_X12_take (l : Launch) (g : GG) (ad : Nat → Nat) (o : OO) (x1 : Int) (x2 : Int) (v : Int × OO) (h : s_X12_take o x1 x2 = some v) : CI l g yX12_take cX12_take 6 (some .int) 3 71 (wM g ad o) [.ref (ad 0), iv x1, iv x2] v.1 (wM g ad v.2) := by
  refine met_I (by decide) (Nat.le_of_ble_eq_true rfl) ?_
  intro X E hQ
  show Go X 0 (wM g ad o) [(0, .ref (ad 0)), (1, iv x1), (2, iv x2)] []
  have j16 : ∀ (o : OO), b_X12_take_16 o = some v → Go X 16 (wM g ad o) [] [] := by
    intro o h
    unfold b_X12_take_16 at h
    refine g_iconst E gdX12_take_16 ?_
    exact g_iret E hQ (by rw [← Option.some.inj h]) (by rw [← Option.some.inj h]) gdX12_take_17
  have j79 : ∀ (o : OO), b_X12_take_79 o = some v → Go X 79 (wM g ad o) [] [] := by
    intro o h
    unfold b_X12_take_79 at h
    refine g_bipush E gdX12_take_79 (by decide) ?_
    exact g_iret E hQ (by rw [← Option.some.inj h]) (by rw [← Option.some.inj h]) gdX12_take_81
  have j195 : ∀ (o : OO) (x1 : Int) (x4 : Int), b_X12_take_195 o x1 x4 = some v → Go X 195 (wM g ad o) [(0, .ref (ad 0)), (1, iv x1), (4, iv x4)] [] := by
    intro o x1 x4 h
    unfold b_X12_take_195 at h
    refine g_aload_n E gdX12_take_195 rfl 0 rfl ?_
    refine g_get (T := TX12) E fw_X12 0 (wM_0 g ad o) rfl 21 (by decide) w_1487 rfl rfl gdX12_take_196 ?_
    refine g_iload_n E gdX12_take_199 rfl 1 rfl ?_
    refine g_iconst E gdX12_take_200 ?_
    obtain ⟨hi1, h⟩ := qIn_of h
    obtain ⟨hz2, h⟩ := qZ_of h
    obtain ⟨o3, e_o3, h⟩ := qNm_of h
    refine g_zast (ws' := wM g ad o3) E 16 (wM_16 g ad o) (by decide) hi1 hz2 (by rw [e_o3]; exact wM_s16 g ad o _ _) gdX12_take_201 ?_
    refine g_aload_n E gdX12_take_202 rfl 0 rfl ?_
    refine g_aload_n E gdX12_take_203 rfl 0 rfl ?_
    refine g_get (T := TX12) E fw_X12 0 (wM_0 g ad o3) rfl 40 (by decide) w_1506 rfl rfl gdX12_take_204 ?_
    refine g_iload E gdX12_take_207 2 rfl ?_
    obtain ⟨hi4, h⟩ := qIn_of h
    refine g_iald E 32 (wM_32 g ad o3) (by decide) hi4 gdX12_take_209 ?_
    obtain ⟨n5, e_n5, h⟩ := qNm_of h
    refine g_nmi e_n5 ?_
    refine g_iload E gdX12_take_210 2 rfl ?_
    obtain ⟨r6, o8, hc7, h⟩ := qB2_of h
    refine g_Vi (r := r6) (As := [iv n5, iv x4]) (rest := []) (w := wM g ad o8) E (c_X12_ask l g ad o3 n5 x4 (r6, o8) hc7) okm_X12_ask okw_X12_ask w_1835 rfl (wM_0 g ad o3) rfl rfl (Nat.le_of_ble_eq_true rfl) ⟨Nat.le_of_ble_eq_true rfl, Nat.le_of_ble_eq_true rfl⟩ gdX12_take_212 ?_
    exact g_iret E hQ (by rw [← Option.some.inj h]) (by rw [← Option.some.inj h]) gdX12_take_215
  have j189 : ∀ (o : OO) (x1 : Int) (x4 : Int) (x5 : Int) (v : (OO × Int) ⊕ ((OO))), b_X12_take_189 o x1 x4 x5 = some v → (∀ (o : OO) (x5 : Int), v = .inl (o, x5) → Go X 146 (wM g ad o) [(0, .ref (ad 0)), (1, iv x1), (4, iv x4), (5, iv x5)] []) → (∀ (o : OO), v = .inr (o) → Go X 195 (wM g ad o) [(0, .ref (ad 0)), (1, iv x1), (4, iv x4)] []) → Go X 189 (wM g ad o) [(0, .ref (ad 0)), (1, iv x1), (4, iv x4), (5, iv x5)] [] := by
    intro o x1 x4 x5 v h k0 k1
    unfold b_X12_take_189 at h
    refine g_iinc E [(5, iv (x5 + 1)), (0, .ref (ad 0)), (1, iv x1), (4, iv x4)] gdX12_take_189 3 rfl (by decide) rfl ?_
    refine g_goto E 146 gdX12_take_192 (by decide) ?_
    refine g_sub E [1, 2, 3, 0] rfl ?_
    exact k0 o (x5 + 1) (Option.some.inj h).symm
  have l146 : ∀ (x1 : Int) (x4 : Int) (r : (OO)) (s0 : OO × Int), loopW (fun s => l_X12_take_146 x1 x4 s.1 s.2) s0 = some r → (∀ (o : OO), r = (o) → Go X 195 (wM g ad o) [(0, .ref (ad 0)), (1, iv x1), (4, iv x4)] []) → Go X 146 (wM g ad s0.1) [(0, .ref (ad 0)), (1, iv x1), (4, iv x4), (5, iv s0.2)] [] := by
    intro x1 x4 r s0 h k1
    refine loop_rule (Head := fun s0 => Go X 146 (wM g ad s0.1) [(0, .ref (ad 0)), (1, iv x1), (4, iv x4), (5, iv s0.2)] []) h ?_
    intro s v h kk kx
    obtain ⟨o, x5⟩ := s
    have h : l_X12_take_146 x1 x4 o x5 = some v := h
    have k0 : ∀ (o : OO) (x5 : Int), v = .inl (o, x5) → Go X 146 (wM g ad o) [(0, .ref (ad 0)), (1, iv x1), (4, iv x4), (5, iv x5)] [] := fun o x5 e => kk (o, x5) e
    have k1 : ∀ (o : OO), v = .inr (o) → Go X 195 (wM g ad o) [(0, .ref (ad 0)), (1, iv x1), (4, iv x4)] [] := fun o e => k1 o (kx _ e).symm
    unfold l_X12_take_146 at h
    refine g_iload E gdX12_take_146 3 rfl ?_
    refine g_aload_n E gdX12_take_148 rfl 0 rfl ?_
    refine g_get (T := TX12) E fw_X12 0 (wM_0 g ad o) rfl 27 (by decide) w_1493 rfl rfl gdX12_take_149 ?_
    refine g_icmp_ge E 195 gdX12_take_152 (by decide) h (fun h => ?_) (fun h => ?_)
    ·
      refine g_sub E [0, 1, 2] rfl ?_
      exact k1 o (Option.some.inj h).symm
    ·
      refine g_aload_n E gdX12_take_155 rfl 0 rfl ?_
      refine g_get (T := TX12) E fw_X12 0 (wM_0 g ad o) rfl 28 (by decide) w_1494 rfl rfl gdX12_take_156 ?_
      refine g_iload E gdX12_take_159 3 rfl ?_
      obtain ⟨hi9, h⟩ := qIn_of h
      refine g_iald E 21 (wM_21 g ad o) (by decide) hi9 gdX12_take_161 ?_
      obtain ⟨n10, e_n10, h⟩ := qNm_of h
      refine g_nmi e_n10 ?_
      refine g_iload_n E gdX12_take_162 rfl 1 rfl ?_
      refine g_icmp_ne E 189 gdX12_take_163 (by decide) h (fun h => ?_) (fun h => ?_)
      ·
        exact j189 o x1 x4 x5 v h k0 k1
      ·
        refine g_aload_n E gdX12_take_166 rfl 0 rfl ?_
        refine g_get (T := TX12) E fw_X12 0 (wM_0 g ad o) rfl 42 (by decide) w_1508 rfl rfl gdX12_take_167 ?_
        refine g_iload E gdX12_take_170 2 rfl ?_
        refine g_dup2 E gdX12_take_172 rfl rfl ?_
        obtain ⟨hi11, h⟩ := qIn_of h
        refine g_lald E 34 (wM_34 g ad o) (by decide) hi11 gdX12_take_173 ?_
        obtain ⟨m12, e_m12, h⟩ := qNm_of h
        refine g_nml e_m12 ?_
        refine g_lconst (v := 1) E gdX12_take_174 (by decide) ?_
        refine g_iload E gdX12_take_175 3 rfl ?_
        refine g_lshl E gdX12_take_177 ?_
        refine g_lor E gdX12_take_178 ?_
        obtain ⟨hi13, h⟩ := qIn_of h
        obtain ⟨o14, e_o14, h⟩ := qNm_of h
        refine g_last (ws' := wM g ad o14) E 34 (wM_34 g ad o) (by decide) hi13 (by rw [e_o14]; exact wM_s34 g ad o _ _) gdX12_take_179 ?_
        refine g_aload_n E gdX12_take_180 rfl 0 rfl ?_
        refine g_get (T := TX12) E fw_X12 0 (wM_0 g ad o14) rfl 28 (by decide) w_1494 rfl rfl gdX12_take_181 ?_
        refine g_iload E gdX12_take_184 3 rfl ?_
        refine g_bipush E gdX12_take_186 (by decide) ?_
        obtain ⟨hi15, h⟩ := qIn_of h
        obtain ⟨o16, e_o16, h⟩ := qNm_of h
        refine g_iast (ws' := wM g ad o16) E 21 (wM_21 g ad o14) (by decide) hi15 (by rw [e_o16]; exact wM_s21 g ad o14 _ _) gdX12_take_188 ?_
        exact j189 o16 x1 x4 x5 v h k0 k1
  have j146 : ∀ (o : OO) (x1 : Int) (x4 : Int) (x5 : Int), e_X12_take_146 o x1 x4 x5 = some v → Go X 146 (wM g ad o) [(0, .ref (ad 0)), (1, iv x1), (4, iv x4), (5, iv x5)] [] := by
    intro o x1 x4 x5 h
    unfold e_X12_take_146 at h
    obtain ⟨r, hr, h⟩ := qB_of h
    refine l146 x1 x4 r _ hr ?_
    ·
      intro u0 e
      have e := e.symm
      subst e
      have h : b_X12_take_195 u0 x1 x4 = some v := h
      exact j195 u0 x1 x4 h
  have j109 : ∀ (o : OO) (x1 : Int) (x2 : Int) (y0 : Int), b_X12_take_109 o x1 x2 y0 = some v → Go X 109 (wM g ad o) [(0, .ref (ad 0)), (1, iv x1), (2, iv x2)] [iv y0] := by
    intro o x1 x2 y0 h
    unfold b_X12_take_109 at h
    refine g_istore_n E [(3, iv y0), (0, .ref (ad 0)), (1, iv x1), (2, iv x2)] gdX12_take_109 rfl (by decide) rfl ?_
    refine g_aload_n E gdX12_take_110 rfl 1 rfl ?_
    refine g_iconst E gdX12_take_111 ?_
    refine g_iload_n E gdX12_take_112 rfl 3 rfl ?_
    obtain ⟨r17, o19, hc18, h⟩ := qB2_of h
    refine g_Vi (r := r17) (As := [iv 3, iv x2]) (rest := []) (w := wM g ad o19) E (c_X12_enter l g ad o 3 x2 (r17, o19) hc18) okm_X12_enter okw_X12_enter w_1895 rfl (wM_0 g ad o) rfl rfl (Nat.le_of_ble_eq_true rfl) ⟨Nat.le_of_ble_eq_true rfl, Nat.le_of_ble_eq_true rfl⟩ gdX12_take_113 ?_
    refine g_istore E [(4, iv r17), (3, iv y0), (0, .ref (ad 0)), (1, iv x1), (2, iv x2)] gdX12_take_116 (by decide) rfl ?_
    refine g_aload_n E gdX12_take_118 rfl 2 rfl ?_
    refine g_get (T := TX12) E fw_X12 0 (wM_0 g ad o19) rfl 40 (by decide) w_1506 rfl rfl gdX12_take_119 ?_
    refine g_iload E gdX12_take_122 0 rfl ?_
    refine g_aload_n E gdX12_take_124 rfl 2 rfl ?_
    refine g_iconst E gdX12_take_125 ?_
    obtain ⟨r20, hc21, h⟩ := qB_of h
    refine g_Vi (r := r20) (As := [iv 2]) (rest := [iv r17, .ref (ad 32)]) (w := wM g ad o19) E (c_X12_nowInForce l g ad o19 2 r20 hc21) okm_X12_nowInForce okw_X12_nowInForce w_1871 rfl (wM_0 g ad o19) rfl rfl (Nat.le_of_ble_eq_true rfl) ⟨Nat.le_of_ble_eq_true rfl, Nat.le_of_ble_eq_true rfl⟩ gdX12_take_126 ?_
    refine g_iload_n E gdX12_take_129 rfl 1 rfl ?_
    refine g_imul E gdX12_take_130 ?_
    refine g_bipush E gdX12_take_131 (by decide) ?_
    obtain ⟨hd22, h⟩ := qDv_of h
    refine g_idiv E hd22 gdX12_take_133 ?_
    obtain ⟨hi23, h⟩ := qIn_of h
    obtain ⟨o24, e_o24, h⟩ := qNm_of h
    refine g_iast (ws' := wM g ad o24) E 32 (wM_32 g ad o19) (by decide) hi23 (by rw [e_o24]; exact wM_s32 g ad o19 _ _) gdX12_take_134 ?_
    refine g_aload_n E gdX12_take_135 rfl 2 rfl ?_
    refine g_get (T := TX12) E fw_X12 0 (wM_0 g ad o24) rfl 42 (by decide) w_1508 rfl rfl gdX12_take_136 ?_
    refine g_iload E gdX12_take_139 0 rfl ?_
    refine g_lconst (v := 0) E gdX12_take_141 (by decide) ?_
    obtain ⟨hi25, h⟩ := qIn_of h
    obtain ⟨o26, e_o26, h⟩ := qNm_of h
    refine g_last (ws' := wM g ad o26) E 34 (wM_34 g ad o24) (by decide) hi25 (by rw [e_o26]; exact wM_s34 g ad o24 _ _) gdX12_take_142 ?_
    refine g_iconst E gdX12_take_143 ?_
    refine g_istore E [(5, iv 0), (4, iv r17), (3, iv y0), (0, .ref (ad 0)), (1, iv x1), (2, iv x2)] gdX12_take_144 (by decide) rfl ?_
    refine g_sub E [3, 4, 1, 0] rfl ?_
    exact j146 o26 x1 r17 0 h
  unfold s_X12_take at h
  refine g_aload_n E gdX12_take_0 rfl 0 rfl ?_
  refine g_iload_n E gdX12_take_1 rfl 1 rfl ?_
  obtain ⟨r27, hc28, h⟩ := qB_of h
  refine g_Vi (r := r27) (As := [iv x1]) (rest := []) (w := wM g ad o) E (c_X12_isBuilding l g ad o x1 r27 hc28) okm_X12_isBuilding okw_X12_isBuilding w_1811 rfl (wM_0 g ad o) rfl rfl (Nat.le_of_ble_eq_true rfl) ⟨Nat.le_of_ble_eq_true rfl, Nat.le_of_ble_eq_true rfl⟩ gdX12_take_2 ?_
  refine g_if_eq E 16 gdX12_take_5 (by decide) h (fun h => ?_) (fun h => ?_)
  ·
    refine g_sub E [] rfl ?_
    exact j16 o h
  ·
    refine g_aload_n E gdX12_take_8 rfl 0 rfl ?_
    refine g_iload_n E gdX12_take_9 rfl 2 rfl ?_
    obtain ⟨r29, hc30, h⟩ := qB_of h
    refine g_Vi (r := r29) (As := [iv x2]) (rest := []) (w := wM g ad o) E (c_X12_isMark l g ad o x2 r29 hc30) okm_X12_isMark okw_X12_isMark w_1903 rfl (wM_0 g ad o) rfl rfl (Nat.le_of_ble_eq_true rfl) ⟨Nat.le_of_ble_eq_true rfl, Nat.le_of_ble_eq_true rfl⟩ gdX12_take_10 ?_
    refine g_if_ne E 18 gdX12_take_13 (by decide) h (fun h => ?_) (fun h => ?_)
    ·
      refine g_aload_n E gdX12_take_18 rfl 0 rfl ?_
      refine g_get (T := TX12) E fw_X12 0 (wM_0 g ad o) rfl 32 (by decide) w_1498 rfl rfl gdX12_take_19 ?_
      refine g_bipush E gdX12_take_22 (by decide) ?_
      refine g_icmp_ne E 30 gdX12_take_24 (by decide) h (fun h => ?_) (fun h => ?_)
      ·
        refine g_aload_n E gdX12_take_30 rfl 0 rfl ?_
        refine g_iload_n E gdX12_take_31 rfl 2 rfl ?_
        obtain ⟨r31, hc32, h⟩ := qB_of h
        refine g_Vi (r := r31) (As := [iv x2]) (rest := []) (w := wM g ad o) E (c_X12_isLine l g ad o x2 r31 hc32) okm_X12_isLine okw_X12_isLine w_1907 rfl (wM_0 g ad o) rfl rfl (Nat.le_of_ble_eq_true rfl) ⟨Nat.le_of_ble_eq_true rfl, Nat.le_of_ble_eq_true rfl⟩ gdX12_take_32 ?_
        refine g_if_ne E 44 gdX12_take_35 (by decide) h (fun h => ?_) (fun h => ?_)
        ·
          refine g_aload_n E gdX12_take_44 rfl 0 rfl ?_
          refine g_get (T := TX12) E fw_X12 0 (wM_0 g ad o) rfl 37 (by decide) w_1503 rfl rfl gdX12_take_45 ?_
          refine g_iload_n E gdX12_take_48 rfl 2 rfl ?_
          obtain ⟨hi33, h⟩ := qIn_of h
          refine g_iald E 29 (wM_29 g ad o) (by decide) hi33 gdX12_take_49 ?_
          obtain ⟨n34, e_n34, h⟩ := qNm_of h
          refine g_nmi e_n34 ?_
          refine g_if_lt E 79 gdX12_take_50 (by decide) h (fun h => ?_) (fun h => ?_)
          ·
            refine g_sub E [] rfl ?_
            exact j79 o h
          ·
            refine g_aload_n E gdX12_take_53 rfl 0 rfl ?_
            refine g_get (T := TX12) E fw_X12 0 (wM_0 g ad o) rfl 21 (by decide) w_1487 rfl rfl gdX12_take_54 ?_
            refine g_iload_n E gdX12_take_57 rfl 1 rfl ?_
            obtain ⟨hi35, h⟩ := qIn_of h
            refine g_zald E 16 (wM_16 g ad o) (by decide) hi35 gdX12_take_58 ?_
            obtain ⟨n36, e_n36, h⟩ := qNm_of h
            refine g_nmi e_n36 ?_
            refine g_if_ne E 79 gdX12_take_59 (by decide) h (fun h => ?_) (fun h => ?_)
            ·
              refine g_sub E [] rfl ?_
              exact j79 o h
            ·
              refine g_aload_n E gdX12_take_62 rfl 0 rfl ?_
              refine g_iload_n E gdX12_take_63 rfl 2 rfl ?_
              obtain ⟨p37, hc38, h⟩ := qB_of h
              refine g_Vl (r := p37) (As := [iv x2]) (rest := []) (w := wM g ad o) E (c_X12_cellsOf l g ad o x2 p37 hc38) okm_X12_cellsOf okw_X12_cellsOf w_1914 rfl (wM_0 g ad o) rfl rfl (Nat.le_of_ble_eq_true rfl) ⟨Nat.le_of_ble_eq_true rfl, Nat.le_of_ble_eq_true rfl⟩ gdX12_take_64 ?_
              refine g_aload_n E gdX12_take_67 rfl 0 rfl ?_
              refine g_get (T := TX12) E fw_X12 0 (wM_0 g ad o) rfl 18 (by decide) w_1484 rfl rfl gdX12_take_68 ?_
              refine g_iload_n E gdX12_take_71 rfl 1 rfl ?_
              obtain ⟨hi39, h⟩ := qIn_of h
              refine g_iald E 13 (wM_13 g ad o) (by decide) hi39 gdX12_take_72 ?_
              obtain ⟨n40, e_n40, h⟩ := qNm_of h
              refine g_nmi e_n40 ?_
              obtain ⟨r41, hc42, h⟩ := qB_of h
              refine g_Si (r := r41) (As := [.long p37, iv n40]) (rest := []) (w := wM g ad o) E (c_X12_has l g (wM g ad o) p37 n40 r41 hc42) okm_X12_has w_1919 w_1918 rfl rfl (Nat.le_of_ble_eq_true rfl) ⟨Nat.le_of_ble_eq_true rfl, Nat.le_of_ble_eq_true rfl⟩ gdX12_take_73 ?_
              refine g_if_ne E 82 gdX12_take_76 (by decide) h (fun h => ?_) (fun h => ?_)
              ·
                refine g_aload_n E gdX12_take_82 rfl 0 rfl ?_
                refine g_iload_n E gdX12_take_83 rfl 1 rfl ?_
                refine g_aload_n E gdX12_take_84 rfl 0 rfl ?_
                refine g_get (T := TX12) E fw_X12 0 (wM_0 g ad o) rfl 37 (by decide) w_1503 rfl rfl gdX12_take_85 ?_
                refine g_iload_n E gdX12_take_88 rfl 2 rfl ?_
                obtain ⟨hi43, h⟩ := qIn_of h
                refine g_iald E 29 (wM_29 g ad o) (by decide) hi43 gdX12_take_89 ?_
                obtain ⟨n44, e_n44, h⟩ := qNm_of h
                refine g_nmi e_n44 ?_
                refine g_iconst E gdX12_take_90 ?_
                refine g_isub E gdX12_take_91 ?_
                obtain ⟨r45, hc46, h⟩ := qB_of h
                refine g_Vi (r := r45) (As := [iv x1, iv (n44 - 1)]) (rest := []) (w := wM g ad o) E (c_X12_valueOf l g ad o x1 (n44 - 1) r45 hc46) okm_X12_valueOf okw_X12_valueOf w_1815 rfl (wM_0 g ad o) rfl rfl (Nat.le_of_ble_eq_true rfl) ⟨Nat.le_of_ble_eq_true rfl, Nat.le_of_ble_eq_true rfl⟩ gdX12_take_92 ?_
                refine g_istore_n E [(3, iv r45), (0, .ref (ad 0)), (1, iv x1), (2, iv x2)] gdX12_take_95 rfl (by decide) rfl ?_
                refine g_iload_n E gdX12_take_96 rfl 0 rfl ?_
                refine g_if_ge E 108 gdX12_take_97 (by decide) h (fun h => ?_) (fun h => ?_)
                ·
                  refine g_iload_n E gdX12_take_108 rfl 0 rfl ?_
                  refine g_sub E [1, 2, 3] rfl ?_
                  exact j109 o x1 x2 r45 h
                ·
                  refine g_aload_n E gdX12_take_100 rfl 1 rfl ?_
                  refine g_iload_n E gdX12_take_101 rfl 2 rfl ?_
                  obtain ⟨r47, hc48, h⟩ := qB_of h
                  refine g_Vi (r := r47) (As := [iv x1]) (rest := []) (w := wM g ad o) E (c_X12_firstValue l g ad o x1 r47 hc48) okm_X12_firstValue okw_X12_firstValue w_1941 rfl (wM_0 g ad o) rfl rfl (Nat.le_of_ble_eq_true rfl) ⟨Nat.le_of_ble_eq_true rfl, Nat.le_of_ble_eq_true rfl⟩ gdX12_take_102 ?_
                  refine g_goto E 109 gdX12_take_105 (by decide) ?_
                  refine g_sub E [1, 2, 3] rfl ?_
                  exact j109 o x1 x2 r47 h
              ·
                refine g_sub E [] rfl ?_
                exact j79 o h
        ·
          refine g_aload_n E gdX12_take_38 rfl 0 rfl ?_
          refine g_iconst E gdX12_take_39 ?_
          obtain ⟨r49, o51, hc50, h⟩ := qB2_of h
          refine g_Vi (r := r49) (As := [iv 3]) (rest := []) (w := wM g ad o51) E (c_X12_meets l g ad o 3 (r49, o51) hc50) okm_X12_meets okw_X12_meets w_1708 rfl (wM_0 g ad o) rfl rfl (Nat.le_of_ble_eq_true rfl) ⟨Nat.le_of_ble_eq_true rfl, Nat.le_of_ble_eq_true rfl⟩ gdX12_take_40 ?_
          exact g_iret E hQ (by rw [← Option.some.inj h]) (by rw [← Option.some.inj h]) gdX12_take_43
      ·
        refine g_bipush E gdX12_take_27 (by decide) ?_
        exact g_iret E hQ (by rw [← Option.some.inj h]) (by rw [← Option.some.inj h]) gdX12_take_29
    ·
      refine g_sub E [] rfl ?_
      exact j16 o h
set_option maxHeartbeats 4000000 in
set_option maxRecDepth 100000 in
theorem c_X12_tear (l : Launch) (g : GG) (ad : Nat → Nat) (o : OO) (x1 : Int) (v : Int × OO) (h : s_X12_tear o x1 = some v) : CI l g yX12_tear cX12_tear 3 (some .int) 3 63 (wM g ad o) [.ref (ad 0), iv x1] v.1 (wM g ad v.2) := by
  refine met_I (by decide) (Nat.le_of_ble_eq_true rfl) ?_
  intro X E hQ
  show Go X 0 (wM g ad o) [(0, .ref (ad 0)), (1, iv x1)] []
  unfold s_X12_tear at h
  refine g_aload_n E gdX12_tear_0 rfl 0 rfl ?_
  refine g_iload_n E gdX12_tear_1 rfl 1 rfl ?_
  obtain ⟨r1, o3, hc2, h⟩ := qB2_of h
  refine g_Vi (r := r1) (As := [iv x1]) (rest := []) (w := wM g ad o3) E (c_X12_askedRow l g ad o x1 (r1, o3) hc2) okm_X12_askedRow okw_X12_askedRow w_1716 rfl (wM_0 g ad o) rfl rfl (Nat.le_of_ble_eq_true rfl) ⟨Nat.le_of_ble_eq_true rfl, Nat.le_of_ble_eq_true rfl⟩ gdX12_tear_2 ?_
  refine g_istore_n E [(2, iv r1), (0, .ref (ad 0)), (1, iv x1)] gdX12_tear_5 rfl (by decide) rfl ?_
  refine g_iload_n E gdX12_tear_6 rfl 0 rfl ?_
  refine g_if_ge E 12 gdX12_tear_7 (by decide) h (fun h => ?_) (fun h => ?_)
  ·
    refine g_aload_n E gdX12_tear_12 rfl 1 rfl ?_
    refine g_get (T := TX12) E fw_X12 0 (wM_0 g ad o3) rfl 5 (by decide) w_1471 rfl rfl gdX12_tear_13 ?_
    refine g_iload_n E gdX12_tear_16 rfl 2 rfl ?_
    refine g_bipush E gdX12_tear_17 (by decide) ?_
    obtain ⟨hi4, h⟩ := qIn_of h
    obtain ⟨o5, e_o5, h⟩ := qNm_of h
    refine g_iast (ws' := wM g ad o5) E 2 (wM_2 g ad o3) (by decide) hi4 (by rw [e_o5]; exact wM_s2 g ad o3 _ _) gdX12_tear_19 ?_
    refine g_iconst E gdX12_tear_20 ?_
    exact g_iret E hQ (by rw [← Option.some.inj h]) (by rw [← Option.some.inj h]) gdX12_tear_21
  ·
    refine g_iload_n E gdX12_tear_10 rfl 0 rfl ?_
    exact g_iret E hQ (by rw [← Option.some.inj h]) (by rw [← Option.some.inj h]) gdX12_tear_11
set_option maxHeartbeats 4000000 in
set_option maxRecDepth 100000 in
theorem c_X12_text (l : Launch) (g : GG) (ad : Nat → Nat) (o : OO) (x1 : Int) (x2 : Int) (v : Int × OO) (h : s_X12_text o x1 x2 = some v) : CI l g yX12_text cX12_text 4 (some .int) 2 42 (wM g ad o) [.ref (ad 0), iv x1, iv x2] v.1 (wM g ad v.2) := by
  refine met_I (by decide) (Nat.le_of_ble_eq_true rfl) ?_
  intro X E hQ
  show Go X 0 (wM g ad o) [(0, .ref (ad 0)), (1, iv x1), (2, iv x2)] []
  have j13 : ∀ (o : OO), b_X12_text_13 o = some v → Go X 13 (wM g ad o) [] [] := by
    intro o h
    unfold b_X12_text_13 at h
    refine g_iconst E gdX12_text_13 ?_
    exact g_iret E hQ (by rw [← Option.some.inj h]) (by rw [← Option.some.inj h]) gdX12_text_14
  have j59 : ∀ (o : OO) (x2 : Int), b_X12_text_59 o x2 = some v → Go X 59 (wM g ad o) [(2, iv x2)] [] := by
    intro o x2 h
    unfold b_X12_text_59 at h
    refine g_iload_n E gdX12_text_59 rfl 0 rfl ?_
    exact g_iret E hQ (by rw [← Option.some.inj h]) (by rw [← Option.some.inj h]) gdX12_text_60
  have l34 : ∀ (x1 : Int) (x2 : Int) (r : (OO)) (s0 : OO × Int), loopW (fun s => l_X12_text_34 x1 x2 s.1 s.2) s0 = some r → (∀ (o : OO), r = (o) → Go X 59 (wM g ad o) [(2, iv x2)] []) → Go X 34 (wM g ad s0.1) [(0, .ref (ad 0)), (1, iv x1), (2, iv x2), (3, iv s0.2)] [] := by
    intro x1 x2 r s0 h k1
    refine loop_rule (Head := fun s0 => Go X 34 (wM g ad s0.1) [(0, .ref (ad 0)), (1, iv x1), (2, iv x2), (3, iv s0.2)] []) h ?_
    intro s v h kk kx
    obtain ⟨o, x3⟩ := s
    have h : l_X12_text_34 x1 x2 o x3 = some v := h
    have k0 : ∀ (o : OO) (x3 : Int), v = .inl (o, x3) → Go X 34 (wM g ad o) [(0, .ref (ad 0)), (1, iv x1), (2, iv x2), (3, iv x3)] [] := fun o x3 e => kk (o, x3) e
    have k1 : ∀ (o : OO), v = .inr (o) → Go X 59 (wM g ad o) [(2, iv x2)] [] := fun o e => k1 o (kx _ e).symm
    unfold l_X12_text_34 at h
    refine g_iload_n E gdX12_text_34 rfl 3 rfl ?_
    refine g_bipush E gdX12_text_35 (by decide) ?_
    refine g_icmp_ge E 59 gdX12_text_37 (by decide) h (fun h => ?_) (fun h => ?_)
    ·
      refine g_sub E [2] rfl ?_
      exact k1 o (Option.some.inj h).symm
    ·
      refine g_aload_n E gdX12_text_40 rfl 0 rfl ?_
      refine g_get (T := TX12) E fw_X12 0 (wM_0 g ad o) rfl 9 (by decide) w_1475 rfl rfl gdX12_text_41 ?_
      refine g_bipush E gdX12_text_44 (by decide) ?_
      refine g_iload_n E gdX12_text_46 rfl 1 rfl ?_
      refine g_imul E gdX12_text_47 ?_
      refine g_iload_n E gdX12_text_48 rfl 3 rfl ?_
      refine g_iadd E gdX12_text_49 ?_
      refine g_bipush E gdX12_text_50 (by decide) ?_
      obtain ⟨hi1, h⟩ := qIn_of h
      obtain ⟨o2, e_o2, h⟩ := qNm_of h
      refine g_iast (ws' := wM g ad o2) E 6 (wM_6 g ad o) (by decide) hi1 (by rw [e_o2]; exact wM_s6 g ad o _ _) gdX12_text_52 ?_
      refine g_iinc E [(3, iv (x3 + 1)), (0, .ref (ad 0)), (1, iv x1), (2, iv x2)] gdX12_text_53 3 rfl (by decide) rfl ?_
      refine g_goto E 34 gdX12_text_56 (by decide) ?_
      refine g_sub E [1, 2, 3, 0] rfl ?_
      exact k0 o2 (x3 + 1) (Option.some.inj h).symm
  have j34 : ∀ (o : OO) (x1 : Int) (x2 : Int) (x3 : Int), e_X12_text_34 o x1 x2 x3 = some v → Go X 34 (wM g ad o) [(0, .ref (ad 0)), (1, iv x1), (2, iv x2), (3, iv x3)] [] := by
    intro o x1 x2 x3 h
    unfold e_X12_text_34 at h
    obtain ⟨r, hr, h⟩ := qB_of h
    refine l34 x1 x2 r _ hr ?_
    ·
      intro u0 e
      have e := e.symm
      subst e
      have h : b_X12_text_59 u0 x2 = some v := h
      exact j59 u0 x2 h
  unfold s_X12_text at h
  refine g_iload_n E gdX12_text_0 rfl 1 rfl ?_
  obtain ⟨r3, hc4, h⟩ := qB_of h
  refine g_Si (r := r3) (As := [iv x1]) (rest := []) (w := wM g ad o) E (c_X12_isText l g (wM g ad o) x1 r3 hc4) okm_X12_isText w_1733 w_1732 rfl rfl (Nat.le_of_ble_eq_true rfl) ⟨Nat.le_of_ble_eq_true rfl, Nat.le_of_ble_eq_true rfl⟩ gdX12_text_1 ?_
  refine g_if_eq E 13 gdX12_text_4 (by decide) h (fun h => ?_) (fun h => ?_)
  ·
    refine g_sub E [] rfl ?_
    exact j13 o h
  ·
    refine g_iload_n E gdX12_text_7 rfl 2 rfl ?_
    refine g_bipush E gdX12_text_8 (by decide) ?_
    refine g_icmp_le E 15 gdX12_text_10 (by decide) h (fun h => ?_) (fun h => ?_)
    ·
      refine g_iload_n E gdX12_text_15 rfl 2 rfl ?_
      refine g_if_ge E 25 gdX12_text_16 (by decide) h (fun h => ?_) (fun h => ?_)
      ·
        refine g_aload_n E gdX12_text_25 rfl 0 rfl ?_
        refine g_get (T := TX12) E fw_X12 0 (wM_0 g ad o) rfl 8 (by decide) w_1474 rfl rfl gdX12_text_26 ?_
        refine g_iload_n E gdX12_text_29 rfl 1 rfl ?_
        refine g_iload_n E gdX12_text_30 rfl 2 rfl ?_
        obtain ⟨hi5, h⟩ := qIn_of h
        obtain ⟨o6, e_o6, h⟩ := qNm_of h
        refine g_iast (ws' := wM g ad o6) E 5 (wM_5 g ad o) (by decide) hi5 (by rw [e_o6]; exact wM_s5 g ad o _ _) gdX12_text_31 ?_
        refine g_iconst E gdX12_text_32 ?_
        refine g_istore_n E [(3, iv 0), (0, .ref (ad 0)), (1, iv x1), (2, iv x2)] gdX12_text_33 rfl (by decide) rfl ?_
        refine g_sub E [1, 2, 3, 0] rfl ?_
        exact j34 o6 x1 x2 0 h
      ·
        refine g_aload_n E gdX12_text_19 rfl 0 rfl ?_
        refine g_iconst E gdX12_text_20 ?_
        obtain ⟨r7, o9, hc8, h⟩ := qB2_of h
        refine g_Vi (r := r7) (As := [iv 5]) (rest := []) (w := wM g ad o9) E (c_X12_meets l g ad o 5 (r7, o9) hc8) okm_X12_meets okw_X12_meets w_1708 rfl (wM_0 g ad o) rfl rfl (Nat.le_of_ble_eq_true rfl) ⟨Nat.le_of_ble_eq_true rfl, Nat.le_of_ble_eq_true rfl⟩ gdX12_text_21 ?_
        exact g_iret E hQ (by rw [← Option.some.inj h]) (by rw [← Option.some.inj h]) gdX12_text_24
    ·
      refine g_sub E [] rfl ?_
      exact j13 o h
set_option maxHeartbeats 4000000 in
set_option maxRecDepth 100000 in
theorem c_X12_told (l : Launch) (g : GG) (ad : Nat → Nat) (o : OO) (x1 : Int) (x2 : Int) (v : Int × OO) (h : s_X12_told o x1 x2 = some v) : CI l g yX12_told cX12_told 3 (some .int) 2 43 (wM g ad o) [.ref (ad 0), iv x1, iv x2] v.1 (wM g ad v.2) := by
  refine met_I (by decide) (Nat.le_of_ble_eq_true rfl) ?_
  intro X E hQ
  show Go X 0 (wM g ad o) [(0, .ref (ad 0)), (1, iv x1), (2, iv x2)] []
  have j32 : ∀ (o : OO) (y0 : Int), b_X12_told_32 o y0 = some v → Go X 32 (wM g ad o) [] [iv y0] := by
    intro o y0 h
    unfold b_X12_told_32 at h
    exact g_iret E hQ (by rw [← Option.some.inj h]) (by rw [← Option.some.inj h]) gdX12_told_32
  have j31 : ∀ (o : OO), b_X12_told_31 o = some v → Go X 31 (wM g ad o) [] [] := by
    intro o h
    unfold b_X12_told_31 at h
    refine g_iconst E gdX12_told_31 ?_
    exact j32 o (-1) h
  unfold s_X12_told at h
  refine g_aload_n E gdX12_told_0 rfl 0 rfl ?_
  refine g_iload_n E gdX12_told_1 rfl 1 rfl ?_
  obtain ⟨r1, hc2, h⟩ := qB_of h
  refine g_Vi (r := r1) (As := [iv x1]) (rest := []) (w := wM g ad o) E (c_X12_isMark l g ad o x1 r1 hc2) okm_X12_isMark okw_X12_isMark w_1903 rfl (wM_0 g ad o) rfl rfl (Nat.le_of_ble_eq_true rfl) ⟨Nat.le_of_ble_eq_true rfl, Nat.le_of_ble_eq_true rfl⟩ gdX12_told_2 ?_
  refine g_if_eq E 31 gdX12_told_5 (by decide) h (fun h => ?_) (fun h => ?_)
  ·
    refine g_sub E [] rfl ?_
    exact j31 o h
  ·
    refine g_iload_n E gdX12_told_8 rfl 2 rfl ?_
    refine g_iconst E gdX12_told_9 ?_
    refine g_iconst E gdX12_told_10 ?_
    obtain ⟨r3, hc4, h⟩ := qB_of h
    refine g_Si (r := r3) (As := [iv x2, iv 0, iv 2]) (rest := []) (w := wM g ad o) E (c_X12_in l g (wM g ad o) x2 0 2 r3 hc4) okm_X12_in w_1706 w_1705 rfl rfl (Nat.le_of_ble_eq_true rfl) ⟨Nat.le_of_ble_eq_true rfl, Nat.le_of_ble_eq_true rfl⟩ gdX12_told_11 ?_
    refine g_if_eq E 31 gdX12_told_14 (by decide) h (fun h => ?_) (fun h => ?_)
    ·
      refine g_sub E [] rfl ?_
      exact j31 o h
    ·
      refine g_aload_n E gdX12_told_17 rfl 0 rfl ?_
      refine g_aload_n E gdX12_told_18 rfl 0 rfl ?_
      refine g_iload_n E gdX12_told_19 rfl 1 rfl ?_
      refine g_iload_n E gdX12_told_20 rfl 2 rfl ?_
      obtain ⟨r5, hc6, h⟩ := qB_of h
      refine g_Vi (r := r5) (As := [iv x1, iv x2]) (rest := [.ref (ad 0)]) (w := wM g ad o) E (c_X12_markTells l g ad o x1 x2 r5 hc6) okm_X12_markTells okw_X12_markTells w_1961 rfl (wM_0 g ad o) rfl rfl (Nat.le_of_ble_eq_true rfl) ⟨Nat.le_of_ble_eq_true rfl, Nat.le_of_ble_eq_true rfl⟩ gdX12_told_21 ?_
      refine g_iconst E gdX12_told_24 ?_
      obtain ⟨r7, o9, hc8, h⟩ := qB2_of h
      refine g_Vi (r := r7) (As := [iv r5, iv 1]) (rest := []) (w := wM g ad o9) E (c_X12_ask l g ad o r5 1 (r7, o9) hc8) okm_X12_ask okw_X12_ask w_1835 rfl (wM_0 g ad o) rfl rfl (Nat.le_of_ble_eq_true rfl) ⟨Nat.le_of_ble_eq_true rfl, Nat.le_of_ble_eq_true rfl⟩ gdX12_told_25 ?_
      refine g_goto E 32 gdX12_told_28 (by decide) ?_
      refine g_sub E [] rfl ?_
      exact j32 o9 r7 h
set_option maxHeartbeats 4000000 in
set_option maxRecDepth 100000 in
theorem c_X12_value (l : Launch) (g : GG) (ad : Nat → Nat) (o : OO) (x1 : Int) (x2 : Int) (v : Int) (h : s_X12_value o x1 x2 = some v) : CI l g yX12_value cX12_value 3 (some .int) 2 43 (wM g ad o) [.ref (ad 0), iv x1, iv x2] v (wM g ad o) := by
  refine met_I (by decide) (Nat.le_of_ble_eq_true rfl) ?_
  intro X E hQ
  show Go X 0 (wM g ad o) [(0, .ref (ad 0)), (1, iv x1), (2, iv x2)] []
  have j25 : ∀ (y0 : Int), b_X12_value_25 o y0 = some v → Go X 25 (wM g ad o) [] [iv y0] := by
    intro y0 h
    unfold b_X12_value_25 at h
    exact g_iret E hQ (Option.some.inj h) rfl gdX12_value_25
  have j24 : b_X12_value_24 o = some v → Go X 24 (wM g ad o) [] [] := by
    intro h
    unfold b_X12_value_24 at h
    refine g_iconst E gdX12_value_24 ?_
    exact j25 (-1) h
  unfold s_X12_value at h
  refine g_aload_n E gdX12_value_0 rfl 0 rfl ?_
  refine g_iload_n E gdX12_value_1 rfl 1 rfl ?_
  obtain ⟨r1, hc2, h⟩ := qB_of h
  refine g_Vi (r := r1) (As := [iv x1]) (rest := []) (w := wM g ad o) E (c_X12_isBuilding l g ad o x1 r1 hc2) okm_X12_isBuilding okw_X12_isBuilding w_1811 rfl (wM_0 g ad o) rfl rfl (Nat.le_of_ble_eq_true rfl) ⟨Nat.le_of_ble_eq_true rfl, Nat.le_of_ble_eq_true rfl⟩ gdX12_value_2 ?_
  refine g_if_eq E 24 gdX12_value_5 (by decide) h (fun h => ?_) (fun h => ?_)
  ·
    refine g_sub E [] rfl ?_
    exact j24  h
  ·
    refine g_iload_n E gdX12_value_8 rfl 2 rfl ?_
    obtain ⟨r3, hc4, h⟩ := qB_of h
    refine g_Si (r := r3) (As := [iv x2]) (rest := []) (w := wM g ad o) E (c_X12_isDay l g (wM g ad o) x2 r3 hc4) okm_X12_isDay w_1763 w_1762 rfl rfl (Nat.le_of_ble_eq_true rfl) ⟨Nat.le_of_ble_eq_true rfl, Nat.le_of_ble_eq_true rfl⟩ gdX12_value_9 ?_
    refine g_if_eq E 24 gdX12_value_12 (by decide) h (fun h => ?_) (fun h => ?_)
    ·
      refine g_sub E [] rfl ?_
      exact j24  h
    ·
      refine g_aload_n E gdX12_value_15 rfl 0 rfl ?_
      refine g_iload_n E gdX12_value_16 rfl 1 rfl ?_
      refine g_iload_n E gdX12_value_17 rfl 2 rfl ?_
      obtain ⟨r5, hc6, h⟩ := qB_of h
      refine g_Vi (r := r5) (As := [iv x1, iv x2]) (rest := []) (w := wM g ad o) E (c_X12_valueOf l g ad o x1 x2 r5 hc6) okm_X12_valueOf okw_X12_valueOf w_1815 rfl (wM_0 g ad o) rfl rfl (Nat.le_of_ble_eq_true rfl) ⟨Nat.le_of_ble_eq_true rfl, Nat.le_of_ble_eq_true rfl⟩ gdX12_value_18 ?_
      refine g_goto E 25 gdX12_value_21 (by decide) ?_
      refine g_sub E [] rfl ?_
      exact j25 r5 h
set_option maxHeartbeats 4000000 in
set_option maxRecDepth 100000 in
theorem c_X12_walk (l : Launch) (g : GG) (ad : Nat → Nat) (o : OO) (x1 : Int) (x2 : Int) (v : Int) (h : s_X12_walk o x1 x2 = some v) : CI l g yX12_walk cX12_walk 3 (some .int) 1 23 (wM g ad o) [.ref (ad 0), iv x1, iv x2] v (wM g ad o) := by
  refine met_I (by decide) (Nat.le_of_ble_eq_true rfl) ?_
  intro X E hQ
  show Go X 0 (wM g ad o) [(0, .ref (ad 0)), (1, iv x1), (2, iv x2)] []
  have j28 : ∀ (y0 : Int), b_X12_walk_28 o y0 = some v → Go X 28 (wM g ad o) [] [iv y0] := by
    intro y0 h
    unfold b_X12_walk_28 at h
    exact g_iret E hQ (Option.some.inj h) rfl gdX12_walk_28
  unfold s_X12_walk at h
  refine g_aload_n E gdX12_walk_0 rfl 0 rfl ?_
  refine g_get (T := TX12) E fw_X12 0 (wM_0 g ad o) rfl 29 (by decide) w_1495 rfl rfl gdX12_walk_1 ?_
  refine g_iload_n E gdX12_walk_4 rfl 1 rfl ?_
  obtain ⟨hi1, h⟩ := qIn_of h
  refine g_iald E 22 (wM_22 g ad o) (by decide) hi1 gdX12_walk_5 ?_
  obtain ⟨n2, e_n2, h⟩ := qNm_of h
  refine g_nmi e_n2 ?_
  refine g_if_ge E 13 gdX12_walk_6 (by decide) h (fun h => ?_) (fun h => ?_)
  ·
    refine g_aload_n E gdX12_walk_13 rfl 0 rfl ?_
    refine g_get (T := TX12) E fw_X12 0 (wM_0 g ad o) rfl 29 (by decide) w_1495 rfl rfl gdX12_walk_14 ?_
    refine g_iload_n E gdX12_walk_17 rfl 1 rfl ?_
    obtain ⟨hi3, h⟩ := qIn_of h
    refine g_iald E 22 (wM_22 g ad o) (by decide) hi3 gdX12_walk_18 ?_
    obtain ⟨n4, e_n4, h⟩ := qNm_of h
    refine g_nmi e_n4 ?_
    refine g_aload_n E gdX12_walk_19 rfl 0 rfl ?_
    refine g_get (T := TX12) E fw_X12 0 (wM_0 g ad o) rfl 18 (by decide) w_1484 rfl rfl gdX12_walk_20 ?_
    refine g_iload_n E gdX12_walk_23 rfl 2 rfl ?_
    obtain ⟨hi5, h⟩ := qIn_of h
    refine g_iald E 13 (wM_13 g ad o) (by decide) hi5 gdX12_walk_24 ?_
    obtain ⟨n6, e_n6, h⟩ := qNm_of h
    refine g_nmi e_n6 ?_
    obtain ⟨r7, hc8, h⟩ := qB_of h
    refine g_Si (r := r7) (As := [iv n4, iv n6]) (rest := []) (w := wM g ad o) E (c_X12_apart l g (wM g ad o) n4 n6 r7 hc8) okm_X12_apart w_1912 w_1911 rfl rfl (Nat.le_of_ble_eq_true rfl) ⟨Nat.le_of_ble_eq_true rfl, Nat.le_of_ble_eq_true rfl⟩ gdX12_walk_25 ?_
    refine g_sub E [] rfl ?_
    exact j28 r7 h
  ·
    refine g_iconst E gdX12_walk_9 ?_
    refine g_goto E 28 gdX12_walk_10 (by decide) ?_
    refine g_sub E [] rfl ?_
    exact j28 0 h
set_option maxHeartbeats 4000000 in
set_option maxRecDepth 100000 in
theorem c_X12_relax (l : Launch) (g : GG) (ad : Nat → Nat) (o : OO) (x1 : Int) (x2 : Int) (x3 : Int) (x4 : Int) (v : Int × OO) (h : s_X12_relax o x1 x2 x3 x4 = some v) : CI l g yX12_relax cX12_relax 5 (some .boolean) 0 0 (wM g ad o) [.ref (ad 0), iv x1, iv x2, iv x3, iv x4] v.1 (wM g ad v.2) := by
  refine met_I (by decide) (Nat.le_of_ble_eq_true rfl) ?_
  intro X E hQ
  show Go X 0 (wM g ad o) [(0, .ref (ad 0)), (1, iv x1), (2, iv x2), (3, iv x3), (4, iv x4)] []
  have j19 : ∀ (o : OO), b_X12_relax_19 o = some v → Go X 19 (wM g ad o) [] [] := by
    intro o h
    unfold b_X12_relax_19 at h
    refine g_iconst E gdX12_relax_19 ?_
    obtain ⟨hz, h⟩ := qZ_of h
    exact g_zret E hQ hz (by rw [← Option.some.inj h]) (by rw [← Option.some.inj h]) gdX12_relax_20
  unfold s_X12_relax at h
  refine g_aload_n E gdX12_relax_0 rfl 0 rfl ?_
  refine g_get (T := TX12) E fw_X12 0 (wM_0 g ad o) rfl 58 (by decide) w_1524 rfl rfl gdX12_relax_1 ?_
  refine g_iload_n E gdX12_relax_4 rfl 1 rfl ?_
  obtain ⟨hi1, h⟩ := qIn_of h
  refine g_iald E 48 (wM_48 g ad o) (by decide) hi1 gdX12_relax_5 ?_
  obtain ⟨n2, e_n2, h⟩ := qNm_of h
  refine g_nmi e_n2 ?_
  refine g_if_lt E 19 gdX12_relax_6 (by decide) h (fun h => ?_) (fun h => ?_)
  ·
    refine g_sub E [] rfl ?_
    exact j19 o h
  ·
    refine g_iload_n E gdX12_relax_9 rfl 2 rfl ?_
    refine g_aload_n E gdX12_relax_10 rfl 0 rfl ?_
    refine g_get (T := TX12) E fw_X12 0 (wM_0 g ad o) rfl 59 (by decide) w_1525 rfl rfl gdX12_relax_11 ?_
    refine g_iload_n E gdX12_relax_14 rfl 1 rfl ?_
    obtain ⟨hi3, h⟩ := qIn_of h
    refine g_iald E 49 (wM_49 g ad o) (by decide) hi3 gdX12_relax_15 ?_
    obtain ⟨n4, e_n4, h⟩ := qNm_of h
    refine g_nmi e_n4 ?_
    refine g_icmp_lt E 21 gdX12_relax_16 (by decide) h (fun h => ?_) (fun h => ?_)
    ·
      refine g_aload_n E gdX12_relax_21 rfl 0 rfl ?_
      refine g_get (T := TX12) E fw_X12 0 (wM_0 g ad o) rfl 59 (by decide) w_1525 rfl rfl gdX12_relax_22 ?_
      refine g_iload_n E gdX12_relax_25 rfl 1 rfl ?_
      refine g_iload_n E gdX12_relax_26 rfl 2 rfl ?_
      obtain ⟨hi5, h⟩ := qIn_of h
      obtain ⟨o6, e_o6, h⟩ := qNm_of h
      refine g_iast (ws' := wM g ad o6) E 49 (wM_49 g ad o) (by decide) hi5 (by rw [e_o6]; exact wM_s49 g ad o _ _) gdX12_relax_27 ?_
      refine g_aload_n E gdX12_relax_28 rfl 0 rfl ?_
      refine g_get (T := TX12) E fw_X12 0 (wM_0 g ad o6) rfl 60 (by decide) w_1526 rfl rfl gdX12_relax_29 ?_
      refine g_iload_n E gdX12_relax_32 rfl 1 rfl ?_
      refine g_iload_n E gdX12_relax_33 rfl 3 rfl ?_
      obtain ⟨hi7, h⟩ := qIn_of h
      obtain ⟨o8, e_o8, h⟩ := qNm_of h
      refine g_iast (ws' := wM g ad o8) E 50 (wM_50 g ad o6) (by decide) hi7 (by rw [e_o8]; exact wM_s50 g ad o6 _ _) gdX12_relax_34 ?_
      refine g_aload_n E gdX12_relax_35 rfl 0 rfl ?_
      refine g_get (T := TX12) E fw_X12 0 (wM_0 g ad o8) rfl 61 (by decide) w_1527 rfl rfl gdX12_relax_36 ?_
      refine g_iload_n E gdX12_relax_39 rfl 1 rfl ?_
      refine g_iload E gdX12_relax_40 4 rfl ?_
      obtain ⟨hi9, h⟩ := qIn_of h
      obtain ⟨o10, e_o10, h⟩ := qNm_of h
      refine g_iast (ws' := wM g ad o10) E 51 (wM_51 g ad o8) (by decide) hi9 (by rw [e_o10]; exact wM_s51 g ad o8 _ _) gdX12_relax_42 ?_
      refine g_iconst E gdX12_relax_43 ?_
      obtain ⟨hz, h⟩ := qZ_of h
      exact g_zret E hQ hz (by rw [← Option.some.inj h]) (by rw [← Option.some.inj h]) gdX12_relax_44
    ·
      refine g_sub E [] rfl ?_
      exact j19 o h
set_option maxHeartbeats 4000000 in
set_option maxRecDepth 100000 in
theorem c_X12_cheapest (l : Launch) (g : GG) (ad : Nat → Nat) (o : OO) (v : Int × OO) (h : s_X12_cheapest o = some v) : CI l g yX12_cheapest cX12_cheapest 5 (some .int) 2 45 (wM g ad o) [.ref (ad 0)] v.1 (wM g ad v.2) := by
  refine met_I (by decide) (Nat.le_of_ble_eq_true rfl) ?_
  intro X E hQ
  show Go X 0 (wM g ad o) [(0, .ref (ad 0))] []
  have j285 : ∀ (o : OO) (x2 : Int), b_X12_cheapest_285 o x2 = some v → Go X 285 (wM g ad o) [(2, iv x2)] [] := by
    intro o x2 h
    unfold b_X12_cheapest_285 at h
    refine g_iload_n E gdX12_cheapest_285 rfl 0 rfl ?_
    exact g_iret E hQ (by rw [← Option.some.inj h]) (by rw [← Option.some.inj h]) gdX12_cheapest_286
  have j278 : ∀ (o : OO) (x3 : Int) (y0 : Int) (v : (Int × Int) ⊕ ((Int))), b_X12_cheapest_278 o x3 y0 = some v → (∀ (x2 : Int) (x3 : Int), v = .inl (x2, x3) → Go X 225 (wM g ad o) [(0, .ref (ad 0)), (2, iv x2), (3, iv x3)] []) → (∀ (x2 : Int), v = .inr (x2) → Go X 285 (wM g ad o) [(2, iv x2)] []) → Go X 278 (wM g ad o) [(0, .ref (ad 0)), (3, iv x3)] [iv y0] := by
    intro o x3 y0 v h k0 k1
    unfold b_X12_cheapest_278 at h
    refine g_istore_n E [(2, iv y0), (0, .ref (ad 0)), (3, iv x3)] gdX12_cheapest_278 rfl (by decide) rfl ?_
    refine g_iinc E [(3, iv (x3 + 1)), (2, iv y0), (0, .ref (ad 0))] gdX12_cheapest_279 2 rfl (by decide) rfl ?_
    refine g_goto E 225 gdX12_cheapest_282 (by decide) ?_
    refine g_sub E [2, 1, 0] rfl ?_
    exact k0 y0 (x3 + 1) (Option.some.inj h).symm
  have j273 : ∀ (o : OO) (x3 : Int) (v : (Int × Int) ⊕ ((Int))), b_X12_cheapest_273 o x3 = some v → (∀ (x2 : Int) (x3 : Int), v = .inl (x2, x3) → Go X 225 (wM g ad o) [(0, .ref (ad 0)), (2, iv x2), (3, iv x3)] []) → (∀ (x2 : Int), v = .inr (x2) → Go X 285 (wM g ad o) [(2, iv x2)] []) → Go X 273 (wM g ad o) [(0, .ref (ad 0)), (3, iv x3)] [] := by
    intro o x3 v h k0 k1
    unfold b_X12_cheapest_273 at h
    refine g_iload_n E gdX12_cheapest_273 rfl 1 rfl ?_
    refine g_goto E 278 gdX12_cheapest_274 (by decide) ?_
    exact j278 o x3 x3 v h k0 k1
  have j277 : ∀ (o : OO) (x2 : Int) (x3 : Int) (v : (Int × Int) ⊕ ((Int))), b_X12_cheapest_277 o x2 x3 = some v → (∀ (x2 : Int) (x3 : Int), v = .inl (x2, x3) → Go X 225 (wM g ad o) [(0, .ref (ad 0)), (2, iv x2), (3, iv x3)] []) → (∀ (x2 : Int), v = .inr (x2) → Go X 285 (wM g ad o) [(2, iv x2)] []) → Go X 277 (wM g ad o) [(0, .ref (ad 0)), (2, iv x2), (3, iv x3)] [] := by
    intro o x2 x3 v h k0 k1
    unfold b_X12_cheapest_277 at h
    refine g_iload_n E gdX12_cheapest_277 rfl 1 rfl ?_
    refine g_sub E [0, 2] rfl ?_
    exact j278 o x3 x2 v h k0 k1
  have l225 : ∀ (o : OO) (r : (Int)) (s0 : Int × Int), loopW (fun s => l_X12_cheapest_225 o s.1 s.2) s0 = some r → (∀ (x2 : Int), r = (x2) → Go X 285 (wM g ad o) [(2, iv x2)] []) → Go X 225 (wM g ad o) [(0, .ref (ad 0)), (2, iv s0.1), (3, iv s0.2)] [] := by
    intro o r s0 h k1
    refine loop_rule (Head := fun s0 => Go X 225 (wM g ad o) [(0, .ref (ad 0)), (2, iv s0.1), (3, iv s0.2)] []) h ?_
    intro s v h kk kx
    obtain ⟨x2, x3⟩ := s
    have h : l_X12_cheapest_225 o x2 x3 = some v := h
    have k0 : ∀ (x2 : Int) (x3 : Int), v = .inl (x2, x3) → Go X 225 (wM g ad o) [(0, .ref (ad 0)), (2, iv x2), (3, iv x3)] [] := fun x2 x3 e => kk (x2, x3) e
    have k1 : ∀ (x2 : Int), v = .inr (x2) → Go X 285 (wM g ad o) [(2, iv x2)] [] := fun x2 e => k1 x2 (kx _ e).symm
    unfold l_X12_cheapest_225 at h
    refine g_iload_n E gdX12_cheapest_225 rfl 2 rfl ?_
    refine g_aload_n E gdX12_cheapest_226 rfl 0 rfl ?_
    refine g_get (T := TX12) E fw_X12 0 (wM_0 g ad o) rfl 17 (by decide) w_1483 rfl rfl gdX12_cheapest_227 ?_
    refine g_icmp_ge E 285 gdX12_cheapest_230 (by decide) h (fun h => ?_) (fun h => ?_)
    ·
      refine g_sub E [1] rfl ?_
      exact k1 x2 (Option.some.inj h).symm
    ·
      refine g_aload_n E gdX12_cheapest_233 rfl 0 rfl ?_
      refine g_get (T := TX12) E fw_X12 0 (wM_0 g ad o) rfl 58 (by decide) w_1524 rfl rfl gdX12_cheapest_234 ?_
      refine g_iload_n E gdX12_cheapest_237 rfl 2 rfl ?_
      obtain ⟨hi1, h⟩ := qIn_of h
      refine g_iald E 48 (wM_48 g ad o) (by decide) hi1 gdX12_cheapest_238 ?_
      obtain ⟨n2, e_n2, h⟩ := qNm_of h
      refine g_nmi e_n2 ?_
      refine g_if_le E 277 gdX12_cheapest_239 (by decide) h (fun h => ?_) (fun h => ?_)
      ·
        exact j277 o x2 x3 v h k0 k1
      ·
        refine g_aload_n E gdX12_cheapest_242 rfl 0 rfl ?_
        refine g_get (T := TX12) E fw_X12 0 (wM_0 g ad o) rfl 59 (by decide) w_1525 rfl rfl gdX12_cheapest_243 ?_
        refine g_iload_n E gdX12_cheapest_246 rfl 2 rfl ?_
        obtain ⟨hi3, h⟩ := qIn_of h
        refine g_iald E 49 (wM_49 g ad o) (by decide) hi3 gdX12_cheapest_247 ?_
        obtain ⟨n4, e_n4, h⟩ := qNm_of h
        refine g_nmi e_n4 ?_
        refine g_ldcw (k := 100000000) E gdX12_cheapest_248 w_1879 (by decide) ?_
        refine g_icmp_ge E 277 gdX12_cheapest_251 (by decide) h (fun h => ?_) (fun h => ?_)
        ·
          exact j277 o x2 x3 v h k0 k1
        ·
          refine g_iload_n E gdX12_cheapest_254 rfl 1 rfl ?_
          refine g_if_lt E 273 gdX12_cheapest_255 (by decide) h (fun h => ?_) (fun h => ?_)
          ·
            refine g_sub E [0, 2] rfl ?_
            exact j273 o x3 v h k0 k1
          ·
            refine g_aload_n E gdX12_cheapest_258 rfl 0 rfl ?_
            refine g_get (T := TX12) E fw_X12 0 (wM_0 g ad o) rfl 59 (by decide) w_1525 rfl rfl gdX12_cheapest_259 ?_
            refine g_iload_n E gdX12_cheapest_262 rfl 2 rfl ?_
            obtain ⟨hi5, h⟩ := qIn_of h
            refine g_iald E 49 (wM_49 g ad o) (by decide) hi5 gdX12_cheapest_263 ?_
            obtain ⟨n6, e_n6, h⟩ := qNm_of h
            refine g_nmi e_n6 ?_
            refine g_aload_n E gdX12_cheapest_264 rfl 0 rfl ?_
            refine g_get (T := TX12) E fw_X12 0 (wM_0 g ad o) rfl 59 (by decide) w_1525 rfl rfl gdX12_cheapest_265 ?_
            refine g_iload_n E gdX12_cheapest_268 rfl 1 rfl ?_
            obtain ⟨hi7, h⟩ := qIn_of h
            refine g_iald E 49 (wM_49 g ad o) (by decide) hi7 gdX12_cheapest_269 ?_
            obtain ⟨n8, e_n8, h⟩ := qNm_of h
            refine g_nmi e_n8 ?_
            refine g_icmp_ge E 277 gdX12_cheapest_270 (by decide) h (fun h => ?_) (fun h => ?_)
            ·
              exact j277 o x2 x3 v h k0 k1
            ·
              refine g_sub E [0, 2] rfl ?_
              exact j273 o x3 v h k0 k1
  have j225 : ∀ (o : OO) (x2 : Int) (x3 : Int), e_X12_cheapest_225 o x2 x3 = some v → Go X 225 (wM g ad o) [(0, .ref (ad 0)), (2, iv x2), (3, iv x3)] [] := by
    intro o x2 x3 h
    unfold e_X12_cheapest_225 at h
    obtain ⟨r, hr, h⟩ := qB_of h
    refine l225 o r _ hr ?_
    ·
      intro u0 e
      have e := e.symm
      subst e
      have h : b_X12_cheapest_285 o u0 = some v := h
      exact j285 o u0 h
  have j220 : ∀ (o : OO), b_X12_cheapest_220 o = some v → Go X 220 (wM g ad o) [(0, .ref (ad 0))] [] := by
    intro o h
    unfold b_X12_cheapest_220 at h
    refine g_bipush E gdX12_cheapest_220 (by decide) ?_
    refine g_istore_n E [(2, iv (-9)), (0, .ref (ad 0))] gdX12_cheapest_222 rfl (by decide) rfl ?_
    refine g_iconst E gdX12_cheapest_223 ?_
    refine g_istore_n E [(3, iv 0), (2, iv (-9)), (0, .ref (ad 0))] gdX12_cheapest_224 rfl (by decide) rfl ?_
    refine g_sub E [2, 1, 0] rfl ?_
    exact j225 o (-9) 0 h
  have j217 : ∀ (o : OO) (x1 : Int) (v : (OO × Int) ⊕ ((OO))), b_X12_cheapest_217 o x1 = some v → (∀ (o : OO) (x1 : Int), v = .inl (o, x1) → Go X 92 (wM g ad o) [(0, .ref (ad 0)), (1, iv x1)] []) → (∀ (o : OO), v = .inr (o) → Go X 220 (wM g ad o) [(0, .ref (ad 0))] []) → Go X 217 (wM g ad o) [(0, .ref (ad 0)), (1, iv x1)] [] := by
    intro o x1 v h k0 k1
    unfold b_X12_cheapest_217 at h
    refine g_goto E 92 gdX12_cheapest_217 (by decide) ?_
    exact k0 o x1 (Option.some.inj h).symm
  have j211 : ∀ (o : OO) (x1 : Int) (x2 : Int) (v : (OO × Int × Int) ⊕ ((OO × Int))), b_X12_cheapest_211 o x1 x2 = some v → (∀ (o : OO) (x1 : Int) (x2 : Int), v = .inl (o, x1, x2) → Go X 100 (wM g ad o) [(0, .ref (ad 0)), (1, iv x1), (2, iv x2)] []) → (∀ (o : OO) (x1 : Int), v = .inr ((o, x1)) → Go X 217 (wM g ad o) [(0, .ref (ad 0)), (1, iv x1)] []) → Go X 211 (wM g ad o) [(0, .ref (ad 0)), (1, iv x1), (2, iv x2)] [] := by
    intro o x1 x2 v h k0 k1
    unfold b_X12_cheapest_211 at h
    refine g_iinc E [(2, iv (x2 + 1)), (0, .ref (ad 0)), (1, iv x1)] gdX12_cheapest_211 2 rfl (by decide) rfl ?_
    refine g_goto E 100 gdX12_cheapest_214 (by decide) ?_
    refine g_sub E [1, 2, 0] rfl ?_
    exact k0 o x1 (x2 + 1) (Option.some.inj h).symm
  have j204 : ∀ (o : OO) (x2 : Int) (x3 : Int) (x4 : Int) (y0 : Int) (v : (OO × Int × Int) ⊕ ((OO × Int))), b_X12_cheapest_204 o x2 x3 x4 y0 = some v → (∀ (o : OO) (x1 : Int) (x4 : Int), v = .inl (o, x1, x4) → Go X 132 (wM g ad o) [(0, .ref (ad 0)), (1, iv x1), (2, iv x2), (3, iv x3), (4, iv x4)] []) → (∀ (o : OO) (x1 : Int), v = .inr ((o, x1)) → Go X 211 (wM g ad o) [(0, .ref (ad 0)), (1, iv x1), (2, iv x2)] []) → Go X 204 (wM g ad o) [(0, .ref (ad 0)), (2, iv x2), (3, iv x3), (4, iv x4)] [iv y0] := by
    intro o x2 x3 x4 y0 v h k0 k1
    unfold b_X12_cheapest_204 at h
    refine g_istore_n E [(1, iv y0), (0, .ref (ad 0)), (2, iv x2), (3, iv x3), (4, iv x4)] gdX12_cheapest_204 rfl (by decide) rfl ?_
    refine g_iinc E [(4, iv (x4 + 1)), (1, iv y0), (0, .ref (ad 0)), (2, iv x2), (3, iv x3)] gdX12_cheapest_205 4 rfl (by decide) rfl ?_
    refine g_goto E 132 gdX12_cheapest_208 (by decide) ?_
    refine g_sub E [2, 1, 3, 4, 0] rfl ?_
    exact k0 o y0 (x4 + 1) (Option.some.inj h).symm
  have j199 : ∀ (o : OO) (x2 : Int) (x3 : Int) (x4 : Int) (v : (OO × Int × Int) ⊕ ((OO × Int))), b_X12_cheapest_199 o x2 x3 x4 = some v → (∀ (o : OO) (x1 : Int) (x4 : Int), v = .inl (o, x1, x4) → Go X 132 (wM g ad o) [(0, .ref (ad 0)), (1, iv x1), (2, iv x2), (3, iv x3), (4, iv x4)] []) → (∀ (o : OO) (x1 : Int), v = .inr ((o, x1)) → Go X 211 (wM g ad o) [(0, .ref (ad 0)), (1, iv x1), (2, iv x2)] []) → Go X 199 (wM g ad o) [(0, .ref (ad 0)), (2, iv x2), (3, iv x3), (4, iv x4)] [] := by
    intro o x2 x3 x4 v h k0 k1
    unfold b_X12_cheapest_199 at h
    refine g_iconst E gdX12_cheapest_199 ?_
    refine g_goto E 204 gdX12_cheapest_200 (by decide) ?_
    exact j204 o x2 x3 x4 1 v h k0 k1
  have j195 : ∀ (o : OO) (x1 : Int) (x2 : Int) (x3 : Int) (x4 : Int) (v : (OO × Int × Int) ⊕ ((OO × Int))), b_X12_cheapest_195 o x1 x2 x3 x4 = some v → (∀ (o : OO) (x1 : Int) (x4 : Int), v = .inl (o, x1, x4) → Go X 132 (wM g ad o) [(0, .ref (ad 0)), (1, iv x1), (2, iv x2), (3, iv x3), (4, iv x4)] []) → (∀ (o : OO) (x1 : Int), v = .inr ((o, x1)) → Go X 211 (wM g ad o) [(0, .ref (ad 0)), (1, iv x1), (2, iv x2)] []) → Go X 195 (wM g ad o) [(0, .ref (ad 0)), (1, iv x1), (2, iv x2), (3, iv x3), (4, iv x4)] [] := by
    intro o x1 x2 x3 x4 v h k0 k1
    unfold b_X12_cheapest_195 at h
    refine g_iload_n E gdX12_cheapest_195 rfl 1 rfl ?_
    refine g_if_eq E 203 gdX12_cheapest_196 (by decide) h (fun h => ?_) (fun h => ?_)
    ·
      refine g_iconst E gdX12_cheapest_203 ?_
      refine g_sub E [0, 2, 3, 4] rfl ?_
      exact j204 o x2 x3 x4 0 v h k0 k1
    ·
      refine g_sub E [0, 2, 3, 4] rfl ?_
      exact j199 o x2 x3 x4 v h k0 k1
  have l132 : ∀ (x2 : Int) (x3 : Int) (r : (OO × Int)) (s0 : OO × Int × Int), loopW (fun s => l_X12_cheapest_132 x2 x3 s.1 s.2.1 s.2.2) s0 = some r → (∀ (o : OO) (x1 : Int), r = ((o, x1)) → Go X 211 (wM g ad o) [(0, .ref (ad 0)), (1, iv x1), (2, iv x2)] []) → Go X 132 (wM g ad s0.1) [(0, .ref (ad 0)), (1, iv s0.2.1), (2, iv x2), (3, iv x3), (4, iv s0.2.2)] [] := by
    intro x2 x3 r s0 h k1
    refine loop_rule (Head := fun s0 => Go X 132 (wM g ad s0.1) [(0, .ref (ad 0)), (1, iv s0.2.1), (2, iv x2), (3, iv x3), (4, iv s0.2.2)] []) h ?_
    intro s v h kk kx
    obtain ⟨o, x1, x4⟩ := s
    have h : l_X12_cheapest_132 x2 x3 o x1 x4 = some v := h
    have k0 : ∀ (o : OO) (x1 : Int) (x4 : Int), v = .inl (o, x1, x4) → Go X 132 (wM g ad o) [(0, .ref (ad 0)), (1, iv x1), (2, iv x2), (3, iv x3), (4, iv x4)] [] := fun o x1 x4 e => kk (o, x1, x4) e
    have k1 : ∀ (o : OO) (x1 : Int), v = .inr ((o, x1)) → Go X 211 (wM g ad o) [(0, .ref (ad 0)), (1, iv x1), (2, iv x2)] [] := fun o x1 e => k1 o x1 (kx _ e).symm
    unfold l_X12_cheapest_132 at h
    refine g_iload E gdX12_cheapest_132 4 rfl ?_
    refine g_aload_n E gdX12_cheapest_134 rfl 0 rfl ?_
    refine g_get (T := TX12) E fw_X12 0 (wM_0 g ad o) rfl 17 (by decide) w_1483 rfl rfl gdX12_cheapest_135 ?_
    refine g_icmp_ge E 211 gdX12_cheapest_138 (by decide) h (fun h => ?_) (fun h => ?_)
    ·
      refine g_sub E [0, 1, 2] rfl ?_
      exact k1 o x1 (Option.some.inj h).symm
    ·
      refine g_iload_n E gdX12_cheapest_141 rfl 3 rfl ?_
      refine g_if_lt E 211 gdX12_cheapest_142 (by decide) h (fun h => ?_) (fun h => ?_)
      ·
        refine g_sub E [0, 1, 2] rfl ?_
        exact k1 o x1 (Option.some.inj h).symm
      ·
        refine g_aload_n E gdX12_cheapest_145 rfl 0 rfl ?_
        refine g_get (T := TX12) E fw_X12 0 (wM_0 g ad o) rfl 59 (by decide) w_1525 rfl rfl gdX12_cheapest_146 ?_
        refine g_iload_n E gdX12_cheapest_149 rfl 3 rfl ?_
        obtain ⟨hi9, h⟩ := qIn_of h
        refine g_iald E 49 (wM_49 g ad o) (by decide) hi9 gdX12_cheapest_150 ?_
        obtain ⟨n10, e_n10, h⟩ := qNm_of h
        refine g_nmi e_n10 ?_
        refine g_ldcw (k := 100000000) E gdX12_cheapest_151 w_1879 (by decide) ?_
        refine g_icmp_ge E 211 gdX12_cheapest_154 (by decide) h (fun h => ?_) (fun h => ?_)
        ·
          refine g_sub E [0, 1, 2] rfl ?_
          exact k1 o x1 (Option.some.inj h).symm
        ·
          refine g_iload E gdX12_cheapest_157 4 rfl ?_
          refine g_iload_n E gdX12_cheapest_159 rfl 3 rfl ?_
          refine g_icmp_eq E 195 gdX12_cheapest_160 (by decide) h (fun h => ?_) (fun h => ?_)
          ·
            exact j195 o x1 x2 x3 x4 v h k0 k1
          ·
            refine g_aload_n E gdX12_cheapest_163 rfl 0 rfl ?_
            refine g_iload E gdX12_cheapest_164 4 rfl ?_
            refine g_aload_n E gdX12_cheapest_166 rfl 0 rfl ?_
            refine g_get (T := TX12) E fw_X12 0 (wM_0 g ad o) rfl 59 (by decide) w_1525 rfl rfl gdX12_cheapest_167 ?_
            refine g_iload_n E gdX12_cheapest_170 rfl 3 rfl ?_
            obtain ⟨hi11, h⟩ := qIn_of h
            refine g_iald E 49 (wM_49 g ad o) (by decide) hi11 gdX12_cheapest_171 ?_
            obtain ⟨n12, e_n12, h⟩ := qNm_of h
            refine g_nmi e_n12 ?_
            refine g_aload_n E gdX12_cheapest_172 rfl 0 rfl ?_
            refine g_iload_n E gdX12_cheapest_173 rfl 2 rfl ?_
            refine g_iload_n E gdX12_cheapest_174 rfl 3 rfl ?_
            obtain ⟨r13, hc14, h⟩ := qB_of h
            refine g_Vi (r := r13) (As := [iv x2, iv x3]) (rest := [iv n12, iv x4, .ref (ad 0)]) (w := wM g ad o) E (c_X12_walk l g ad o x2 x3 r13 hc14) okm_X12_walk okw_X12_walk w_2013 rfl (wM_0 g ad o) rfl rfl (Nat.le_of_ble_eq_true rfl) ⟨Nat.le_of_ble_eq_true rfl, Nat.le_of_ble_eq_true rfl⟩ gdX12_cheapest_175 ?_
            refine g_isub E gdX12_cheapest_178 ?_
            refine g_aload_n E gdX12_cheapest_179 rfl 0 rfl ?_
            refine g_iload_n E gdX12_cheapest_180 rfl 2 rfl ?_
            refine g_iload E gdX12_cheapest_181 4 rfl ?_
            obtain ⟨r15, hc16, h⟩ := qB_of h
            refine g_Vi (r := r15) (As := [iv x2, iv x4]) (rest := [iv (n12 - r13), iv x4, .ref (ad 0)]) (w := wM g ad o) E (c_X12_walk l g ad o x2 x4 r15 hc16) okm_X12_walk okw_X12_walk w_2013 rfl (wM_0 g ad o) rfl rfl (Nat.le_of_ble_eq_true rfl) ⟨Nat.le_of_ble_eq_true rfl, Nat.le_of_ble_eq_true rfl⟩ gdX12_cheapest_183 ?_
            refine g_iadd E gdX12_cheapest_186 ?_
            refine g_iload_n E gdX12_cheapest_187 rfl 2 rfl ?_
            refine g_iload_n E gdX12_cheapest_188 rfl 3 rfl ?_
            obtain ⟨r17, o19, hc18, h⟩ := qB2_of h
            refine g_Vi (r := r17) (As := [iv x4, iv ((n12 - r13) + r15), iv x2, iv x3]) (rest := []) (w := wM g ad o19) E (c_X12_relax l g ad o x4 ((n12 - r13) + r15) x2 x3 (r17, o19) hc18) okm_X12_relax okw_X12_relax w_2017 rfl (wM_0 g ad o) rfl rfl (Nat.le_of_ble_eq_true rfl) ⟨Nat.le_of_ble_eq_true rfl, Nat.le_of_ble_eq_true rfl⟩ gdX12_cheapest_189 ?_
            refine g_if_ne E 199 gdX12_cheapest_192 (by decide) h (fun h => ?_) (fun h => ?_)
            ·
              refine g_sub E [0, 2, 3, 4] rfl ?_
              exact j199 o19 x2 x3 x4 v h k0 k1
            ·
              exact j195 o19 x1 x2 x3 x4 v h k0 k1
  have j132 : ∀ (o : OO) (x1 : Int) (x2 : Int) (x3 : Int) (x4 : Int) (v : (OO × Int × Int) ⊕ ((OO × Int))), e_X12_cheapest_132 o x1 x2 x3 x4 = some v → (∀ (o : OO) (x1 : Int) (x2 : Int), v = .inl (o, x1, x2) → Go X 100 (wM g ad o) [(0, .ref (ad 0)), (1, iv x1), (2, iv x2)] []) → (∀ (o : OO) (x1 : Int), v = .inr ((o, x1)) → Go X 217 (wM g ad o) [(0, .ref (ad 0)), (1, iv x1)] []) → Go X 132 (wM g ad o) [(0, .ref (ad 0)), (1, iv x1), (2, iv x2), (3, iv x3), (4, iv x4)] [] := by
    intro o x1 x2 x3 x4 v h k0 k1
    unfold e_X12_cheapest_132 at h
    obtain ⟨r, hr, h⟩ := qB_of h
    refine l132 x2 x3 r _ hr ?_
    ·
      intro u0 u1 e
      subst e
      have h : b_X12_cheapest_211 u0 u1 x2 = some v := h
      exact j211 u0 u1 x2 v h k0 k1
  have j128 : ∀ (o : OO) (x1 : Int) (x2 : Int) (y0 : Int) (v : (OO × Int × Int) ⊕ ((OO × Int))), b_X12_cheapest_128 o x1 x2 y0 = some v → (∀ (o : OO) (x1 : Int) (x2 : Int), v = .inl (o, x1, x2) → Go X 100 (wM g ad o) [(0, .ref (ad 0)), (1, iv x1), (2, iv x2)] []) → (∀ (o : OO) (x1 : Int), v = .inr ((o, x1)) → Go X 217 (wM g ad o) [(0, .ref (ad 0)), (1, iv x1)] []) → Go X 128 (wM g ad o) [(0, .ref (ad 0)), (1, iv x1), (2, iv x2)] [iv y0] := by
    intro o x1 x2 y0 v h k0 k1
    unfold b_X12_cheapest_128 at h
    refine g_istore_n E [(3, iv y0), (0, .ref (ad 0)), (1, iv x1), (2, iv x2)] gdX12_cheapest_128 rfl (by decide) rfl ?_
    refine g_iconst E gdX12_cheapest_129 ?_
    refine g_istore E [(4, iv 0), (3, iv y0), (0, .ref (ad 0)), (1, iv x1), (2, iv x2)] gdX12_cheapest_130 (by decide) rfl ?_
    refine g_sub E [2, 3, 4, 1, 0] rfl ?_
    exact j132 o x1 x2 y0 0 v h k0 k1
  have l100 : ∀  (r : (OO × Int)) (s0 : OO × Int × Int), loopW (fun s => l_X12_cheapest_100 s.1 s.2.1 s.2.2) s0 = some r → (∀ (o : OO) (x1 : Int), r = ((o, x1)) → Go X 217 (wM g ad o) [(0, .ref (ad 0)), (1, iv x1)] []) → Go X 100 (wM g ad s0.1) [(0, .ref (ad 0)), (1, iv s0.2.1), (2, iv s0.2.2)] [] := by
    intro r s0 h k1
    refine loop_rule (Head := fun s0 => Go X 100 (wM g ad s0.1) [(0, .ref (ad 0)), (1, iv s0.2.1), (2, iv s0.2.2)] []) h ?_
    intro s v h kk kx
    obtain ⟨o, x1, x2⟩ := s
    have h : l_X12_cheapest_100 o x1 x2 = some v := h
    have k0 : ∀ (o : OO) (x1 : Int) (x2 : Int), v = .inl (o, x1, x2) → Go X 100 (wM g ad o) [(0, .ref (ad 0)), (1, iv x1), (2, iv x2)] [] := fun o x1 x2 e => kk (o, x1, x2) e
    have k1 : ∀ (o : OO) (x1 : Int), v = .inr ((o, x1)) → Go X 217 (wM g ad o) [(0, .ref (ad 0)), (1, iv x1)] [] := fun o x1 e => k1 o x1 (kx _ e).symm
    unfold l_X12_cheapest_100 at h
    refine g_iload_n E gdX12_cheapest_100 rfl 2 rfl ?_
    refine g_aload_n E gdX12_cheapest_101 rfl 0 rfl ?_
    refine g_get (T := TX12) E fw_X12 0 (wM_0 g ad o) rfl 27 (by decide) w_1493 rfl rfl gdX12_cheapest_102 ?_
    refine g_icmp_ge E 217 gdX12_cheapest_105 (by decide) h (fun h => ?_) (fun h => ?_)
    ·
      refine g_sub E [0, 1] rfl ?_
      exact k1 o x1 (Option.some.inj h).symm
    ·
      refine g_aload_n E gdX12_cheapest_108 rfl 0 rfl ?_
      refine g_get (T := TX12) E fw_X12 0 (wM_0 g ad o) rfl 57 (by decide) w_1523 rfl rfl gdX12_cheapest_109 ?_
      refine g_iload_n E gdX12_cheapest_112 rfl 2 rfl ?_
      obtain ⟨hi20, h⟩ := qIn_of h
      refine g_zald E 47 (wM_47 g ad o) (by decide) hi20 gdX12_cheapest_113 ?_
      obtain ⟨n21, e_n21, h⟩ := qNm_of h
      refine g_nmi e_n21 ?_
      refine g_if_eq E 126 gdX12_cheapest_114 (by decide) h (fun h => ?_) (fun h => ?_)
      ·
        refine g_bipush E gdX12_cheapest_126 (by decide) ?_
        exact j128 o x1 x2 (-9) v h k0 k1
      ·
        refine g_aload_n E gdX12_cheapest_117 rfl 0 rfl ?_
        refine g_get (T := TX12) E fw_X12 0 (wM_0 g ad o) rfl 56 (by decide) w_1522 rfl rfl gdX12_cheapest_118 ?_
        refine g_iload_n E gdX12_cheapest_121 rfl 2 rfl ?_
        obtain ⟨hi22, h⟩ := qIn_of h
        refine g_iald E 46 (wM_46 g ad o) (by decide) hi22 gdX12_cheapest_122 ?_
        obtain ⟨n23, e_n23, h⟩ := qNm_of h
        refine g_nmi e_n23 ?_
        refine g_goto E 128 gdX12_cheapest_123 (by decide) ?_
        exact j128 o x1 x2 n23 v h k0 k1
  have j100 : ∀ (o : OO) (x1 : Int) (x2 : Int) (v : (OO × Int) ⊕ ((OO))), e_X12_cheapest_100 o x1 x2 = some v → (∀ (o : OO) (x1 : Int), v = .inl (o, x1) → Go X 92 (wM g ad o) [(0, .ref (ad 0)), (1, iv x1)] []) → (∀ (o : OO), v = .inr (o) → Go X 220 (wM g ad o) [(0, .ref (ad 0))] []) → Go X 100 (wM g ad o) [(0, .ref (ad 0)), (1, iv x1), (2, iv x2)] [] := by
    intro o x1 x2 v h k0 k1
    unfold e_X12_cheapest_100 at h
    obtain ⟨r, hr, h⟩ := qB_of h
    refine l100  r _ hr ?_
    ·
      intro u0 u1 e
      subst e
      have h : b_X12_cheapest_217 u0 u1 = some v := h
      exact j217 u0 u1 v h k0 k1
  have l92 : ∀  (r : (OO)) (s0 : OO × Int), loopW (fun s => l_X12_cheapest_92 s.1 s.2) s0 = some r → (∀ (o : OO), r = (o) → Go X 220 (wM g ad o) [(0, .ref (ad 0))] []) → Go X 92 (wM g ad s0.1) [(0, .ref (ad 0)), (1, iv s0.2)] [] := by
    intro r s0 h k1
    refine loop_rule (Head := fun s0 => Go X 92 (wM g ad s0.1) [(0, .ref (ad 0)), (1, iv s0.2)] []) h ?_
    intro s v h kk kx
    obtain ⟨o, x1⟩ := s
    have h : l_X12_cheapest_92 o x1 = some v := h
    have k0 : ∀ (o : OO) (x1 : Int), v = .inl (o, x1) → Go X 92 (wM g ad o) [(0, .ref (ad 0)), (1, iv x1)] [] := fun o x1 e => kk (o, x1) e
    have k1 : ∀ (o : OO), v = .inr (o) → Go X 220 (wM g ad o) [(0, .ref (ad 0))] [] := fun o e => k1 o (kx _ e).symm
    unfold l_X12_cheapest_92 at h
    refine g_iload_n E gdX12_cheapest_92 rfl 1 rfl ?_
    refine g_if_eq E 220 gdX12_cheapest_93 (by decide) h (fun h => ?_) (fun h => ?_)
    ·
      refine g_sub E [0] rfl ?_
      exact k1 o (Option.some.inj h).symm
    ·
      refine g_iconst E gdX12_cheapest_96 ?_
      refine g_istore_n E [(1, iv 0), (0, .ref (ad 0))] gdX12_cheapest_97 rfl (by decide) rfl ?_
      refine g_iconst E gdX12_cheapest_98 ?_
      refine g_istore_n E [(2, iv 0), (1, iv 0), (0, .ref (ad 0))] gdX12_cheapest_99 rfl (by decide) rfl ?_
      refine g_sub E [2, 1, 0] rfl ?_
      exact j100 o 0 0 v h k0 k1
  have j92 : ∀ (o : OO) (x1 : Int), e_X12_cheapest_92 o x1 = some v → Go X 92 (wM g ad o) [(0, .ref (ad 0)), (1, iv x1)] [] := by
    intro o x1 h
    unfold e_X12_cheapest_92 at h
    obtain ⟨r, hr, h⟩ := qB_of h
    refine l92  r _ hr ?_
    ·
      intro u0 e
      have e := e.symm
      subst e
      have h : b_X12_cheapest_220 u0 = some v := h
      exact j220 u0 h
  have j90 : ∀ (o : OO), b_X12_cheapest_90 o = some v → Go X 90 (wM g ad o) [(0, .ref (ad 0))] [] := by
    intro o h
    unfold b_X12_cheapest_90 at h
    refine g_iconst E gdX12_cheapest_90 ?_
    refine g_istore_n E [(1, iv 1), (0, .ref (ad 0))] gdX12_cheapest_91 rfl (by decide) rfl ?_
    refine g_sub E [1, 0] rfl ?_
    exact j92 o 1 h
  have j84 : ∀ (o : OO) (x1 : Int) (v : (OO × Int) ⊕ ((OO))), b_X12_cheapest_84 o x1 = some v → (∀ (o : OO) (x1 : Int), v = .inl (o, x1) → Go X 27 (wM g ad o) [(0, .ref (ad 0)), (1, iv x1)] []) → (∀ (o : OO), v = .inr (o) → Go X 90 (wM g ad o) [(0, .ref (ad 0))] []) → Go X 84 (wM g ad o) [(0, .ref (ad 0)), (1, iv x1)] [] := by
    intro o x1 v h k0 k1
    unfold b_X12_cheapest_84 at h
    refine g_iinc E [(1, iv (x1 + 1)), (0, .ref (ad 0))] gdX12_cheapest_84 1 rfl (by decide) rfl ?_
    refine g_goto E 27 gdX12_cheapest_87 (by decide) ?_
    refine g_sub E [1, 0] rfl ?_
    exact k0 o (x1 + 1) (Option.some.inj h).symm
  have l37 : ∀ (x1 : Int) (r : (OO)) (s0 : OO × Int), loopW (fun s => l_X12_cheapest_37 x1 s.1 s.2) s0 = some r → (∀ (o : OO), r = (o) → Go X 84 (wM g ad o) [(0, .ref (ad 0)), (1, iv x1)] []) → Go X 37 (wM g ad s0.1) [(0, .ref (ad 0)), (1, iv x1), (2, iv s0.2)] [] := by
    intro x1 r s0 h k1
    refine loop_rule (Head := fun s0 => Go X 37 (wM g ad s0.1) [(0, .ref (ad 0)), (1, iv x1), (2, iv s0.2)] []) h ?_
    intro s v h kk kx
    obtain ⟨o, x2⟩ := s
    have h : l_X12_cheapest_37 x1 o x2 = some v := h
    have k0 : ∀ (o : OO) (x2 : Int), v = .inl (o, x2) → Go X 37 (wM g ad o) [(0, .ref (ad 0)), (1, iv x1), (2, iv x2)] [] := fun o x2 e => kk (o, x2) e
    have k1 : ∀ (o : OO), v = .inr (o) → Go X 84 (wM g ad o) [(0, .ref (ad 0)), (1, iv x1)] [] := fun o e => k1 o (kx _ e).symm
    unfold l_X12_cheapest_37 at h
    refine g_iload_n E gdX12_cheapest_37 rfl 2 rfl ?_
    refine g_aload_n E gdX12_cheapest_38 rfl 0 rfl ?_
    refine g_get (T := TX12) E fw_X12 0 (wM_0 g ad o) rfl 17 (by decide) w_1483 rfl rfl gdX12_cheapest_39 ?_
    refine g_icmp_ge E 84 gdX12_cheapest_42 (by decide) h (fun h => ?_) (fun h => ?_)
    ·
      refine g_sub E [0, 1] rfl ?_
      exact k1 o (Option.some.inj h).symm
    ·
      refine g_aload_n E gdX12_cheapest_45 rfl 0 rfl ?_
      refine g_get (T := TX12) E fw_X12 0 (wM_0 g ad o) rfl 57 (by decide) w_1523 rfl rfl gdX12_cheapest_46 ?_
      refine g_iload_n E gdX12_cheapest_49 rfl 1 rfl ?_
      obtain ⟨hi24, h⟩ := qIn_of h
      refine g_zald E 47 (wM_47 g ad o) (by decide) hi24 gdX12_cheapest_50 ?_
      obtain ⟨n25, e_n25, h⟩ := qNm_of h
      refine g_nmi e_n25 ?_
      refine g_if_eq E 84 gdX12_cheapest_51 (by decide) h (fun h => ?_) (fun h => ?_)
      ·
        refine g_sub E [0, 1] rfl ?_
        exact k1 o (Option.some.inj h).symm
      ·
        refine g_aload_n E gdX12_cheapest_54 rfl 0 rfl ?_
        refine g_get (T := TX12) E fw_X12 0 (wM_0 g ad o) rfl 56 (by decide) w_1522 rfl rfl gdX12_cheapest_55 ?_
        refine g_iload_n E gdX12_cheapest_58 rfl 1 rfl ?_
        obtain ⟨hi26, h⟩ := qIn_of h
        refine g_iald E 46 (wM_46 g ad o) (by decide) hi26 gdX12_cheapest_59 ?_
        obtain ⟨n27, e_n27, h⟩ := qNm_of h
        refine g_nmi e_n27 ?_
        refine g_if_ge E 84 gdX12_cheapest_60 (by decide) h (fun h => ?_) (fun h => ?_)
        ·
          refine g_sub E [0, 1] rfl ?_
          exact k1 o (Option.some.inj h).symm
        ·
          refine g_aload_n E gdX12_cheapest_63 rfl 0 rfl ?_
          refine g_iload_n E gdX12_cheapest_64 rfl 2 rfl ?_
          refine g_aload_n E gdX12_cheapest_65 rfl 0 rfl ?_
          refine g_iload_n E gdX12_cheapest_66 rfl 1 rfl ?_
          refine g_iload_n E gdX12_cheapest_67 rfl 2 rfl ?_
          obtain ⟨r28, hc29, h⟩ := qB_of h
          refine g_Vi (r := r28) (As := [iv x1, iv x2]) (rest := [iv x2, .ref (ad 0)]) (w := wM g ad o) E (c_X12_walk l g ad o x1 x2 r28 hc29) okm_X12_walk okw_X12_walk w_2013 rfl (wM_0 g ad o) rfl rfl (Nat.le_of_ble_eq_true rfl) ⟨Nat.le_of_ble_eq_true rfl, Nat.le_of_ble_eq_true rfl⟩ gdX12_cheapest_68 ?_
          refine g_iload_n E gdX12_cheapest_71 rfl 1 rfl ?_
          refine g_bipush E gdX12_cheapest_72 (by decide) ?_
          obtain ⟨r30, o32, hc31, h⟩ := qB2_of h
          refine g_Vi (r := r30) (As := [iv x2, iv r28, iv x1, iv (-9)]) (rest := []) (w := wM g ad o32) E (c_X12_relax l g ad o x2 r28 x1 (-9) (r30, o32) hc31) okm_X12_relax okw_X12_relax w_2017 rfl (wM_0 g ad o) rfl rfl (Nat.le_of_ble_eq_true rfl) ⟨Nat.le_of_ble_eq_true rfl, Nat.le_of_ble_eq_true rfl⟩ gdX12_cheapest_74 ?_
          refine g_pop E gdX12_cheapest_77 rfl ?_
          refine g_iinc E [(2, iv (x2 + 1)), (0, .ref (ad 0)), (1, iv x1)] gdX12_cheapest_78 2 rfl (by decide) rfl ?_
          refine g_goto E 37 gdX12_cheapest_81 (by decide) ?_
          refine g_sub E [1, 2, 0] rfl ?_
          exact k0 o32 (x2 + 1) (Option.some.inj h).symm
  have j37 : ∀ (o : OO) (x1 : Int) (x2 : Int) (v : (OO × Int) ⊕ ((OO))), e_X12_cheapest_37 o x1 x2 = some v → (∀ (o : OO) (x1 : Int), v = .inl (o, x1) → Go X 27 (wM g ad o) [(0, .ref (ad 0)), (1, iv x1)] []) → (∀ (o : OO), v = .inr (o) → Go X 90 (wM g ad o) [(0, .ref (ad 0))] []) → Go X 37 (wM g ad o) [(0, .ref (ad 0)), (1, iv x1), (2, iv x2)] [] := by
    intro o x1 x2 v h k0 k1
    unfold e_X12_cheapest_37 at h
    obtain ⟨r, hr, h⟩ := qB_of h
    refine l37 x1 r _ hr ?_
    ·
      intro u0 e
      have e := e.symm
      subst e
      have h : b_X12_cheapest_84 u0 x1 = some v := h
      exact j84 u0 x1 v h k0 k1
  have l27 : ∀  (r : (OO)) (s0 : OO × Int), loopW (fun s => l_X12_cheapest_27 s.1 s.2) s0 = some r → (∀ (o : OO), r = (o) → Go X 90 (wM g ad o) [(0, .ref (ad 0))] []) → Go X 27 (wM g ad s0.1) [(0, .ref (ad 0)), (1, iv s0.2)] [] := by
    intro r s0 h k1
    refine loop_rule (Head := fun s0 => Go X 27 (wM g ad s0.1) [(0, .ref (ad 0)), (1, iv s0.2)] []) h ?_
    intro s v h kk kx
    obtain ⟨o, x1⟩ := s
    have h : l_X12_cheapest_27 o x1 = some v := h
    have k0 : ∀ (o : OO) (x1 : Int), v = .inl (o, x1) → Go X 27 (wM g ad o) [(0, .ref (ad 0)), (1, iv x1)] [] := fun o x1 e => kk (o, x1) e
    have k1 : ∀ (o : OO), v = .inr (o) → Go X 90 (wM g ad o) [(0, .ref (ad 0))] [] := fun o e => k1 o (kx _ e).symm
    unfold l_X12_cheapest_27 at h
    refine g_iload_n E gdX12_cheapest_27 rfl 1 rfl ?_
    refine g_aload_n E gdX12_cheapest_28 rfl 0 rfl ?_
    refine g_get (T := TX12) E fw_X12 0 (wM_0 g ad o) rfl 27 (by decide) w_1493 rfl rfl gdX12_cheapest_29 ?_
    refine g_icmp_ge E 90 gdX12_cheapest_32 (by decide) h (fun h => ?_) (fun h => ?_)
    ·
      refine g_sub E [0] rfl ?_
      exact k1 o (Option.some.inj h).symm
    ·
      refine g_iconst E gdX12_cheapest_35 ?_
      refine g_istore_n E [(2, iv 0), (0, .ref (ad 0)), (1, iv x1)] gdX12_cheapest_36 rfl (by decide) rfl ?_
      refine g_sub E [1, 2, 0] rfl ?_
      exact j37 o x1 0 v h k0 k1
  have j27 : ∀ (o : OO) (x1 : Int), e_X12_cheapest_27 o x1 = some v → Go X 27 (wM g ad o) [(0, .ref (ad 0)), (1, iv x1)] [] := by
    intro o x1 h
    unfold e_X12_cheapest_27 at h
    obtain ⟨r, hr, h⟩ := qB_of h
    refine l27  r _ hr ?_
    ·
      intro u0 e
      have e := e.symm
      subst e
      have h : b_X12_cheapest_90 u0 = some v := h
      exact j90 u0 h
  have j25 : ∀ (o : OO), b_X12_cheapest_25 o = some v → Go X 25 (wM g ad o) [(0, .ref (ad 0))] [] := by
    intro o h
    unfold b_X12_cheapest_25 at h
    refine g_iconst E gdX12_cheapest_25 ?_
    refine g_istore_n E [(1, iv 0), (0, .ref (ad 0))] gdX12_cheapest_26 rfl (by decide) rfl ?_
    refine g_sub E [1, 0] rfl ?_
    exact j27 o 0 h
  have l2 : ∀  (r : (OO)) (s0 : OO × Int), loopW (fun s => l_X12_cheapest_2 s.1 s.2) s0 = some r → (∀ (o : OO), r = (o) → Go X 25 (wM g ad o) [(0, .ref (ad 0))] []) → Go X 2 (wM g ad s0.1) [(0, .ref (ad 0)), (1, iv s0.2)] [] := by
    intro r s0 h k1
    refine loop_rule (Head := fun s0 => Go X 2 (wM g ad s0.1) [(0, .ref (ad 0)), (1, iv s0.2)] []) h ?_
    intro s v h kk kx
    obtain ⟨o, x1⟩ := s
    have h : l_X12_cheapest_2 o x1 = some v := h
    have k0 : ∀ (o : OO) (x1 : Int), v = .inl (o, x1) → Go X 2 (wM g ad o) [(0, .ref (ad 0)), (1, iv x1)] [] := fun o x1 e => kk (o, x1) e
    have k1 : ∀ (o : OO), v = .inr (o) → Go X 25 (wM g ad o) [(0, .ref (ad 0))] [] := fun o e => k1 o (kx _ e).symm
    unfold l_X12_cheapest_2 at h
    refine g_iload_n E gdX12_cheapest_2 rfl 1 rfl ?_
    refine g_aload_n E gdX12_cheapest_3 rfl 0 rfl ?_
    refine g_get (T := TX12) E fw_X12 0 (wM_0 g ad o) rfl 17 (by decide) w_1483 rfl rfl gdX12_cheapest_4 ?_
    refine g_icmp_ge E 25 gdX12_cheapest_7 (by decide) h (fun h => ?_) (fun h => ?_)
    ·
      refine g_sub E [0] rfl ?_
      exact k1 o (Option.some.inj h).symm
    ·
      refine g_aload_n E gdX12_cheapest_10 rfl 0 rfl ?_
      refine g_get (T := TX12) E fw_X12 0 (wM_0 g ad o) rfl 59 (by decide) w_1525 rfl rfl gdX12_cheapest_11 ?_
      refine g_iload_n E gdX12_cheapest_14 rfl 1 rfl ?_
      refine g_ldcw (k := 100000000) E gdX12_cheapest_15 w_1879 (by decide) ?_
      obtain ⟨hi33, h⟩ := qIn_of h
      obtain ⟨o34, e_o34, h⟩ := qNm_of h
      refine g_iast (ws' := wM g ad o34) E 49 (wM_49 g ad o) (by decide) hi33 (by rw [e_o34]; exact wM_s49 g ad o _ _) gdX12_cheapest_18 ?_
      refine g_iinc E [(1, iv (x1 + 1)), (0, .ref (ad 0))] gdX12_cheapest_19 1 rfl (by decide) rfl ?_
      refine g_goto E 2 gdX12_cheapest_22 (by decide) ?_
      refine g_sub E [1, 0] rfl ?_
      exact k0 o34 (x1 + 1) (Option.some.inj h).symm
  have j2 : ∀ (o : OO) (x1 : Int), e_X12_cheapest_2 o x1 = some v → Go X 2 (wM g ad o) [(0, .ref (ad 0)), (1, iv x1)] [] := by
    intro o x1 h
    unfold e_X12_cheapest_2 at h
    obtain ⟨r, hr, h⟩ := qB_of h
    refine l2  r _ hr ?_
    ·
      intro u0 e
      have e := e.symm
      subst e
      have h : b_X12_cheapest_25 u0 = some v := h
      exact j25 u0 h
  unfold s_X12_cheapest at h
  refine g_iconst E gdX12_cheapest_0 ?_
  refine g_istore_n E [(1, iv 0), (0, .ref (ad 0))] gdX12_cheapest_1 rfl (by decide) rfl ?_
  refine g_sub E [1, 0] rfl ?_
  exact j2 o 0 h
set_option maxHeartbeats 4000000 in
set_option maxRecDepth 100000 in
theorem c_X12_whither (l : Launch) (g : GG) (ad : Nat → Nat) (o : OO) (x1 : Int) (v : Int × OO) (h : s_X12_whither o x1 = some v) : CI l g yX12_whither cX12_whither 10 (some .int) 3 69 (wM g ad o) [.ref (ad 0), iv x1] v.1 (wM g ad v.2) := by
  refine met_I (by decide) (Nat.le_of_ble_eq_true rfl) ?_
  intro X E hQ
  show Go X 0 (wM g ad o) [(0, .ref (ad 0)), (1, iv x1)] []
  have j267 : ∀ (o : OO) (x5 : Int) (x6 : Int), b_X12_whither_267 o x5 x6 = some v → Go X 267 (wM g ad o) [(0, .ref (ad 0)), (5, iv x5), (6, iv x6)] [] := by
    intro o x5 x6 h
    unfold b_X12_whither_267 at h
    refine g_aload_n E gdX12_whither_267 rfl 0 rfl ?_
    refine g_iload E gdX12_whither_268 2 rfl ?_
    refine g_iload E gdX12_whither_270 1 rfl ?_
    obtain ⟨r1, o3, hc2, h⟩ := qB2_of h
    refine g_Vi (r := r1) (As := [iv x6, iv x5]) (rest := []) (w := wM g ad o3) E (c_X12_ask l g ad o x6 x5 (r1, o3) hc2) okm_X12_ask okw_X12_ask w_1835 rfl (wM_0 g ad o) rfl rfl (Nat.le_of_ble_eq_true rfl) ⟨Nat.le_of_ble_eq_true rfl, Nat.le_of_ble_eq_true rfl⟩ gdX12_whither_272 ?_
    exact g_iret E hQ (by rw [← Option.some.inj h]) (by rw [← Option.some.inj h]) gdX12_whither_275
  have j258 : ∀ (o : OO) (x5 : Int) (x6 : Int) (v : (OO × Int × Int × Int) ⊕ ((OO × Int × Int))), b_X12_whither_258 o x5 x6 = some v → (∀ (o : OO) (x5 : Int) (x6 : Int) (x7 : Int), v = .inl (o, x5, x6, x7) → Go X 188 (wM g ad o) [(0, .ref (ad 0)), (5, iv x5), (6, iv x6), (7, iv x7)] []) → (∀ (o : OO) (x5 : Int) (x6 : Int), v = .inr ((o, x5, x6)) → Go X 267 (wM g ad o) [(0, .ref (ad 0)), (5, iv x5), (6, iv x6)] []) → Go X 258 (wM g ad o) [(0, .ref (ad 0)), (5, iv x5), (6, iv x6)] [] := by
    intro o x5 x6 v h k0 k1
    unfold b_X12_whither_258 at h
    refine g_aload_n E gdX12_whither_258 rfl 0 rfl ?_
    obtain ⟨r4, o6, hc5, h⟩ := qB2_of h
    refine g_Vi (r := r4) (As := []) (rest := []) (w := wM g ad o6) E (c_X12_cheapest l g ad o (r4, o6) hc5) okm_X12_cheapest okw_X12_cheapest w_2009 rfl (wM_0 g ad o) rfl rfl (Nat.le_of_ble_eq_true rfl) ⟨Nat.le_of_ble_eq_true rfl, Nat.le_of_ble_eq_true rfl⟩ gdX12_whither_259 ?_
    refine g_istore E [(7, iv r4), (0, .ref (ad 0)), (5, iv x5), (6, iv x6)] gdX12_whither_262 (by decide) rfl ?_
    refine g_goto E 188 gdX12_whither_264 (by decide) ?_
    refine g_sub E [1, 2, 3, 0] rfl ?_
    exact k0 o6 x5 x6 r4 (Option.some.inj h).symm
  have l223 : ∀ (x5 : Int) (x6 : Int) (r : (OO)) (s0 : OO × Int), loopW (fun s => l_X12_whither_223 x5 x6 s.1 s.2) s0 = some r → (∀ (o : OO), r = (o) → Go X 258 (wM g ad o) [(0, .ref (ad 0)), (5, iv x5), (6, iv x6)] []) → Go X 223 (wM g ad s0.1) [(0, .ref (ad 0)), (5, iv x5), (6, iv x6), (8, iv s0.2)] [] := by
    intro x5 x6 r s0 h k1
    refine loop_rule (Head := fun s0 => Go X 223 (wM g ad s0.1) [(0, .ref (ad 0)), (5, iv x5), (6, iv x6), (8, iv s0.2)] []) h ?_
    intro s v h kk kx
    obtain ⟨o, x8⟩ := s
    have h : l_X12_whither_223 x5 x6 o x8 = some v := h
    have k0 : ∀ (o : OO) (x8 : Int), v = .inl (o, x8) → Go X 223 (wM g ad o) [(0, .ref (ad 0)), (5, iv x5), (6, iv x6), (8, iv x8)] [] := fun o x8 e => kk (o, x8) e
    have k1 : ∀ (o : OO), v = .inr (o) → Go X 258 (wM g ad o) [(0, .ref (ad 0)), (5, iv x5), (6, iv x6)] [] := fun o e => k1 o (kx _ e).symm
    unfold l_X12_whither_223 at h
    refine g_iload E gdX12_whither_223 3 rfl ?_
    refine g_if_lt E 258 gdX12_whither_225 (by decide) h (fun h => ?_) (fun h => ?_)
    ·
      refine g_sub E [0, 1, 2] rfl ?_
      exact k1 o (Option.some.inj h).symm
    ·
      refine g_aload_n E gdX12_whither_228 rfl 0 rfl ?_
      refine g_get (T := TX12) E fw_X12 0 (wM_0 g ad o) rfl 61 (by decide) w_1527 rfl rfl gdX12_whither_229 ?_
      refine g_iload E gdX12_whither_232 3 rfl ?_
      obtain ⟨hi7, h⟩ := qIn_of h
      refine g_iald E 51 (wM_51 g ad o) (by decide) hi7 gdX12_whither_234 ?_
      obtain ⟨n8, e_n8, h⟩ := qNm_of h
      refine g_nmi e_n8 ?_
      refine g_istore E [(9, iv n8), (0, .ref (ad 0)), (5, iv x5), (6, iv x6), (8, iv x8)] gdX12_whither_235 (by decide) rfl ?_
      refine g_aload_n E gdX12_whither_237 rfl 1 rfl ?_
      refine g_get (T := TX12) E fw_X12 0 (wM_0 g ad o) rfl 56 (by decide) w_1522 rfl rfl gdX12_whither_238 ?_
      refine g_aload_n E gdX12_whither_241 rfl 1 rfl ?_
      refine g_get (T := TX12) E fw_X12 0 (wM_0 g ad o) rfl 60 (by decide) w_1526 rfl rfl gdX12_whither_242 ?_
      refine g_iload E gdX12_whither_245 4 rfl ?_
      obtain ⟨hi9, h⟩ := qIn_of h
      refine g_iald E 50 (wM_50 g ad o) (by decide) hi9 gdX12_whither_247 ?_
      obtain ⟨n10, e_n10, h⟩ := qNm_of h
      refine g_nmi e_n10 ?_
      refine g_iload E gdX12_whither_248 4 rfl ?_
      obtain ⟨hi11, h⟩ := qIn_of h
      obtain ⟨o12, e_o12, h⟩ := qNm_of h
      refine g_iast (ws' := wM g ad o12) E 46 (wM_46 g ad o) (by decide) hi11 (by rw [e_o12]; exact wM_s46 g ad o _ _) gdX12_whither_250 ?_
      refine g_iload E gdX12_whither_251 0 rfl ?_
      refine g_istore E [(8, iv n8), (9, iv n8), (0, .ref (ad 0)), (5, iv x5), (6, iv x6)] gdX12_whither_253 (by decide) rfl ?_
      refine g_goto E 223 gdX12_whither_255 (by decide) ?_
      refine g_sub E [2, 3, 4, 0] rfl ?_
      exact k0 o12 n8 (Option.some.inj h).symm
  have j223 : ∀ (o : OO) (x5 : Int) (x6 : Int) (x8 : Int) (v : (OO × Int × Int × Int) ⊕ ((OO × Int × Int))), e_X12_whither_223 o x5 x6 x8 = some v → (∀ (o : OO) (x5 : Int) (x6 : Int) (x7 : Int), v = .inl (o, x5, x6, x7) → Go X 188 (wM g ad o) [(0, .ref (ad 0)), (5, iv x5), (6, iv x6), (7, iv x7)] []) → (∀ (o : OO) (x5 : Int) (x6 : Int), v = .inr ((o, x5, x6)) → Go X 267 (wM g ad o) [(0, .ref (ad 0)), (5, iv x5), (6, iv x6)] []) → Go X 223 (wM g ad o) [(0, .ref (ad 0)), (5, iv x5), (6, iv x6), (8, iv x8)] [] := by
    intro o x5 x6 x8 v h k0 k1
    unfold e_X12_whither_223 at h
    obtain ⟨r, hr, h⟩ := qB_of h
    refine l223 x5 x6 r _ hr ?_
    ·
      intro u0 e
      have e := e.symm
      subst e
      have h : b_X12_whither_258 u0 x5 x6 = some v := h
      exact j258 u0 x5 x6 v h k0 k1
  have l188 : ∀  (r : (OO × Int × Int)) (s0 : OO × Int × Int × Int), loopW (fun s => l_X12_whither_188 s.1 s.2.1 s.2.2.1 s.2.2.2) s0 = some r → (∀ (o : OO) (x5 : Int) (x6 : Int), r = ((o, x5, x6)) → Go X 267 (wM g ad o) [(0, .ref (ad 0)), (5, iv x5), (6, iv x6)] []) → Go X 188 (wM g ad s0.1) [(0, .ref (ad 0)), (5, iv s0.2.1), (6, iv s0.2.2.1), (7, iv s0.2.2.2)] [] := by
    intro r s0 h k1
    refine loop_rule (Head := fun s0 => Go X 188 (wM g ad s0.1) [(0, .ref (ad 0)), (5, iv s0.2.1), (6, iv s0.2.2.1), (7, iv s0.2.2.2)] []) h ?_
    intro s v h kk kx
    obtain ⟨o, x5, x6, x7⟩ := s
    have h : l_X12_whither_188 o x5 x6 x7 = some v := h
    have k0 : ∀ (o : OO) (x5 : Int) (x6 : Int) (x7 : Int), v = .inl (o, x5, x6, x7) → Go X 188 (wM g ad o) [(0, .ref (ad 0)), (5, iv x5), (6, iv x6), (7, iv x7)] [] := fun o x5 x6 x7 e => kk (o, x5, x6, x7) e
    have k1 : ∀ (o : OO) (x5 : Int) (x6 : Int), v = .inr ((o, x5, x6)) → Go X 267 (wM g ad o) [(0, .ref (ad 0)), (5, iv x5), (6, iv x6)] [] := fun o x5 x6 e => k1 o x5 x6 (kx _ e).symm
    unfold l_X12_whither_188 at h
    refine g_iload E gdX12_whither_188 3 rfl ?_
    refine g_if_lt E 267 gdX12_whither_190 (by decide) h (fun h => ?_) (fun h => ?_)
    ·
      refine g_sub E [0, 1, 2] rfl ?_
      exact k1 o x5 x6 (Option.some.inj h).symm
    ·
      refine g_iinc E [(5, iv (x5 + 1)), (0, .ref (ad 0)), (6, iv x6), (7, iv x7)] gdX12_whither_193 1 rfl (by decide) rfl ?_
      refine g_iload E gdX12_whither_196 2 rfl ?_
      refine g_aload_n E gdX12_whither_198 rfl 1 rfl ?_
      refine g_get (T := TX12) E fw_X12 0 (wM_0 g ad o) rfl 59 (by decide) w_1525 rfl rfl gdX12_whither_199 ?_
      refine g_iload E gdX12_whither_202 3 rfl ?_
      obtain ⟨hi13, h⟩ := qIn_of h
      refine g_iald E 49 (wM_49 g ad o) (by decide) hi13 gdX12_whither_204 ?_
      obtain ⟨n14, e_n14, h⟩ := qNm_of h
      refine g_nmi e_n14 ?_
      refine g_iadd E gdX12_whither_205 ?_
      obtain ⟨n15, e_n15, h⟩ := qNm_of h
      refine g_nmi e_n15 ?_
      refine g_istore E [(6, iv n15), (5, iv (x5 + 1)), (0, .ref (ad 0)), (7, iv x7)] gdX12_whither_206 (by decide) rfl ?_
      refine g_aload_n E gdX12_whither_208 rfl 2 rfl ?_
      refine g_get (T := TX12) E fw_X12 0 (wM_0 g ad o) rfl 58 (by decide) w_1524 rfl rfl gdX12_whither_209 ?_
      refine g_iload E gdX12_whither_212 3 rfl ?_
      refine g_dup2 E gdX12_whither_214 rfl rfl ?_
      obtain ⟨hi16, h⟩ := qIn_of h
      refine g_iald E 48 (wM_48 g ad o) (by decide) hi16 gdX12_whither_215 ?_
      obtain ⟨n17, e_n17, h⟩ := qNm_of h
      refine g_nmi e_n17 ?_
      refine g_iconst E gdX12_whither_216 ?_
      refine g_isub E gdX12_whither_217 ?_
      obtain ⟨hi18, h⟩ := qIn_of h
      obtain ⟨o19, e_o19, h⟩ := qNm_of h
      refine g_iast (ws' := wM g ad o19) E 48 (wM_48 g ad o) (by decide) hi18 (by rw [e_o19]; exact wM_s48 g ad o _ _) gdX12_whither_218 ?_
      refine g_iload E gdX12_whither_219 3 rfl ?_
      refine g_istore E [(8, iv x7), (6, iv n15), (5, iv (x5 + 1)), (0, .ref (ad 0)), (7, iv x7)] gdX12_whither_221 (by decide) rfl ?_
      refine g_sub E [3, 2, 1, 0] rfl ?_
      exact j223 o19 (x5 + 1) n15 x7 v h k0 k1
  have j188 : ∀ (o : OO) (x5 : Int) (x6 : Int) (x7 : Int), e_X12_whither_188 o x5 x6 x7 = some v → Go X 188 (wM g ad o) [(0, .ref (ad 0)), (5, iv x5), (6, iv x6), (7, iv x7)] [] := by
    intro o x5 x6 x7 h
    unfold e_X12_whither_188 at h
    obtain ⟨r, hr, h⟩ := qB_of h
    refine l188  r _ hr ?_
    ·
      intro u0 u1 u2 e
      subst e
      have h : b_X12_whither_267 u0 u1 u2 = some v := h
      exact j267 u0 u1 u2 h
  have j176 : ∀ (o : OO), b_X12_whither_176 o = some v → Go X 176 (wM g ad o) [(0, .ref (ad 0))] [] := by
    intro o h
    unfold b_X12_whither_176 at h
    refine g_iconst E gdX12_whither_176 ?_
    refine g_istore E [(5, iv 0), (0, .ref (ad 0))] gdX12_whither_177 (by decide) rfl ?_
    refine g_iconst E gdX12_whither_179 ?_
    refine g_istore E [(6, iv 0), (5, iv 0), (0, .ref (ad 0))] gdX12_whither_180 (by decide) rfl ?_
    refine g_aload_n E gdX12_whither_182 rfl 2 rfl ?_
    obtain ⟨r20, o22, hc21, h⟩ := qB2_of h
    refine g_Vi (r := r20) (As := []) (rest := []) (w := wM g ad o22) E (c_X12_cheapest l g ad o (r20, o22) hc21) okm_X12_cheapest okw_X12_cheapest w_2009 rfl (wM_0 g ad o) rfl rfl (Nat.le_of_ble_eq_true rfl) ⟨Nat.le_of_ble_eq_true rfl, Nat.le_of_ble_eq_true rfl⟩ gdX12_whither_183 ?_
    refine g_istore E [(7, iv r20), (6, iv 0), (5, iv 0), (0, .ref (ad 0))] gdX12_whither_186 (by decide) rfl ?_
    refine g_sub E [3, 2, 1, 0] rfl ?_
    exact j188 o22 0 0 r20 h
  have j169 : ∀ (o : OO) (z3 : Int64) (x5 : Int) (y1 : Int) (y2 : Int) (v : (OO × Int) ⊕ ((OO))), b_X12_whither_169 o z3 x5 y1 y2 = some v → (∀ (o : OO) (x5 : Int), v = .inl (o, x5) → Go X 111 (wM g ad o) [(0, .ref (ad 0)), (3, .long z3), (5, iv x5)] []) → (∀ (o : OO), v = .inr (o) → Go X 176 (wM g ad o) [(0, .ref (ad 0))] []) → Go X 169 (wM g ad o) [(0, .ref (ad 0)), (3, .long z3), (5, iv x5)] [iv y2, iv y1, .ref (ad 47)] := by
    intro o z3 x5 y1 y2 v h k0 k1
    unfold b_X12_whither_169 at h
    obtain ⟨hi23, h⟩ := qIn_of h
    obtain ⟨hz24, h⟩ := qZ_of h
    obtain ⟨o25, e_o25, h⟩ := qNm_of h
    refine g_zast (ws' := wM g ad o25) E 47 (wM_47 g ad o) (by decide) hi23 hz24 (by rw [e_o25]; exact wM_s47 g ad o _ _) gdX12_whither_169 ?_
    refine g_iinc E [(5, iv (x5 + 1)), (0, .ref (ad 0)), (3, .long z3)] gdX12_whither_170 2 rfl (by decide) rfl ?_
    refine g_goto E 111 gdX12_whither_173 (by decide) ?_
    refine g_sub E [1, 2, 0] rfl ?_
    exact k0 o25 (x5 + 1) (Option.some.inj h).symm
  have j168 : ∀ (o : OO) (z3 : Int64) (x5 : Int) (y1 : Int) (v : (OO × Int) ⊕ ((OO))), b_X12_whither_168 o z3 x5 y1 = some v → (∀ (o : OO) (x5 : Int), v = .inl (o, x5) → Go X 111 (wM g ad o) [(0, .ref (ad 0)), (3, .long z3), (5, iv x5)] []) → (∀ (o : OO), v = .inr (o) → Go X 176 (wM g ad o) [(0, .ref (ad 0))] []) → Go X 168 (wM g ad o) [(0, .ref (ad 0)), (3, .long z3), (5, iv x5)] [iv y1, .ref (ad 47)] := by
    intro o z3 x5 y1 v h k0 k1
    unfold b_X12_whither_168 at h
    refine g_iconst E gdX12_whither_168 ?_
    exact j169 o z3 x5 y1 0 v h k0 k1
  have l111 : ∀ (z3 : Int64) (r : (OO)) (s0 : OO × Int), loopW (fun s => l_X12_whither_111 z3 s.1 s.2) s0 = some r → (∀ (o : OO), r = (o) → Go X 176 (wM g ad o) [(0, .ref (ad 0))] []) → Go X 111 (wM g ad s0.1) [(0, .ref (ad 0)), (3, .long z3), (5, iv s0.2)] [] := by
    intro z3 r s0 h k1
    refine loop_rule (Head := fun s0 => Go X 111 (wM g ad s0.1) [(0, .ref (ad 0)), (3, .long z3), (5, iv s0.2)] []) h ?_
    intro s v h kk kx
    obtain ⟨o, x5⟩ := s
    have h : l_X12_whither_111 z3 o x5 = some v := h
    have k0 : ∀ (o : OO) (x5 : Int), v = .inl (o, x5) → Go X 111 (wM g ad o) [(0, .ref (ad 0)), (3, .long z3), (5, iv x5)] [] := fun o x5 e => kk (o, x5) e
    have k1 : ∀ (o : OO), v = .inr (o) → Go X 176 (wM g ad o) [(0, .ref (ad 0))] [] := fun o e => k1 o (kx _ e).symm
    unfold l_X12_whither_111 at h
    refine g_iload E gdX12_whither_111 2 rfl ?_
    refine g_aload_n E gdX12_whither_113 rfl 0 rfl ?_
    refine g_get (T := TX12) E fw_X12 0 (wM_0 g ad o) rfl 27 (by decide) w_1493 rfl rfl gdX12_whither_114 ?_
    refine g_icmp_ge E 176 gdX12_whither_117 (by decide) h (fun h => ?_) (fun h => ?_)
    ·
      refine g_sub E [0] rfl ?_
      exact k1 o (Option.some.inj h).symm
    ·
      refine g_aload_n E gdX12_whither_120 rfl 0 rfl ?_
      refine g_get (T := TX12) E fw_X12 0 (wM_0 g ad o) rfl 56 (by decide) w_1522 rfl rfl gdX12_whither_121 ?_
      refine g_iload E gdX12_whither_124 2 rfl ?_
      refine g_bipush E gdX12_whither_126 (by decide) ?_
      obtain ⟨hi26, h⟩ := qIn_of h
      obtain ⟨o27, e_o27, h⟩ := qNm_of h
      refine g_iast (ws' := wM g ad o27) E 46 (wM_46 g ad o) (by decide) hi26 (by rw [e_o27]; exact wM_s46 g ad o _ _) gdX12_whither_128 ?_
      refine g_aload_n E gdX12_whither_129 rfl 0 rfl ?_
      refine g_get (T := TX12) E fw_X12 0 (wM_0 g ad o27) rfl 57 (by decide) w_1523 rfl rfl gdX12_whither_130 ?_
      refine g_iload E gdX12_whither_133 2 rfl ?_
      refine g_aload_n E gdX12_whither_135 rfl 0 rfl ?_
      refine g_get (T := TX12) E fw_X12 0 (wM_0 g ad o27) rfl 28 (by decide) w_1494 rfl rfl gdX12_whither_136 ?_
      refine g_iload E gdX12_whither_139 2 rfl ?_
      obtain ⟨hi28, h⟩ := qIn_of h
      refine g_iald E 21 (wM_21 g ad o27) (by decide) hi28 gdX12_whither_141 ?_
      obtain ⟨n29, e_n29, h⟩ := qNm_of h
      refine g_nmi e_n29 ?_
      refine g_if_lt E 168 gdX12_whither_142 (by decide) h (fun h => ?_) (fun h => ?_)
      ·
        exact j168 o27 z3 x5 x5 v h k0 k1
      ·
        refine g_lload_n E gdX12_whither_145 rfl 1 rfl ?_
        refine g_aload_n E gdX12_whither_146 rfl 0 rfl ?_
        refine g_get (T := TX12) E fw_X12 0 (wM_0 g ad o27) rfl 18 (by decide) w_1484 rfl rfl gdX12_whither_147 ?_
        refine g_aload_n E gdX12_whither_150 rfl 0 rfl ?_
        refine g_get (T := TX12) E fw_X12 0 (wM_0 g ad o27) rfl 28 (by decide) w_1494 rfl rfl gdX12_whither_151 ?_
        refine g_iload E gdX12_whither_154 2 rfl ?_
        obtain ⟨hi30, h⟩ := qIn_of h
        refine g_iald E 21 (wM_21 g ad o27) (by decide) hi30 gdX12_whither_156 ?_
        obtain ⟨n31, e_n31, h⟩ := qNm_of h
        refine g_nmi e_n31 ?_
        obtain ⟨hi32, h⟩ := qIn_of h
        refine g_iald E 13 (wM_13 g ad o27) (by decide) hi32 gdX12_whither_157 ?_
        obtain ⟨n33, e_n33, h⟩ := qNm_of h
        refine g_nmi e_n33 ?_
        obtain ⟨r34, hc35, h⟩ := qB_of h
        refine g_Si (r := r34) (As := [.long z3, iv n33]) (rest := [iv x5, .ref (ad 47)]) (w := wM g ad o27) E (c_X12_has l g (wM g ad o27) z3 n33 r34 hc35) okm_X12_has w_1919 w_1918 rfl rfl (Nat.le_of_ble_eq_true rfl) ⟨Nat.le_of_ble_eq_true rfl, Nat.le_of_ble_eq_true rfl⟩ gdX12_whither_158 ?_
        refine g_if_eq E 168 gdX12_whither_161 (by decide) h (fun h => ?_) (fun h => ?_)
        ·
          exact j168 o27 z3 x5 x5 v h k0 k1
        ·
          refine g_iconst E gdX12_whither_164 ?_
          refine g_goto E 169 gdX12_whither_165 (by decide) ?_
          exact j169 o27 z3 x5 x5 1 v h k0 k1
  have j111 : ∀ (o : OO) (z3 : Int64) (x5 : Int), e_X12_whither_111 o z3 x5 = some v → Go X 111 (wM g ad o) [(0, .ref (ad 0)), (3, .long z3), (5, iv x5)] [] := by
    intro o z3 x5 h
    unfold e_X12_whither_111 at h
    obtain ⟨r, hr, h⟩ := qB_of h
    refine l111 z3 r _ hr ?_
    ·
      intro u0 e
      have e := e.symm
      subst e
      have h : b_X12_whither_176 u0 = some v := h
      exact j176 u0 h
  have j108 : ∀ (o : OO) (z3 : Int64), b_X12_whither_108 o z3 = some v → Go X 108 (wM g ad o) [(0, .ref (ad 0)), (3, .long z3)] [] := by
    intro o z3 h
    unfold b_X12_whither_108 at h
    refine g_iconst E gdX12_whither_108 ?_
    refine g_istore E [(5, iv 0), (0, .ref (ad 0)), (3, .long z3)] gdX12_whither_109 (by decide) rfl ?_
    refine g_sub E [1, 2, 0] rfl ?_
    exact j111 o z3 0 h
  have j101 : ∀ (o : OO) (z3 : Int64) (x5 : Int) (y1 : Int) (y2 : Int) (v : (OO × Int) ⊕ ((OO))), b_X12_whither_101 o z3 x5 y1 y2 = some v → (∀ (o : OO) (x5 : Int), v = .inl (o, x5) → Go X 21 (wM g ad o) [(0, .ref (ad 0)), (3, .long z3), (5, iv x5)] []) → (∀ (o : OO), v = .inr (o) → Go X 108 (wM g ad o) [(0, .ref (ad 0)), (3, .long z3)] []) → Go X 101 (wM g ad o) [(0, .ref (ad 0)), (3, .long z3), (5, iv x5)] [iv y2, iv y1, .ref (ad 48)] := by
    intro o z3 x5 y1 y2 v h k0 k1
    unfold b_X12_whither_101 at h
    obtain ⟨hi36, h⟩ := qIn_of h
    obtain ⟨o37, e_o37, h⟩ := qNm_of h
    refine g_iast (ws' := wM g ad o37) E 48 (wM_48 g ad o) (by decide) hi36 (by rw [e_o37]; exact wM_s48 g ad o _ _) gdX12_whither_101 ?_
    refine g_iinc E [(5, iv (x5 + 1)), (0, .ref (ad 0)), (3, .long z3)] gdX12_whither_102 2 rfl (by decide) rfl ?_
    refine g_goto E 21 gdX12_whither_105 (by decide) ?_
    refine g_sub E [1, 2, 0] rfl ?_
    exact k0 o37 (x5 + 1) (Option.some.inj h).symm
  have j69 : ∀ (o : OO) (z3 : Int64) (x5 : Int) (y0 : Int) (v : (OO × Int) ⊕ ((OO))), b_X12_whither_69 o z3 x5 y0 = some v → (∀ (o : OO) (x5 : Int), v = .inl (o, x5) → Go X 21 (wM g ad o) [(0, .ref (ad 0)), (3, .long z3), (5, iv x5)] []) → (∀ (o : OO), v = .inr (o) → Go X 108 (wM g ad o) [(0, .ref (ad 0)), (3, .long z3)] []) → Go X 69 (wM g ad o) [(0, .ref (ad 0)), (3, .long z3), (5, iv x5)] [iv y0] := by
    intro o z3 x5 y0 v h k0 k1
    unfold b_X12_whither_69 at h
    refine g_istore E [(6, iv y0), (0, .ref (ad 0)), (3, .long z3), (5, iv x5)] gdX12_whither_69 (by decide) rfl ?_
    refine g_aload_n E gdX12_whither_71 rfl 1 rfl ?_
    refine g_get (T := TX12) E fw_X12 0 (wM_0 g ad o) rfl 58 (by decide) w_1524 rfl rfl gdX12_whither_72 ?_
    refine g_iload E gdX12_whither_75 3 rfl ?_
    refine g_iload E gdX12_whither_77 0 rfl ?_
    refine g_if_eq E 99 gdX12_whither_79 (by decide) h (fun h => ?_) (fun h => ?_)
    ·
      refine g_bipush E gdX12_whither_99 (by decide) ?_
      refine g_sub E [1, 2, 3] rfl ?_
      exact j101 o z3 x5 x5 (-9) v h k0 k1
    ·
      refine g_aload_n E gdX12_whither_82 rfl 1 rfl ?_
      refine g_get (T := TX12) E fw_X12 0 (wM_0 g ad o) rfl 20 (by decide) w_1486 rfl rfl gdX12_whither_83 ?_
      refine g_iload E gdX12_whither_86 3 rfl ?_
      obtain ⟨hi38, h⟩ := qIn_of h
      refine g_iald E 15 (wM_15 g ad o) (by decide) hi38 gdX12_whither_88 ?_
      obtain ⟨n39, e_n39, h⟩ := qNm_of h
      refine g_nmi e_n39 ?_
      refine g_aload_n E gdX12_whither_89 rfl 1 rfl ?_
      refine g_iload E gdX12_whither_90 3 rfl ?_
      obtain ⟨r40, hc41, h⟩ := qB_of h
      refine g_Vi (r := r40) (As := [iv x5]) (rest := [iv n39, iv x5, .ref (ad 48)]) (w := wM g ad o) E (c_X12_living l g ad o x5 r40 hc41) okm_X12_living okw_X12_living w_1831 rfl (wM_0 g ad o) rfl rfl (Nat.le_of_ble_eq_true rfl) ⟨Nat.le_of_ble_eq_true rfl, Nat.le_of_ble_eq_true rfl⟩ gdX12_whither_92 ?_
      refine g_isub E gdX12_whither_95 ?_
      refine g_goto E 101 gdX12_whither_96 (by decide) ?_
      refine g_sub E [1, 2, 3] rfl ?_
      exact j101 o z3 x5 x5 (n39 - r40) v h k0 k1
  have j68 : ∀ (o : OO) (z3 : Int64) (x5 : Int) (v : (OO × Int) ⊕ ((OO))), b_X12_whither_68 o z3 x5 = some v → (∀ (o : OO) (x5 : Int), v = .inl (o, x5) → Go X 21 (wM g ad o) [(0, .ref (ad 0)), (3, .long z3), (5, iv x5)] []) → (∀ (o : OO), v = .inr (o) → Go X 108 (wM g ad o) [(0, .ref (ad 0)), (3, .long z3)] []) → Go X 68 (wM g ad o) [(0, .ref (ad 0)), (3, .long z3), (5, iv x5)] [] := by
    intro o z3 x5 v h k0 k1
    unfold b_X12_whither_68 at h
    refine g_iconst E gdX12_whither_68 ?_
    exact j69 o z3 x5 0 v h k0 k1
  have l21 : ∀ (z3 : Int64) (r : (OO)) (s0 : OO × Int), loopW (fun s => l_X12_whither_21 z3 s.1 s.2) s0 = some r → (∀ (o : OO), r = (o) → Go X 108 (wM g ad o) [(0, .ref (ad 0)), (3, .long z3)] []) → Go X 21 (wM g ad s0.1) [(0, .ref (ad 0)), (3, .long z3), (5, iv s0.2)] [] := by
    intro z3 r s0 h k1
    refine loop_rule (Head := fun s0 => Go X 21 (wM g ad s0.1) [(0, .ref (ad 0)), (3, .long z3), (5, iv s0.2)] []) h ?_
    intro s v h kk kx
    obtain ⟨o, x5⟩ := s
    have h : l_X12_whither_21 z3 o x5 = some v := h
    have k0 : ∀ (o : OO) (x5 : Int), v = .inl (o, x5) → Go X 21 (wM g ad o) [(0, .ref (ad 0)), (3, .long z3), (5, iv x5)] [] := fun o x5 e => kk (o, x5) e
    have k1 : ∀ (o : OO), v = .inr (o) → Go X 108 (wM g ad o) [(0, .ref (ad 0)), (3, .long z3)] [] := fun o e => k1 o (kx _ e).symm
    unfold l_X12_whither_21 at h
    refine g_iload E gdX12_whither_21 2 rfl ?_
    refine g_aload_n E gdX12_whither_23 rfl 0 rfl ?_
    refine g_get (T := TX12) E fw_X12 0 (wM_0 g ad o) rfl 17 (by decide) w_1483 rfl rfl gdX12_whither_24 ?_
    refine g_icmp_ge E 108 gdX12_whither_27 (by decide) h (fun h => ?_) (fun h => ?_)
    ·
      refine g_sub E [0, 1] rfl ?_
      exact k1 o (Option.some.inj h).symm
    ·
      refine g_aload_n E gdX12_whither_30 rfl 0 rfl ?_
      refine g_get (T := TX12) E fw_X12 0 (wM_0 g ad o) rfl 19 (by decide) w_1485 rfl rfl gdX12_whither_31 ?_
      refine g_iload E gdX12_whither_34 2 rfl ?_
      obtain ⟨hi42, h⟩ := qIn_of h
      refine g_iald E 14 (wM_14 g ad o) (by decide) hi42 gdX12_whither_36 ?_
      obtain ⟨n43, e_n43, h⟩ := qNm_of h
      refine g_nmi e_n43 ?_
      refine g_if_ne E 68 gdX12_whither_37 (by decide) h (fun h => ?_) (fun h => ?_)
      ·
        exact j68 o z3 x5 v h k0 k1
      ·
        refine g_aload_n E gdX12_whither_40 rfl 0 rfl ?_
        refine g_get (T := TX12) E fw_X12 0 (wM_0 g ad o) rfl 21 (by decide) w_1487 rfl rfl gdX12_whither_41 ?_
        refine g_iload E gdX12_whither_44 2 rfl ?_
        obtain ⟨hi44, h⟩ := qIn_of h
        refine g_zald E 16 (wM_16 g ad o) (by decide) hi44 gdX12_whither_46 ?_
        obtain ⟨n45, e_n45, h⟩ := qNm_of h
        refine g_nmi e_n45 ?_
        refine g_if_ne E 68 gdX12_whither_47 (by decide) h (fun h => ?_) (fun h => ?_)
        ·
          exact j68 o z3 x5 v h k0 k1
        ·
          refine g_lload_n E gdX12_whither_50 rfl 1 rfl ?_
          refine g_aload_n E gdX12_whither_51 rfl 0 rfl ?_
          refine g_get (T := TX12) E fw_X12 0 (wM_0 g ad o) rfl 18 (by decide) w_1484 rfl rfl gdX12_whither_52 ?_
          refine g_iload E gdX12_whither_55 2 rfl ?_
          obtain ⟨hi46, h⟩ := qIn_of h
          refine g_iald E 13 (wM_13 g ad o) (by decide) hi46 gdX12_whither_57 ?_
          obtain ⟨n47, e_n47, h⟩ := qNm_of h
          refine g_nmi e_n47 ?_
          obtain ⟨r48, hc49, h⟩ := qB_of h
          refine g_Si (r := r48) (As := [.long z3, iv n47]) (rest := []) (w := wM g ad o) E (c_X12_has l g (wM g ad o) z3 n47 r48 hc49) okm_X12_has w_1919 w_1918 rfl rfl (Nat.le_of_ble_eq_true rfl) ⟨Nat.le_of_ble_eq_true rfl, Nat.le_of_ble_eq_true rfl⟩ gdX12_whither_58 ?_
          refine g_if_ne E 68 gdX12_whither_61 (by decide) h (fun h => ?_) (fun h => ?_)
          ·
            exact j68 o z3 x5 v h k0 k1
          ·
            refine g_iconst E gdX12_whither_64 ?_
            refine g_goto E 69 gdX12_whither_65 (by decide) ?_
            exact j69 o z3 x5 1 v h k0 k1
  have j21 : ∀ (o : OO) (z3 : Int64) (x5 : Int), e_X12_whither_21 o z3 x5 = some v → Go X 21 (wM g ad o) [(0, .ref (ad 0)), (3, .long z3), (5, iv x5)] [] := by
    intro o z3 x5 h
    unfold e_X12_whither_21 at h
    obtain ⟨r, hr, h⟩ := qB_of h
    refine l21 z3 r _ hr ?_
    ·
      intro u0 e
      have e := e.symm
      subst e
      have h : b_X12_whither_108 u0 z3 = some v := h
      exact j108 u0 z3 h
  unfold s_X12_whither at h
  refine g_aload_n E gdX12_whither_0 rfl 0 rfl ?_
  refine g_iload_n E gdX12_whither_1 rfl 1 rfl ?_
  obtain ⟨r50, o52, hc51, h⟩ := qB2_of h
  refine g_Vi (r := r50) (As := [iv x1]) (rest := []) (w := wM g ad o52) E (c_X12_askedLine l g ad o x1 (r50, o52) hc51) okm_X12_askedLine okw_X12_askedLine w_1925 rfl (wM_0 g ad o) rfl rfl (Nat.le_of_ble_eq_true rfl) ⟨Nat.le_of_ble_eq_true rfl, Nat.le_of_ble_eq_true rfl⟩ gdX12_whither_2 ?_
  refine g_istore_n E [(2, iv r50), (0, .ref (ad 0)), (1, iv x1)] gdX12_whither_5 rfl (by decide) rfl ?_
  refine g_iload_n E gdX12_whither_6 rfl 0 rfl ?_
  refine g_if_ge E 12 gdX12_whither_7 (by decide) h (fun h => ?_) (fun h => ?_)
  ·
    refine g_aload_n E gdX12_whither_12 rfl 1 rfl ?_
    refine g_iload_n E gdX12_whither_13 rfl 2 rfl ?_
    obtain ⟨p53, hc54, h⟩ := qB_of h
    refine g_Vl (r := p53) (As := [iv x1]) (rest := []) (w := wM g ad o52) E (c_X12_cellsOf l g ad o52 x1 p53 hc54) okm_X12_cellsOf okw_X12_cellsOf w_1914 rfl (wM_0 g ad o52) rfl rfl (Nat.le_of_ble_eq_true rfl) ⟨Nat.le_of_ble_eq_true rfl, Nat.le_of_ble_eq_true rfl⟩ gdX12_whither_14 ?_
    refine g_lstore_n E [(3, .long p53), (2, iv r50), (0, .ref (ad 0)), (1, iv x1)] gdX12_whither_17 rfl (by decide) rfl ?_
    refine g_iconst E gdX12_whither_18 ?_
    refine g_istore E [(5, iv 0), (3, .long p53), (2, iv r50), (0, .ref (ad 0)), (1, iv x1)] gdX12_whither_19 (by decide) rfl ?_
    refine g_sub E [3, 1, 0] rfl ?_
    exact j21 o52 p53 0 h
  ·
    refine g_iload_n E gdX12_whither_10 rfl 0 rfl ?_
    exact g_iret E hQ (by rw [← Option.some.inj h]) (by rw [← Option.some.inj h]) gdX12_whither_11
set_option maxHeartbeats 4000000 in
set_option maxRecDepth 100000 in
theorem c_X12_who (l : Launch) (g : GG) (ad : Nat → Nat) (o : OO) (x1 : Int) (x2 : Int) (v : Int × OO) (h : s_X12_who o x1 x2 = some v) : CI l g yX12_who cX12_who 3 (some .int) 2 43 (wM g ad o) [.ref (ad 0), iv x1, iv x2] v.1 (wM g ad v.2) := by
  refine met_I (by decide) (Nat.le_of_ble_eq_true rfl) ?_
  intro X E hQ
  show Go X 0 (wM g ad o) [(0, .ref (ad 0)), (1, iv x1), (2, iv x2)] []
  have j32 : ∀ (o : OO) (y0 : Int), b_X12_who_32 o y0 = some v → Go X 32 (wM g ad o) [] [iv y0] := by
    intro o y0 h
    unfold b_X12_who_32 at h
    exact g_iret E hQ (by rw [← Option.some.inj h]) (by rw [← Option.some.inj h]) gdX12_who_32
  have j31 : ∀ (o : OO), b_X12_who_31 o = some v → Go X 31 (wM g ad o) [] [] := by
    intro o h
    unfold b_X12_who_31 at h
    refine g_iconst E gdX12_who_31 ?_
    exact j32 o (-1) h
  unfold s_X12_who at h
  refine g_aload_n E gdX12_who_0 rfl 0 rfl ?_
  refine g_iload_n E gdX12_who_1 rfl 1 rfl ?_
  obtain ⟨r1, hc2, h⟩ := qB_of h
  refine g_Vi (r := r1) (As := [iv x1]) (rest := []) (w := wM g ad o) E (c_X12_isPerson l g ad o x1 r1 hc2) okm_X12_isPerson okw_X12_isPerson w_1851 rfl (wM_0 g ad o) rfl rfl (Nat.le_of_ble_eq_true rfl) ⟨Nat.le_of_ble_eq_true rfl, Nat.le_of_ble_eq_true rfl⟩ gdX12_who_2 ?_
  refine g_if_eq E 31 gdX12_who_5 (by decide) h (fun h => ?_) (fun h => ?_)
  ·
    refine g_sub E [] rfl ?_
    exact j31 o h
  ·
    refine g_iload_n E gdX12_who_8 rfl 2 rfl ?_
    refine g_iconst E gdX12_who_9 ?_
    refine g_iconst E gdX12_who_10 ?_
    obtain ⟨r3, hc4, h⟩ := qB_of h
    refine g_Si (r := r3) (As := [iv x2, iv 0, iv 3]) (rest := []) (w := wM g ad o) E (c_X12_in l g (wM g ad o) x2 0 3 r3 hc4) okm_X12_in w_1706 w_1705 rfl rfl (Nat.le_of_ble_eq_true rfl) ⟨Nat.le_of_ble_eq_true rfl, Nat.le_of_ble_eq_true rfl⟩ gdX12_who_11 ?_
    refine g_if_eq E 31 gdX12_who_14 (by decide) h (fun h => ?_) (fun h => ?_)
    ·
      refine g_sub E [] rfl ?_
      exact j31 o h
    ·
      refine g_aload_n E gdX12_who_17 rfl 0 rfl ?_
      refine g_aload_n E gdX12_who_18 rfl 0 rfl ?_
      refine g_iload_n E gdX12_who_19 rfl 1 rfl ?_
      refine g_iload_n E gdX12_who_20 rfl 2 rfl ?_
      obtain ⟨r5, hc6, h⟩ := qB_of h
      refine g_Vi (r := r5) (As := [iv x1, iv x2]) (rest := [.ref (ad 0)]) (w := wM g ad o) E (c_X12_personTells l g ad o x1 x2 r5 hc6) okm_X12_personTells okw_X12_personTells w_1855 rfl (wM_0 g ad o) rfl rfl (Nat.le_of_ble_eq_true rfl) ⟨Nat.le_of_ble_eq_true rfl, Nat.le_of_ble_eq_true rfl⟩ gdX12_who_21 ?_
      refine g_iconst E gdX12_who_24 ?_
      obtain ⟨r7, o9, hc8, h⟩ := qB2_of h
      refine g_Vi (r := r7) (As := [iv r5, iv 1]) (rest := []) (w := wM g ad o9) E (c_X12_ask l g ad o r5 1 (r7, o9) hc8) okm_X12_ask okw_X12_ask w_1835 rfl (wM_0 g ad o) rfl rfl (Nat.le_of_ble_eq_true rfl) ⟨Nat.le_of_ble_eq_true rfl, Nat.le_of_ble_eq_true rfl⟩ gdX12_who_25 ?_
      refine g_goto E 32 gdX12_who_28 (by decide) ?_
      refine g_sub E [] rfl ?_
      exact j32 o9 r7 h
set_option maxHeartbeats 4000000 in
set_option maxRecDepth 100000 in
theorem c_X12_why (l : Launch) (g : GG) (ad : Nat → Nat) (o : OO) (x1 : Int) (x2 : Int) (x3 : Int) (v : Int) (h : s_X12_why o x1 x2 x3 = some v) : CI l g yX12_why cX12_why 4 (some .int) 3 64 (wM g ad o) [.ref (ad 0), iv x1, iv x2, iv x3] v (wM g ad o) := by
  refine met_I (by decide) (Nat.le_of_ble_eq_true rfl) ?_
  intro X E hQ
  show Go X 0 (wM g ad o) [(0, .ref (ad 0)), (1, iv x1), (2, iv x2), (3, iv x3)] []
  have j20 : ∀ (y0 : Int), b_X12_why_20 o y0 = some v → Go X 20 (wM g ad o) [] [iv y0] := by
    intro y0 h
    unfold b_X12_why_20 at h
    exact g_iret E hQ (Option.some.inj h) rfl gdX12_why_20
  unfold s_X12_why at h
  refine g_iload_n E gdX12_why_0 rfl 1 rfl ?_
  refine g_iload_n E gdX12_why_1 rfl 2 rfl ?_
  refine g_iload_n E gdX12_why_2 rfl 3 rfl ?_
  obtain ⟨r1, hc2, h⟩ := qB_of h
  refine g_Si (r := r1) (As := [iv x1, iv x2, iv x3]) (rest := []) (w := wM g ad o) E (c_X12_isAsked l g (wM g ad o) x1 x2 x3 r1 hc2) okm_X12_isAsked w_1770 w_1769 rfl rfl (Nat.le_of_ble_eq_true rfl) ⟨Nat.le_of_ble_eq_true rfl, Nat.le_of_ble_eq_true rfl⟩ gdX12_why_3 ?_
  refine g_if_eq E 19 gdX12_why_6 (by decide) h (fun h => ?_) (fun h => ?_)
  ·
    refine g_iconst E gdX12_why_19 ?_
    refine g_sub E [] rfl ?_
    exact j20 (-1) h
  ·
    refine g_aload_n E gdX12_why_9 rfl 0 rfl ?_
    refine g_iload_n E gdX12_why_10 rfl 1 rfl ?_
    refine g_iload_n E gdX12_why_11 rfl 2 rfl ?_
    refine g_iload_n E gdX12_why_12 rfl 3 rfl ?_
    obtain ⟨r3, hc4, h⟩ := qB_of h
    refine g_Vi (r := r3) (As := [iv x1, iv x2, iv x3]) (rest := []) (w := wM g ad o) E (c_X12_ruleFor l g ad o x1 x2 x3 r3 hc4) okm_X12_ruleFor okw_X12_ruleFor w_1776 rfl (wM_0 g ad o) rfl rfl (Nat.le_of_ble_eq_true rfl) ⟨Nat.le_of_ble_eq_true rfl, Nat.le_of_ble_eq_true rfl⟩ gdX12_why_13 ?_
    refine g_goto E 20 gdX12_why_16 (by decide) ?_
    refine g_sub E [] rfl ?_
    exact j20 r3 h
set_option maxHeartbeats 4000000 in
set_option maxRecDepth 100000 in
theorem c_X12_worth (l : Launch) (g : GG) (ad : Nat → Nat) (o : OO) (x1 : Int) (x2 : Int) (v : Int × OO) (h : s_X12_worth o x1 x2 = some v) : CI l g yX12_worth cX12_worth 4 (some .int) 2 43 (wM g ad o) [.ref (ad 0), iv x1, iv x2] v.1 (wM g ad v.2) := by
  refine met_I (by decide) (Nat.le_of_ble_eq_true rfl) ?_
  intro X E hQ
  show Go X 0 (wM g ad o) [(0, .ref (ad 0)), (1, iv x1), (2, iv x2)] []
  have j15 : ∀ (o : OO), b_X12_worth_15 o = some v → Go X 15 (wM g ad o) [] [] := by
    intro o h
    unfold b_X12_worth_15 at h
    refine g_iconst E gdX12_worth_15 ?_
    exact g_iret E hQ (by rw [← Option.some.inj h]) (by rw [← Option.some.inj h]) gdX12_worth_16
  unfold s_X12_worth at h
  refine g_aload_n E gdX12_worth_0 rfl 0 rfl ?_
  refine g_iload_n E gdX12_worth_1 rfl 1 rfl ?_
  obtain ⟨r1, hc2, h⟩ := qB_of h
  refine g_Vi (r := r1) (As := [iv x1]) (rest := []) (w := wM g ad o) E (c_X12_isBuilding l g ad o x1 r1 hc2) okm_X12_isBuilding okw_X12_isBuilding w_1811 rfl (wM_0 g ad o) rfl rfl (Nat.le_of_ble_eq_true rfl) ⟨Nat.le_of_ble_eq_true rfl, Nat.le_of_ble_eq_true rfl⟩ gdX12_worth_2 ?_
  refine g_if_eq E 15 gdX12_worth_5 (by decide) h (fun h => ?_) (fun h => ?_)
  ·
    refine g_sub E [] rfl ?_
    exact j15 o h
  ·
    refine g_iload_n E gdX12_worth_8 rfl 2 rfl ?_
    obtain ⟨r3, hc4, h⟩ := qB_of h
    refine g_Si (r := r3) (As := [iv x2]) (rest := []) (w := wM g ad o) E (c_X12_isWorth l g (wM g ad o) x2 r3 hc4) okm_X12_isWorth w_1800 w_1799 rfl rfl (Nat.le_of_ble_eq_true rfl) ⟨Nat.le_of_ble_eq_true rfl, Nat.le_of_ble_eq_true rfl⟩ gdX12_worth_9 ?_
    refine g_if_ne E 17 gdX12_worth_12 (by decide) h (fun h => ?_) (fun h => ?_)
    ·
      refine g_aload_n E gdX12_worth_17 rfl 0 rfl ?_
      refine g_get (T := TX12) E fw_X12 0 (wM_0 g ad o) rfl 21 (by decide) w_1487 rfl rfl gdX12_worth_18 ?_
      refine g_iload_n E gdX12_worth_21 rfl 1 rfl ?_
      obtain ⟨hi5, h⟩ := qIn_of h
      refine g_zald E 16 (wM_16 g ad o) (by decide) hi5 gdX12_worth_22 ?_
      obtain ⟨n6, e_n6, h⟩ := qNm_of h
      refine g_nmi e_n6 ?_
      refine g_if_eq E 29 gdX12_worth_23 (by decide) h (fun h => ?_) (fun h => ?_)
      ·
        refine g_aload_n E gdX12_worth_29 rfl 0 rfl ?_
        refine g_get (T := TX12) E fw_X12 0 (wM_0 g ad o) rfl 23 (by decide) w_1489 rfl rfl gdX12_worth_30 ?_
        refine g_bipush E gdX12_worth_33 (by decide) ?_
        refine g_icmp_ne E 41 gdX12_worth_35 (by decide) h (fun h => ?_) (fun h => ?_)
        ·
          refine g_aload_n E gdX12_worth_41 rfl 0 rfl ?_
          refine g_iload_n E gdX12_worth_42 rfl 1 rfl ?_
          refine g_aload_n E gdX12_worth_43 rfl 0 rfl ?_
          refine g_get (T := TX12) E fw_X12 0 (wM_0 g ad o) rfl 4 (by decide) w_1470 rfl rfl gdX12_worth_44 ?_
          obtain ⟨r7, hc8, h⟩ := qB_of h
          refine g_Vi (r := r7) (As := [iv x1, iv (o.1 0 4)]) (rest := []) (w := wM g ad o) E (c_X12_valueOf l g ad o x1 (o.1 0 4) r7 hc8) okm_X12_valueOf okw_X12_valueOf w_1815 rfl (wM_0 g ad o) rfl rfl (Nat.le_of_ble_eq_true rfl) ⟨Nat.le_of_ble_eq_true rfl, Nat.le_of_ble_eq_true rfl⟩ gdX12_worth_47 ?_
          refine g_istore_n E [(3, iv r7), (0, .ref (ad 0)), (1, iv x1), (2, iv x2)] gdX12_worth_50 rfl (by decide) rfl ?_
          refine g_aload_n E gdX12_worth_51 rfl 1 rfl ?_
          refine g_iload_n E gdX12_worth_52 rfl 2 rfl ?_
          refine g_iload_n E gdX12_worth_53 rfl 3 rfl ?_
          obtain ⟨o11, hc10, h⟩ := qB_of h
          refine g_Vv (As := [iv x1, iv x2]) (rest := []) (w := wM g ad o11) E (c_X12_tell l g ad o x1 x2 o11 hc10) okm_X12_tell okw_X12_tell w_1803 rfl (wM_0 g ad o) rfl rfl (Nat.le_of_ble_eq_true rfl) ⟨Nat.le_of_ble_eq_true rfl, Nat.le_of_ble_eq_true rfl⟩ gdX12_worth_54 ?_
          refine g_iload_n E gdX12_worth_57 rfl 0 rfl ?_
          exact g_iret E hQ (by rw [← Option.some.inj h]) (by rw [← Option.some.inj h]) gdX12_worth_58
        ·
          refine g_bipush E gdX12_worth_38 (by decide) ?_
          exact g_iret E hQ (by rw [← Option.some.inj h]) (by rw [← Option.some.inj h]) gdX12_worth_40
      ·
        refine g_bipush E gdX12_worth_26 (by decide) ?_
        exact g_iret E hQ (by rw [← Option.some.inj h]) (by rw [← Option.some.inj h]) gdX12_worth_28
    ·
      refine g_sub E [] rfl ?_
      exact j15 o h
