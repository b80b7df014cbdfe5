set_option maxRecDepth 200000 in
theorem q_119 : Cond.methodLink "CityRoad$Shelf" 1 objectInit ∈ tb := tb_mem 119 (by decide +kernel) rfl
set_option maxRecDepth 200000 in
theorem q_112 : Cond.instanceMethod objectInit ∈ tb := tb_mem 112 (by decide +kernel) rfl
set_option maxRecDepth 200000 in
theorem q_113 : Cond.code objectInit ⟨#[0xb1]⟩ 1 none ∈ tb := tb_mem 113 (by rfl) rfl
set_option maxRecDepth 200000 in
theorem q_139 : Cond.arrayClass .int ∈ tb := tb_mem 139 (by decide +kernel) rfl
set_option maxRecDepth 200000 in
theorem q_129 : Cond.fieldLink "CityRoad$Shelf" 13 "CityRoad$Shelf" "places" "[I" ∈ tb := tb_mem 129 (by decide +kernel) rfl
set_option maxRecDepth 200000 in
theorem q_120 : Cond.methodLink "CityRoad$Shelf" 16 Lib.Math.min.name ∈ tb := tb_mem 120 (by decide +kernel) rfl
set_option maxRecDepth 200000 in
theorem q_121 : Cond.static Lib.Math.min.name ∈ tb := tb_mem 121 (by decide +kernel) rfl
set_option maxRecDepth 200000 in
theorem q_91 : Cond.initialized "java/lang/Math" ∈ tb := tb_mem 91 (by decide +kernel) rfl
set_option maxRecDepth 200000 in
theorem q_122 : Cond.code Lib.Math.min.name Lib.Math.min.code 2 (some .int) ∈ tb := tb_mem 122 (by rfl) rfl
set_option maxRecDepth 200000 in
theorem q_127 : Cond.fieldLink "CityRoad$Shelf" 26 "CityRoad$Shelf" "blank" "I" ∈ tb := tb_mem 127 (by decide +kernel) rfl
set_option maxRecDepth 200000 in
theorem q_125 : Cond.code yJ7_fill_53178 cJ7_fill_53178 4 none ∈ tb := tb_mem 125 (by rfl) rfl
set_option maxRecDepth 200000 in
theorem q_124 : Cond.static yJ7_fill_53178 ∈ tb := tb_mem 124 (by decide +kernel) rfl
set_option maxRecDepth 200000 in
theorem q_123 : Cond.methodLink "CityRoad$Shelf" 29 yJ7_fill_53178 ∈ tb := tb_mem 123 (by decide +kernel) rfl
set_option maxRecDepth 200000 in
theorem q_145 : Cond.methodLink "CityRoad$Ground" 3 objectInit ∈ tb := tb_mem 145 (by decide +kernel) rfl
set_option maxRecDepth 200000 in
theorem q_158 : Cond.methodLink "CityRoad$Buildings" 3 objectInit ∈ tb := tb_mem 158 (by decide +kernel) rfl
set_option maxRecDepth 200000 in
theorem q_160 : Cond.fieldLink "CityRoad$Buildings" 11 "CityRoad$Buildings" "cells" "[I" ∈ tb := tb_mem 160 (by decide +kernel) rfl
set_option maxRecDepth 200000 in
theorem q_161 : Cond.fieldLink "CityRoad$Buildings" 15 "CityRoad$Buildings" "uses" "[I" ∈ tb := tb_mem 161 (by decide +kernel) rfl
set_option maxRecDepth 200000 in
theorem q_162 : Cond.fieldLink "CityRoad$Buildings" 18 "CityRoad$Buildings" "rooms" "[I" ∈ tb := tb_mem 162 (by decide +kernel) rfl
set_option maxRecDepth 200000 in
theorem q_163 : Cond.fieldLink "CityRoad$Buildings" 21 "CityRoad$Buildings" "dwellers" "[I" ∈ tb := tb_mem 163 (by decide +kernel) rfl
set_option maxRecDepth 200000 in
theorem q_164 : Cond.fieldLink "CityRoad$Buildings" 24 "CityRoad$Buildings" "buyers" "[I" ∈ tb := tb_mem 164 (by decide +kernel) rfl
set_option maxRecDepth 200000 in
theorem q_165 : Cond.fieldLink "CityRoad$Buildings" 27 "CityRoad$Buildings" "worths" "[I" ∈ tb := tb_mem 165 (by decide +kernel) rfl
set_option maxRecDepth 200000 in
theorem q_203 : Cond.arrayClass .boolean ∈ tb := tb_mem 203 (by decide +kernel) rfl
set_option maxRecDepth 200000 in
theorem q_166 : Cond.fieldLink "CityRoad$Buildings" 30 "CityRoad$Buildings" "taken" "[Z" ∈ tb := tb_mem 166 (by decide +kernel) rfl
set_option maxRecDepth 200000 in
theorem q_168 : Cond.fieldLink "CityRoad$Buildings" 39 "CityRoad$Buildings" "toldOf" "[I" ∈ tb := tb_mem 168 (by decide +kernel) rfl
set_option maxRecDepth 200000 in
theorem q_169 : Cond.fieldLink "CityRoad$Buildings" 42 "CityRoad$Buildings" "toldDays" "[I" ∈ tb := tb_mem 169 (by decide +kernel) rfl
set_option maxRecDepth 200000 in
theorem q_170 : Cond.fieldLink "CityRoad$Buildings" 45 "CityRoad$Buildings" "toldWorths" "[I" ∈ tb := tb_mem 170 (by decide +kernel) rfl
set_option maxRecDepth 200000 in
theorem q_171 : Cond.fieldLink "CityRoad$Buildings" 48 "CityRoad$Buildings" "walkers" "[I" ∈ tb := tb_mem 171 (by decide +kernel) rfl
set_option maxRecDepth 200000 in
theorem q_159 : Cond.methodLink "CityRoad$Buildings" 51 yJ7_fill_53178 ∈ tb := tb_mem 159 (by decide +kernel) rfl
set_option maxRecDepth 200000 in
theorem q_209 : Cond.methodLink "CityRoad$Persons" 3 objectInit ∈ tb := tb_mem 209 (by decide +kernel) rfl
set_option maxRecDepth 200000 in
theorem q_231 : Cond.methodLink "CityRoad$Rules" 3 objectInit ∈ tb := tb_mem 231 (by decide +kernel) rfl
set_option maxRecDepth 200000 in
theorem q_232 : Cond.fieldLink "CityRoad$Rules" 11 "CityRoad$Rules" "toldDays" "[I" ∈ tb := tb_mem 232 (by decide +kernel) rfl
set_option maxRecDepth 200000 in
theorem q_233 : Cond.fieldLink "CityRoad$Rules" 15 "CityRoad$Rules" "fromDays" "[I" ∈ tb := tb_mem 233 (by decide +kernel) rfl
set_option maxRecDepth 200000 in
theorem q_234 : Cond.fieldLink "CityRoad$Rules" 18 "CityRoad$Rules" "values" "[I" ∈ tb := tb_mem 234 (by decide +kernel) rfl
set_option maxRecDepth 200000 in
theorem q_250 : Cond.methodLink "CityRoad$Marks" 3 objectInit ∈ tb := tb_mem 250 (by decide +kernel) rfl
set_option maxRecDepth 200000 in
theorem q_254 : Cond.fieldLink "CityRoad$Marks" 21 "CityRoad$Marks" "lengths" "[I" ∈ tb := tb_mem 254 (by decide +kernel) rfl
set_option maxRecDepth 200000 in
theorem q_255 : Cond.fieldLink "CityRoad$Marks" 26 "CityRoad$Marks" "routes" "[I" ∈ tb := tb_mem 255 (by decide +kernel) rfl
set_option maxRecDepth 200000 in
theorem q_294 : Cond.arrayClass .long ∈ tb := tb_mem 294 (by decide +kernel) rfl
set_option maxRecDepth 200000 in
theorem q_256 : Cond.fieldLink "CityRoad$Marks" 29 "CityRoad$Marks" "sets" "[J" ∈ tb := tb_mem 256 (by decide +kernel) rfl
set_option maxRecDepth 200000 in
theorem q_257 : Cond.fieldLink "CityRoad$Marks" 33 "CityRoad$Marks" "costs" "[I" ∈ tb := tb_mem 257 (by decide +kernel) rfl
set_option maxRecDepth 200000 in
theorem q_259 : Cond.fieldLink "CityRoad$Marks" 39 "CityRoad$Marks" "amounts" "[I" ∈ tb := tb_mem 259 (by decide +kernel) rfl
set_option maxRecDepth 200000 in
theorem q_260 : Cond.fieldLink "CityRoad$Marks" 42 "CityRoad$Marks" "parties" "[I" ∈ tb := tb_mem 260 (by decide +kernel) rfl
set_option maxRecDepth 200000 in
theorem q_261 : Cond.fieldLink "CityRoad$Marks" 45 "CityRoad$Marks" "dates" "[I" ∈ tb := tb_mem 261 (by decide +kernel) rfl
set_option maxRecDepth 200000 in
theorem q_262 : Cond.fieldLink "CityRoad$Marks" 48 "CityRoad$Marks" "hours" "[I" ∈ tb := tb_mem 262 (by decide +kernel) rfl
set_option maxRecDepth 200000 in
theorem q_263 : Cond.fieldLink "CityRoad$Marks" 51 "CityRoad$Marks" "turnedOut" "[J" ∈ tb := tb_mem 263 (by decide +kernel) rfl
set_option maxRecDepth 200000 in
theorem q_300 : Cond.methodLink "CityRoad$Dealings" 3 objectInit ∈ tb := tb_mem 300 (by decide +kernel) rfl
set_option maxRecDepth 200000 in
theorem q_301 : Cond.fieldLink "CityRoad$Dealings" 11 "CityRoad$Dealings" "boughts" "[I" ∈ tb := tb_mem 301 (by decide +kernel) rfl
set_option maxRecDepth 200000 in
theorem q_302 : Cond.fieldLink "CityRoad$Dealings" 15 "CityRoad$Dealings" "buyers" "[I" ∈ tb := tb_mem 302 (by decide +kernel) rfl
set_option maxRecDepth 200000 in
theorem q_303 : Cond.fieldLink "CityRoad$Dealings" 18 "CityRoad$Dealings" "buyDays" "[I" ∈ tb := tb_mem 303 (by decide +kernel) rfl
set_option maxRecDepth 200000 in
theorem q_304 : Cond.fieldLink "CityRoad$Dealings" 21 "CityRoad$Dealings" "hearers" "[I" ∈ tb := tb_mem 304 (by decide +kernel) rfl
set_option maxRecDepth 200000 in
theorem q_305 : Cond.fieldLink "CityRoad$Dealings" 24 "CityRoad$Dealings" "lines" "[I" ∈ tb := tb_mem 305 (by decide +kernel) rfl
set_option maxRecDepth 200000 in
theorem q_306 : Cond.fieldLink "CityRoad$Dealings" 27 "CityRoad$Dealings" "heardDays" "[I" ∈ tb := tb_mem 306 (by decide +kernel) rfl
set_option maxRecDepth 200000 in
theorem q_331 : Cond.methodLink "CityRoad$WaySearch" 3 objectInit ∈ tb := tb_mem 331 (by decide +kernel) rfl
set_option maxRecDepth 200000 in
theorem q_332 : Cond.fieldLink "CityRoad$WaySearch" 11 "CityRoad$WaySearch" "prices" "[I" ∈ tb := tb_mem 332 (by decide +kernel) rfl
set_option maxRecDepth 200000 in
theorem q_334 : Cond.fieldLink "CityRoad$WaySearch" 17 "CityRoad$WaySearch" "path" "[I" ∈ tb := tb_mem 334 (by decide +kernel) rfl
set_option maxRecDepth 200000 in
theorem q_340 : Cond.fieldLink "CityRoad$WaySearch" 20 "CityRoad$WaySearch" "byWay" "[I" ∈ tb := tb_mem 340 (by decide +kernel) rfl
set_option maxRecDepth 200000 in
theorem q_341 : Cond.fieldLink "CityRoad$WaySearch" 23 "CityRoad$WaySearch" "least" "[I" ∈ tb := tb_mem 341 (by decide +kernel) rfl
set_option maxRecDepth 200000 in
theorem q_342 : Cond.fieldLink "CityRoad$WaySearch" 26 "CityRoad$WaySearch" "queue" "[I" ∈ tb := tb_mem 342 (by decide +kernel) rfl
set_option maxRecDepth 200000 in
theorem q_375 : Cond.methodLink "CityRoad$Rehousing" 5 objectInit ∈ tb := tb_mem 375 (by decide +kernel) rfl
set_option maxRecDepth 200000 in
theorem q_380 : Cond.fieldLink "CityRoad$Rehousing" 15 "CityRoad$Rehousing" "prices" "[I" ∈ tb := tb_mem 380 (by decide +kernel) rfl
set_option maxRecDepth 200000 in
theorem q_381 : Cond.fieldLink "CityRoad$Rehousing" 19 "CityRoad$Rehousing" "left" "[I" ∈ tb := tb_mem 381 (by decide +kernel) rfl
set_option maxRecDepth 200000 in
theorem q_382 : Cond.fieldLink "CityRoad$Rehousing" 22 "CityRoad$Rehousing" "cells" "[I" ∈ tb := tb_mem 382 (by decide +kernel) rfl
set_option maxRecDepth 200000 in
theorem q_383 : Cond.fieldLink "CityRoad$Rehousing" 25 "CityRoad$Rehousing" "at" "[I" ∈ tb := tb_mem 383 (by decide +kernel) rfl
set_option maxRecDepth 200000 in
theorem q_384 : Cond.fieldLink "CityRoad$Rehousing" 28 "CityRoad$Rehousing" "least" "[I" ∈ tb := tb_mem 384 (by decide +kernel) rfl
set_option maxRecDepth 200000 in
theorem q_385 : Cond.fieldLink "CityRoad$Rehousing" 31 "CityRoad$Rehousing" "comer" "[I" ∈ tb := tb_mem 385 (by decide +kernel) rfl
set_option maxRecDepth 200000 in
theorem q_411 : Cond.methodLink "CityRoad$Acts" 3 objectInit ∈ tb := tb_mem 411 (by decide +kernel) rfl
set_option maxRecDepth 200000 in
theorem q_416 : Cond.fieldLink "CityRoad$Acts" 11 "CityRoad$Acts" "ends" "[I" ∈ tb := tb_mem 416 (by decide +kernel) rfl
set_option maxRecDepth 200000 in
theorem q_417 : Cond.fieldLink "CityRoad$Acts" 15 "CityRoad$Acts" "latest" "[I" ∈ tb := tb_mem 417 (by decide +kernel) rfl
set_option maxRecDepth 200000 in
theorem q_418 : Cond.fieldLink "CityRoad$Acts" 18 "CityRoad$Acts" "drawn" "[I" ∈ tb := tb_mem 418 (by decide +kernel) rfl
set_option maxRecDepth 200000 in
theorem q_419 : Cond.fieldLink "CityRoad$Acts" 21 "CityRoad$Acts" "order" "[I" ∈ tb := tb_mem 419 (by decide +kernel) rfl
set_option maxRecDepth 200000 in
theorem q_438 : Cond.methodLink "CityRoad$Stopper" 5 objectInit ∈ tb := tb_mem 438 (by decide +kernel) rfl
set_option maxRecDepth 200000 in
theorem q_439 : Cond.fieldLink "CityRoad$Stopper" 11 "CityRoad$Stopper" "open" "[J" ∈ tb := tb_mem 439 (by decide +kernel) rfl
set_option maxRecDepth 200000 in
theorem q_440 : Cond.fieldLink "CityRoad$Stopper" 17 "CityRoad$Stopper" "before" "[I" ∈ tb := tb_mem 440 (by decide +kernel) rfl
set_option maxRecDepth 200000 in
theorem q_441 : Cond.fieldLink "CityRoad$Stopper" 21 "CityRoad$Stopper" "queue" "[I" ∈ tb := tb_mem 441 (by decide +kernel) rfl
set_option maxRecDepth 200000 in
theorem q_442 : Cond.fieldLink "CityRoad$Stopper" 24 "CityRoad$Stopper" "through" "[I" ∈ tb := tb_mem 442 (by decide +kernel) rfl
set_option maxRecDepth 200000 in
theorem q_443 : Cond.fieldLink "CityRoad$Stopper" 27 "CityRoad$Stopper" "along" "[I" ∈ tb := tb_mem 443 (by decide +kernel) rfl
theorem dX8_init_0 : decode cX8_init 0 = .ok (.aload_n 0, 1) := by decide +kernel
theorem dX8_init_1 : decode cX8_init 1 = .ok (.invokespecial 1, 3) := by decide +kernel
theorem dX8_init_4 : decode cX8_init 4 = .ok (.aload_n 0, 1) := by decide +kernel
theorem dX8_init_5 : decode cX8_init 5 = .ok (.bipush 6, 2) := by decide +kernel
theorem dX8_init_7 : decode cX8_init 7 = .ok (.newarray .int, 2) := by decide +kernel
theorem dX8_init_9 : decode cX8_init 9 = .ok (.putfield 9, 3) := by decide +kernel
theorem dX8_init_12 : decode cX8_init 12 = .ok (.aload_n 0, 1) := by decide +kernel
theorem dX8_init_13 : decode cX8_init 13 = .ok (.sipush 240, 3) := by decide +kernel
theorem dX8_init_16 : decode cX8_init 16 = .ok (.newarray .int, 2) := by decide +kernel
theorem dX8_init_18 : decode cX8_init 18 = .ok (.putfield 13, 3) := by decide +kernel
theorem dX8_init_21 : decode cX8_init 21 = .ok (.aload_n 0, 1) := by decide +kernel
theorem dX8_init_22 : decode cX8_init 22 = .ok (.iload_n 1, 1) := by decide +kernel
theorem dX8_init_23 : decode cX8_init 23 = .ok (.bipush 6, 2) := by decide +kernel
theorem dX8_init_25 : decode cX8_init 25 = .ok (.invokestatic 16, 3) := by decide +kernel
theorem dX8_init_28 : decode cX8_init 28 = .ok (.putfield 22, 3) := by decide +kernel
theorem dX8_init_31 : decode cX8_init 31 = .ok (.aload_n 0, 1) := by decide +kernel
theorem dX8_init_32 : decode cX8_init 32 = .ok (.iload_n 2, 1) := by decide +kernel
theorem dX8_init_33 : decode cX8_init 33 = .ok (.putfield 26, 3) := by decide +kernel
theorem dX8_init_36 : decode cX8_init 36 = .ok (.aload_n 0, 1) := by decide +kernel
theorem dX8_init_37 : decode cX8_init 37 = .ok (.getfield 9, 3) := by decide +kernel
theorem dX8_init_40 : decode cX8_init 40 = .ok (.iconst (-1), 1) := by decide +kernel
theorem dX8_init_41 : decode cX8_init 41 = .ok (.invokestatic 29, 3) := by decide +kernel
theorem dX8_init_44 : decode cX8_init 44 = .ok (.return_, 1) := by decide +kernel
theorem dX3_init_0 : decode cX3_init 0 = .ok (.aload_n 0, 1) := by decide +kernel
theorem dX3_init_1 : decode cX3_init 1 = .ok (.invokespecial 3, 3) := by decide +kernel
theorem dX3_init_4 : decode cX3_init 4 = .ok (.aload_n 0, 1) := by decide +kernel
theorem dX3_init_5 : decode cX3_init 5 = .ok (.bipush 64, 2) := by decide +kernel
theorem dX3_init_7 : decode cX3_init 7 = .ok (.newarray .int, 2) := by decide +kernel
theorem dX3_init_9 : decode cX3_init 9 = .ok (.putfield 11, 3) := by decide +kernel
theorem dX3_init_12 : decode cX3_init 12 = .ok (.aload_n 0, 1) := by decide +kernel
theorem dX3_init_13 : decode cX3_init 13 = .ok (.bipush 64, 2) := by decide +kernel
theorem dX3_init_15 : decode cX3_init 15 = .ok (.newarray .int, 2) := by decide +kernel
theorem dX3_init_17 : decode cX3_init 17 = .ok (.putfield 15, 3) := by decide +kernel
theorem dX3_init_20 : decode cX3_init 20 = .ok (.return_, 1) := by decide +kernel
theorem dX1_init_0 : decode cX1_init 0 = .ok (.aload_n 0, 1) := by decide +kernel
theorem dX1_init_1 : decode cX1_init 1 = .ok (.invokespecial 3, 3) := by decide +kernel
theorem dX1_init_4 : decode cX1_init 4 = .ok (.aload_n 0, 1) := by decide +kernel
theorem dX1_init_5 : decode cX1_init 5 = .ok (.bipush 32, 2) := by decide +kernel
theorem dX1_init_7 : decode cX1_init 7 = .ok (.newarray .int, 2) := by decide +kernel
theorem dX1_init_9 : decode cX1_init 9 = .ok (.putfield 11, 3) := by decide +kernel
theorem dX1_init_12 : decode cX1_init 12 = .ok (.aload_n 0, 1) := by decide +kernel
theorem dX1_init_13 : decode cX1_init 13 = .ok (.bipush 32, 2) := by decide +kernel
theorem dX1_init_15 : decode cX1_init 15 = .ok (.newarray .int, 2) := by decide +kernel
theorem dX1_init_17 : decode cX1_init 17 = .ok (.putfield 15, 3) := by decide +kernel
theorem dX1_init_20 : decode cX1_init 20 = .ok (.aload_n 0, 1) := by decide +kernel
theorem dX1_init_21 : decode cX1_init 21 = .ok (.bipush 32, 2) := by decide +kernel
theorem dX1_init_23 : decode cX1_init 23 = .ok (.newarray .int, 2) := by decide +kernel
theorem dX1_init_25 : decode cX1_init 25 = .ok (.putfield 18, 3) := by decide +kernel
theorem dX1_init_28 : decode cX1_init 28 = .ok (.aload_n 0, 1) := by decide +kernel
theorem dX1_init_29 : decode cX1_init 29 = .ok (.bipush 32, 2) := by decide +kernel
theorem dX1_init_31 : decode cX1_init 31 = .ok (.newarray .int, 2) := by decide +kernel
theorem dX1_init_33 : decode cX1_init 33 = .ok (.putfield 21, 3) := by decide +kernel
theorem dX1_init_36 : decode cX1_init 36 = .ok (.aload_n 0, 1) := by decide +kernel
theorem dX1_init_37 : decode cX1_init 37 = .ok (.bipush 32, 2) := by decide +kernel
theorem dX1_init_39 : decode cX1_init 39 = .ok (.newarray .int, 2) := by decide +kernel
theorem dX1_init_41 : decode cX1_init 41 = .ok (.putfield 24, 3) := by decide +kernel
theorem dX1_init_44 : decode cX1_init 44 = .ok (.aload_n 0, 1) := by decide +kernel
theorem dX1_init_45 : decode cX1_init 45 = .ok (.bipush 32, 2) := by decide +kernel
theorem dX1_init_47 : decode cX1_init 47 = .ok (.newarray .int, 2) := by decide +kernel
theorem dX1_init_49 : decode cX1_init 49 = .ok (.putfield 27, 3) := by decide +kernel
theorem dX1_init_52 : decode cX1_init 52 = .ok (.aload_n 0, 1) := by decide +kernel
theorem dX1_init_53 : decode cX1_init 53 = .ok (.bipush 32, 2) := by decide +kernel
theorem dX1_init_55 : decode cX1_init 55 = .ok (.newarray .boolean, 2) := by decide +kernel
theorem dX1_init_57 : decode cX1_init 57 = .ok (.putfield 30, 3) := by decide +kernel
theorem dX1_init_60 : decode cX1_init 60 = .ok (.aload_n 0, 1) := by decide +kernel
theorem dX1_init_61 : decode cX1_init 61 = .ok (.bipush 64, 2) := by decide +kernel
theorem dX1_init_63 : decode cX1_init 63 = .ok (.newarray .int, 2) := by decide +kernel
theorem dX1_init_65 : decode cX1_init 65 = .ok (.putfield 36, 3) := by decide +kernel
theorem dX1_init_68 : decode cX1_init 68 = .ok (.aload_n 0, 1) := by decide +kernel
theorem dX1_init_69 : decode cX1_init 69 = .ok (.bipush 100, 2) := by decide +kernel
theorem dX1_init_71 : decode cX1_init 71 = .ok (.newarray .int, 2) := by decide +kernel
theorem dX1_init_73 : decode cX1_init 73 = .ok (.putfield 39, 3) := by decide +kernel
theorem dX1_init_76 : decode cX1_init 76 = .ok (.aload_n 0, 1) := by decide +kernel
theorem dX1_init_77 : decode cX1_init 77 = .ok (.bipush 100, 2) := by decide +kernel
theorem dX1_init_79 : decode cX1_init 79 = .ok (.newarray .int, 2) := by decide +kernel
theorem dX1_init_81 : decode cX1_init 81 = .ok (.putfield 42, 3) := by decide +kernel
theorem dX1_init_84 : decode cX1_init 84 = .ok (.aload_n 0, 1) := by decide +kernel
theorem dX1_init_85 : decode cX1_init 85 = .ok (.bipush 100, 2) := by decide +kernel
theorem dX1_init_87 : decode cX1_init 87 = .ok (.newarray .int, 2) := by decide +kernel
theorem dX1_init_89 : decode cX1_init 89 = .ok (.putfield 45, 3) := by decide +kernel
theorem dX1_init_92 : decode cX1_init 92 = .ok (.aload_n 0, 1) := by decide +kernel
theorem dX1_init_93 : decode cX1_init 93 = .ok (.bipush 32, 2) := by decide +kernel
theorem dX1_init_95 : decode cX1_init 95 = .ok (.newarray .int, 2) := by decide +kernel
theorem dX1_init_97 : decode cX1_init 97 = .ok (.putfield 48, 3) := by decide +kernel
theorem dX1_init_100 : decode cX1_init 100 = .ok (.aload_n 0, 1) := by decide +kernel
theorem dX1_init_101 : decode cX1_init 101 = .ok (.getfield 36, 3) := by decide +kernel
theorem dX1_init_104 : decode cX1_init 104 = .ok (.bipush (-9), 2) := by decide +kernel
theorem dX1_init_106 : decode cX1_init 106 = .ok (.invokestatic 51, 3) := by decide +kernel
theorem dX1_init_109 : decode cX1_init 109 = .ok (.return_, 1) := by decide +kernel
theorem dX5_init_0 : decode cX5_init 0 = .ok (.aload_n 0, 1) := by decide +kernel
theorem dX5_init_1 : decode cX5_init 1 = .ok (.invokespecial 3, 3) := by decide +kernel
theorem dX5_init_4 : decode cX5_init 4 = .ok (.aload_n 0, 1) := by decide +kernel
theorem dX5_init_5 : decode cX5_init 5 = .ok (.bipush 40, 2) := by decide +kernel
theorem dX5_init_7 : decode cX5_init 7 = .ok (.newarray .int, 2) := by decide +kernel
theorem dX5_init_9 : decode cX5_init 9 = .ok (.putfield 11, 3) := by decide +kernel
theorem dX5_init_12 : decode cX5_init 12 = .ok (.aload_n 0, 1) := by decide +kernel
theorem dX5_init_13 : decode cX5_init 13 = .ok (.bipush 40, 2) := by decide +kernel
theorem dX5_init_15 : decode cX5_init 15 = .ok (.newarray .int, 2) := by decide +kernel
theorem dX5_init_17 : decode cX5_init 17 = .ok (.putfield 15, 3) := by decide +kernel
theorem dX5_init_20 : decode cX5_init 20 = .ok (.aload_n 0, 1) := by decide +kernel
theorem dX5_init_21 : decode cX5_init 21 = .ok (.bipush 40, 2) := by decide +kernel
theorem dX5_init_23 : decode cX5_init 23 = .ok (.newarray .boolean, 2) := by decide +kernel
theorem dX5_init_25 : decode cX5_init 25 = .ok (.putfield 18, 3) := by decide +kernel
theorem dX5_init_28 : decode cX5_init 28 = .ok (.aload_n 0, 1) := by decide +kernel
theorem dX5_init_29 : decode cX5_init 29 = .ok (.bipush 40, 2) := by decide +kernel
theorem dX5_init_31 : decode cX5_init 31 = .ok (.newarray .int, 2) := by decide +kernel
theorem dX5_init_33 : decode cX5_init 33 = .ok (.putfield 22, 3) := by decide +kernel
theorem dX5_init_36 : decode cX5_init 36 = .ok (.return_, 1) := by decide +kernel
theorem dX7_init_0 : decode cX7_init 0 = .ok (.aload_n 0, 1) := by decide +kernel
theorem dX7_init_1 : decode cX7_init 1 = .ok (.invokespecial 3, 3) := by decide +kernel
theorem dX7_init_4 : decode cX7_init 4 = .ok (.aload_n 0, 1) := by decide +kernel
theorem dX7_init_5 : decode cX7_init 5 = .ok (.bipush 16, 2) := by decide +kernel
theorem dX7_init_7 : decode cX7_init 7 = .ok (.newarray .int, 2) := by decide +kernel
theorem dX7_init_9 : decode cX7_init 9 = .ok (.putfield 11, 3) := by decide +kernel
theorem dX7_init_12 : decode cX7_init 12 = .ok (.aload_n 0, 1) := by decide +kernel
theorem dX7_init_13 : decode cX7_init 13 = .ok (.bipush 16, 2) := by decide +kernel
theorem dX7_init_15 : decode cX7_init 15 = .ok (.newarray .int, 2) := by decide +kernel
theorem dX7_init_17 : decode cX7_init 17 = .ok (.putfield 15, 3) := by decide +kernel
theorem dX7_init_20 : decode cX7_init 20 = .ok (.aload_n 0, 1) := by decide +kernel
theorem dX7_init_21 : decode cX7_init 21 = .ok (.sipush 128, 3) := by decide +kernel
theorem dX7_init_24 : decode cX7_init 24 = .ok (.newarray .int, 2) := by decide +kernel
theorem dX7_init_26 : decode cX7_init 26 = .ok (.putfield 18, 3) := by decide +kernel
theorem dX7_init_29 : decode cX7_init 29 = .ok (.return_, 1) := by decide +kernel
theorem dX4_init_0 : decode cX4_init 0 = .ok (.aload_n 0, 1) := by decide +kernel
theorem dX4_init_1 : decode cX4_init 1 = .ok (.invokespecial 3, 3) := by decide +kernel
theorem dX4_init_4 : decode cX4_init 4 = .ok (.aload_n 0, 1) := by decide +kernel
theorem dX4_init_5 : decode cX4_init 5 = .ok (.bipush 24, 2) := by decide +kernel
theorem dX4_init_7 : decode cX4_init 7 = .ok (.newarray .int, 2) := by decide +kernel
theorem dX4_init_9 : decode cX4_init 9 = .ok (.putfield 11, 3) := by decide +kernel
theorem dX4_init_12 : decode cX4_init 12 = .ok (.aload_n 0, 1) := by decide +kernel
theorem dX4_init_13 : decode cX4_init 13 = .ok (.bipush 24, 2) := by decide +kernel
theorem dX4_init_15 : decode cX4_init 15 = .ok (.newarray .int, 2) := by decide +kernel
theorem dX4_init_17 : decode cX4_init 17 = .ok (.putfield 15, 3) := by decide +kernel
theorem dX4_init_20 : decode cX4_init 20 = .ok (.aload_n 0, 1) := by decide +kernel
theorem dX4_init_21 : decode cX4_init 21 = .ok (.bipush 24, 2) := by decide +kernel
theorem dX4_init_23 : decode cX4_init 23 = .ok (.newarray .int, 2) := by decide +kernel
theorem dX4_init_25 : decode cX4_init 25 = .ok (.putfield 18, 3) := by decide +kernel
theorem dX4_init_28 : decode cX4_init 28 = .ok (.aload_n 0, 1) := by decide +kernel
theorem dX4_init_29 : decode cX4_init 29 = .ok (.bipush 24, 2) := by decide +kernel
theorem dX4_init_31 : decode cX4_init 31 = .ok (.newarray .int, 2) := by decide +kernel
theorem dX4_init_33 : decode cX4_init 33 = .ok (.putfield 21, 3) := by decide +kernel
theorem dX4_init_36 : decode cX4_init 36 = .ok (.aload_n 0, 1) := by decide +kernel
theorem dX4_init_37 : decode cX4_init 37 = .ok (.sipush 1536, 3) := by decide +kernel
theorem dX4_init_40 : decode cX4_init 40 = .ok (.newarray .int, 2) := by decide +kernel
theorem dX4_init_42 : decode cX4_init 42 = .ok (.putfield 26, 3) := by decide +kernel
theorem dX4_init_45 : decode cX4_init 45 = .ok (.aload_n 0, 1) := by decide +kernel
theorem dX4_init_46 : decode cX4_init 46 = .ok (.bipush 24, 2) := by decide +kernel
theorem dX4_init_48 : decode cX4_init 48 = .ok (.newarray .long, 2) := by decide +kernel
theorem dX4_init_50 : decode cX4_init 50 = .ok (.putfield 29, 3) := by decide +kernel
theorem dX4_init_53 : decode cX4_init 53 = .ok (.aload_n 0, 1) := by decide +kernel
theorem dX4_init_54 : decode cX4_init 54 = .ok (.bipush 24, 2) := by decide +kernel
theorem dX4_init_56 : decode cX4_init 56 = .ok (.newarray .int, 2) := by decide +kernel
theorem dX4_init_58 : decode cX4_init 58 = .ok (.putfield 33, 3) := by decide +kernel
theorem dX4_init_61 : decode cX4_init 61 = .ok (.aload_n 0, 1) := by decide +kernel
theorem dX4_init_62 : decode cX4_init 62 = .ok (.bipush 24, 2) := by decide +kernel
theorem dX4_init_64 : decode cX4_init 64 = .ok (.newarray .int, 2) := by decide +kernel
theorem dX4_init_66 : decode cX4_init 66 = .ok (.putfield 36, 3) := by decide +kernel
theorem dX4_init_69 : decode cX4_init 69 = .ok (.aload_n 0, 1) := by decide +kernel
theorem dX4_init_70 : decode cX4_init 70 = .ok (.bipush 24, 2) := by decide +kernel
theorem dX4_init_72 : decode cX4_init 72 = .ok (.newarray .int, 2) := by decide +kernel
theorem dX4_init_74 : decode cX4_init 74 = .ok (.putfield 39, 3) := by decide +kernel
theorem dX4_init_77 : decode cX4_init 77 = .ok (.aload_n 0, 1) := by decide +kernel
theorem dX4_init_78 : decode cX4_init 78 = .ok (.bipush 24, 2) := by decide +kernel
theorem dX4_init_80 : decode cX4_init 80 = .ok (.newarray .int, 2) := by decide +kernel
theorem dX4_init_82 : decode cX4_init 82 = .ok (.putfield 42, 3) := by decide +kernel
theorem dX4_init_85 : decode cX4_init 85 = .ok (.aload_n 0, 1) := by decide +kernel
theorem dX4_init_86 : decode cX4_init 86 = .ok (.bipush 24, 2) := by decide +kernel
theorem dX4_init_88 : decode cX4_init 88 = .ok (.newarray .int, 2) := by decide +kernel
theorem dX4_init_90 : decode cX4_init 90 = .ok (.putfield 45, 3) := by decide +kernel
theorem dX4_init_93 : decode cX4_init 93 = .ok (.aload_n 0, 1) := by decide +kernel
theorem dX4_init_94 : decode cX4_init 94 = .ok (.bipush 24, 2) := by decide +kernel
theorem dX4_init_96 : decode cX4_init 96 = .ok (.newarray .int, 2) := by decide +kernel
theorem dX4_init_98 : decode cX4_init 98 = .ok (.putfield 48, 3) := by decide +kernel
theorem dX4_init_101 : decode cX4_init 101 = .ok (.aload_n 0, 1) := by decide +kernel
theorem dX4_init_102 : decode cX4_init 102 = .ok (.bipush 24, 2) := by decide +kernel
theorem dX4_init_104 : decode cX4_init 104 = .ok (.newarray .long, 2) := by decide +kernel
theorem dX4_init_106 : decode cX4_init 106 = .ok (.putfield 51, 3) := by decide +kernel
theorem dX4_init_109 : decode cX4_init 109 = .ok (.return_, 1) := by decide +kernel
theorem dX2_init_0 : decode cX2_init 0 = .ok (.aload_n 0, 1) := by decide +kernel
theorem dX2_init_1 : decode cX2_init 1 = .ok (.invokespecial 3, 3) := by decide +kernel
theorem dX2_init_4 : decode cX2_init 4 = .ok (.aload_n 0, 1) := by decide +kernel
theorem dX2_init_5 : decode cX2_init 5 = .ok (.bipush 40, 2) := by decide +kernel
theorem dX2_init_7 : decode cX2_init 7 = .ok (.newarray .int, 2) := by decide +kernel
theorem dX2_init_9 : decode cX2_init 9 = .ok (.putfield 11, 3) := by decide +kernel
theorem dX2_init_12 : decode cX2_init 12 = .ok (.aload_n 0, 1) := by decide +kernel
theorem dX2_init_13 : decode cX2_init 13 = .ok (.bipush 40, 2) := by decide +kernel
theorem dX2_init_15 : decode cX2_init 15 = .ok (.newarray .int, 2) := by decide +kernel
theorem dX2_init_17 : decode cX2_init 17 = .ok (.putfield 15, 3) := by decide +kernel
theorem dX2_init_20 : decode cX2_init 20 = .ok (.aload_n 0, 1) := by decide +kernel
theorem dX2_init_21 : decode cX2_init 21 = .ok (.bipush 40, 2) := by decide +kernel
theorem dX2_init_23 : decode cX2_init 23 = .ok (.newarray .int, 2) := by decide +kernel
theorem dX2_init_25 : decode cX2_init 25 = .ok (.putfield 18, 3) := by decide +kernel
theorem dX2_init_28 : decode cX2_init 28 = .ok (.aload_n 0, 1) := by decide +kernel
theorem dX2_init_29 : decode cX2_init 29 = .ok (.bipush 60, 2) := by decide +kernel
theorem dX2_init_31 : decode cX2_init 31 = .ok (.newarray .int, 2) := by decide +kernel
theorem dX2_init_33 : decode cX2_init 33 = .ok (.putfield 21, 3) := by decide +kernel
theorem dX2_init_36 : decode cX2_init 36 = .ok (.aload_n 0, 1) := by decide +kernel
theorem dX2_init_37 : decode cX2_init 37 = .ok (.bipush 60, 2) := by decide +kernel
theorem dX2_init_39 : decode cX2_init 39 = .ok (.newarray .int, 2) := by decide +kernel
theorem dX2_init_41 : decode cX2_init 41 = .ok (.putfield 24, 3) := by decide +kernel
theorem dX2_init_44 : decode cX2_init 44 = .ok (.aload_n 0, 1) := by decide +kernel
theorem dX2_init_45 : decode cX2_init 45 = .ok (.bipush 60, 2) := by decide +kernel
theorem dX2_init_47 : decode cX2_init 47 = .ok (.newarray .int, 2) := by decide +kernel
theorem dX2_init_49 : decode cX2_init 49 = .ok (.putfield 27, 3) := by decide +kernel
theorem dX2_init_52 : decode cX2_init 52 = .ok (.return_, 1) := by decide +kernel
theorem dX10_init_0 : decode cX10_init 0 = .ok (.aload_n 0, 1) := by decide +kernel
theorem dX10_init_1 : decode cX10_init 1 = .ok (.invokespecial 3, 3) := by decide +kernel
theorem dX10_init_4 : decode cX10_init 4 = .ok (.aload_n 0, 1) := by decide +kernel
theorem dX10_init_5 : decode cX10_init 5 = .ok (.bipush 64, 2) := by decide +kernel
theorem dX10_init_7 : decode cX10_init 7 = .ok (.newarray .int, 2) := by decide +kernel
theorem dX10_init_9 : decode cX10_init 9 = .ok (.putfield 11, 3) := by decide +kernel
theorem dX10_init_12 : decode cX10_init 12 = .ok (.aload_n 0, 1) := by decide +kernel
theorem dX10_init_13 : decode cX10_init 13 = .ok (.bipush 64, 2) := by decide +kernel
theorem dX10_init_15 : decode cX10_init 15 = .ok (.newarray .int, 2) := by decide +kernel
theorem dX10_init_17 : decode cX10_init 17 = .ok (.putfield 17, 3) := by decide +kernel
theorem dX10_init_20 : decode cX10_init 20 = .ok (.aload_n 0, 1) := by decide +kernel
theorem dX10_init_21 : decode cX10_init 21 = .ok (.sipush 256, 3) := by decide +kernel
theorem dX10_init_24 : decode cX10_init 24 = .ok (.newarray .int, 2) := by decide +kernel
theorem dX10_init_26 : decode cX10_init 26 = .ok (.putfield 20, 3) := by decide +kernel
theorem dX10_init_29 : decode cX10_init 29 = .ok (.aload_n 0, 1) := by decide +kernel
theorem dX10_init_30 : decode cX10_init 30 = .ok (.bipush 64, 2) := by decide +kernel
theorem dX10_init_32 : decode cX10_init 32 = .ok (.newarray .int, 2) := by decide +kernel
theorem dX10_init_34 : decode cX10_init 34 = .ok (.putfield 23, 3) := by decide +kernel
theorem dX10_init_37 : decode cX10_init 37 = .ok (.aload_n 0, 1) := by decide +kernel
theorem dX10_init_38 : decode cX10_init 38 = .ok (.bipush 64, 2) := by decide +kernel
theorem dX10_init_40 : decode cX10_init 40 = .ok (.newarray .int, 2) := by decide +kernel
theorem dX10_init_42 : decode cX10_init 42 = .ok (.putfield 26, 3) := by decide +kernel
theorem dX10_init_45 : decode cX10_init 45 = .ok (.return_, 1) := by decide +kernel
theorem dX6_init_0 : decode cX6_init 0 = .ok (.aload_n 0, 1) := by decide +kernel
theorem dX6_init_1 : decode cX6_init 1 = .ok (.invokespecial 5, 3) := by decide +kernel
theorem dX6_init_4 : decode cX6_init 4 = .ok (.aload_n 0, 1) := by decide +kernel
theorem dX6_init_5 : decode cX6_init 5 = .ok (.sipush 1320, 3) := by decide +kernel
theorem dX6_init_8 : decode cX6_init 8 = .ok (.newarray .int, 2) := by decide +kernel
theorem dX6_init_10 : decode cX6_init 10 = .ok (.putfield 15, 3) := by decide +kernel
theorem dX6_init_13 : decode cX6_init 13 = .ok (.aload_n 0, 1) := by decide +kernel
theorem dX6_init_14 : decode cX6_init 14 = .ok (.bipush 33, 2) := by decide +kernel
theorem dX6_init_16 : decode cX6_init 16 = .ok (.newarray .int, 2) := by decide +kernel
theorem dX6_init_18 : decode cX6_init 18 = .ok (.putfield 19, 3) := by decide +kernel
theorem dX6_init_21 : decode cX6_init 21 = .ok (.aload_n 0, 1) := by decide +kernel
theorem dX6_init_22 : decode cX6_init 22 = .ok (.bipush 33, 2) := by decide +kernel
theorem dX6_init_24 : decode cX6_init 24 = .ok (.newarray .int, 2) := by decide +kernel
theorem dX6_init_26 : decode cX6_init 26 = .ok (.putfield 22, 3) := by decide +kernel
theorem dX6_init_29 : decode cX6_init 29 = .ok (.aload_n 0, 1) := by decide +kernel
theorem dX6_init_30 : decode cX6_init 30 = .ok (.bipush 40, 2) := by decide +kernel
theorem dX6_init_32 : decode cX6_init 32 = .ok (.newarray .int, 2) := by decide +kernel
theorem dX6_init_34 : decode cX6_init 34 = .ok (.putfield 25, 3) := by decide +kernel
theorem dX6_init_37 : decode cX6_init 37 = .ok (.aload_n 0, 1) := by decide +kernel
theorem dX6_init_38 : decode cX6_init 38 = .ok (.bipush 33, 2) := by decide +kernel
theorem dX6_init_40 : decode cX6_init 40 = .ok (.newarray .int, 2) := by decide +kernel
theorem dX6_init_42 : decode cX6_init 42 = .ok (.putfield 28, 3) := by decide +kernel
theorem dX6_init_45 : decode cX6_init 45 = .ok (.aload_n 0, 1) := by decide +kernel
theorem dX6_init_46 : decode cX6_init 46 = .ok (.bipush 33, 2) := by decide +kernel
theorem dX6_init_48 : decode cX6_init 48 = .ok (.newarray .int, 2) := by decide +kernel
theorem dX6_init_50 : decode cX6_init 50 = .ok (.putfield 31, 3) := by decide +kernel
theorem dX6_init_53 : decode cX6_init 53 = .ok (.return_, 1) := by decide +kernel
theorem dX0_init_0 : decode cX0_init 0 = .ok (.aload_n 0, 1) := by decide +kernel
theorem dX0_init_1 : decode cX0_init 1 = .ok (.invokespecial 3, 3) := by decide +kernel
theorem dX0_init_4 : decode cX0_init 4 = .ok (.aload_n 0, 1) := by decide +kernel
theorem dX0_init_5 : decode cX0_init 5 = .ok (.bipush 13, 2) := by decide +kernel
theorem dX0_init_7 : decode cX0_init 7 = .ok (.newarray .int, 2) := by decide +kernel
theorem dX0_init_9 : decode cX0_init 9 = .ok (.putfield 11, 3) := by decide +kernel
theorem dX0_init_12 : decode cX0_init 12 = .ok (.aload_n 0, 1) := by decide +kernel
theorem dX0_init_13 : decode cX0_init 13 = .ok (.bipush 13, 2) := by decide +kernel
theorem dX0_init_15 : decode cX0_init 15 = .ok (.newarray .int, 2) := by decide +kernel
theorem dX0_init_17 : decode cX0_init 17 = .ok (.putfield 15, 3) := by decide +kernel
theorem dX0_init_20 : decode cX0_init 20 = .ok (.aload_n 0, 1) := by decide +kernel
theorem dX0_init_21 : decode cX0_init 21 = .ok (.bipush 13, 2) := by decide +kernel
theorem dX0_init_23 : decode cX0_init 23 = .ok (.newarray .int, 2) := by decide +kernel
theorem dX0_init_25 : decode cX0_init 25 = .ok (.putfield 18, 3) := by decide +kernel
theorem dX0_init_28 : decode cX0_init 28 = .ok (.aload_n 0, 1) := by decide +kernel
theorem dX0_init_29 : decode cX0_init 29 = .ok (.bipush 13, 2) := by decide +kernel
theorem dX0_init_31 : decode cX0_init 31 = .ok (.newarray .int, 2) := by decide +kernel
theorem dX0_init_33 : decode cX0_init 33 = .ok (.putfield 21, 3) := by decide +kernel
theorem dX0_init_36 : decode cX0_init 36 = .ok (.return_, 1) := by decide +kernel
theorem dX9_init_0 : decode cX9_init 0 = .ok (.aload_n 0, 1) := by decide +kernel
theorem dX9_init_1 : decode cX9_init 1 = .ok (.invokespecial 5, 3) := by decide +kernel
theorem dX9_init_4 : decode cX9_init 4 = .ok (.aload_n 0, 1) := by decide +kernel
theorem dX9_init_5 : decode cX9_init 5 = .ok (.iconst 4, 1) := by decide +kernel
theorem dX9_init_6 : decode cX9_init 6 = .ok (.newarray .long, 2) := by decide +kernel
theorem dX9_init_8 : decode cX9_init 8 = .ok (.putfield 11, 3) := by decide +kernel
theorem dX9_init_11 : decode cX9_init 11 = .ok (.aload_n 0, 1) := by decide +kernel
theorem dX9_init_12 : decode cX9_init 12 = .ok (.sipush 128, 3) := by decide +kernel
theorem dX9_init_15 : decode cX9_init 15 = .ok (.newarray .int, 2) := by decide +kernel
theorem dX9_init_17 : decode cX9_init 17 = .ok (.putfield 17, 3) := by decide +kernel
theorem dX9_init_20 : decode cX9_init 20 = .ok (.aload_n 0, 1) := by decide +kernel
theorem dX9_init_21 : decode cX9_init 21 = .ok (.sipush 128, 3) := by decide +kernel
theorem dX9_init_24 : decode cX9_init 24 = .ok (.newarray .int, 2) := by decide +kernel
theorem dX9_init_26 : decode cX9_init 26 = .ok (.putfield 21, 3) := by decide +kernel
theorem dX9_init_29 : decode cX9_init 29 = .ok (.aload_n 0, 1) := by decide +kernel
theorem dX9_init_30 : decode cX9_init 30 = .ok (.bipush 64, 2) := by decide +kernel
theorem dX9_init_32 : decode cX9_init 32 = .ok (.newarray .int, 2) := by decide +kernel
theorem dX9_init_34 : decode cX9_init 34 = .ok (.putfield 24, 3) := by decide +kernel
theorem dX9_init_37 : decode cX9_init 37 = .ok (.aload_n 0, 1) := by decide +kernel
theorem dX9_init_38 : decode cX9_init 38 = .ok (.sipush 256, 3) := by decide +kernel
theorem dX9_init_41 : decode cX9_init 41 = .ok (.newarray .int, 2) := by decide +kernel
theorem dX9_init_43 : decode cX9_init 43 = .ok (.putfield 27, 3) := by decide +kernel
theorem dX9_init_46 : decode cX9_init 46 = .ok (.return_, 1) := by decide +kernel
theorem ok_J7_fill_53178 : okM yJ7_fill_53178 cJ7_fill_53178 4 none 2 := ⟨q_125, q_92, by decide +kernel, by decide +kernel, by decide +kernel⟩
set_option maxHeartbeats 4000000 in
set_option maxRecDepth 100000 in
theorem c_X8_init_6_0 (l : Launch) (g : GG) (h0 : Nat) : MV l g yX8_init cX8_init 3 1 23 2 246 [(h0, .inr (8, [.int 0, .int 0, .null, .null]))] [.ref h0, .int 6, .int 0] (fun ww_ => ∃ (q_2 : Nat) (q_1 : Nat), ww_ = [(h0, .inr (8, [.int 6, .int 0, .ref q_1, .ref q_2])), (q_2, .inl (cI g, 240, .inl (fun _ => 0))), (q_1, .inl (cI g, 6, .inl (fun _ => (-1))))]) := by
  refine met_of (fun A => va_Qv _ (bW g A) A) (by decide) (Nat.le_of_ble_eq_true rfl) ?_
  intro p e s m below meth c A ls X hK hP hD hA hZ hS hl
  have hx := X.1
  have hb := X.2.1
  have hml := X.2.2.1
  have hown := X.2.2.2.1
  have hts := X.2.2.2.2.1
  have hnm := X.2.2.2.2.2.2.2
  have hl : lv_has ls 3 [(0, .ref h0), (1, .int 6), (2, .int 0)] := hl
  refine lv_aload_n hx hb dX8_init_0 rfl (lv_at hl 0 rfl) ?_
  refine W.objInit hx hb hown (hts _ q_119) (hts _ q_112) (hts _ q_113) rfl (by rw [hml]; exact hl.1) rfl dX8_init_1 (Nat.le_of_ble_eq_true rfl) (Nat.le_of_ble_eq_true rfl) ?_
  refine W.eq (g2 := F0 m 4 ls []) rfl ?_
  refine lv_aload_n hx hb dX8_init_4 rfl (lv_at hl 0 rfl) ?_
  refine lv_bipush (v := 6) hx hb dX8_init_5 (by decide) ?_
  refine va_newa (atype := .int) (ty := .int) (N' := 6) (a0 := (6, .inl (fun _ => 0))) hx hb (hts _ q_139) rfl hK hP hD hS hA (fun cA => rfl) (by decide) (by decide) (Nat.le_of_ble_eq_true rfl) (Nat.le_of_ble_eq_true rfl) (Nat.le_of_ble_eq_true rfl) dX8_init_7 (fun q_1 cA H hK1 hP hD hS => ?_)
  have e_q_1 := arrI hK1
  subst e_q_1
  have hP : va_P g.1 classes [(h0, .inr (8, [.int 0, .int 0, .null, .null])), (q_1, .inl (cI g, 6, .inl (fun _ => 0)))] H := hP
  have hD : va_D A [(h0, .inr (8, [.int 0, .int 0, .null, .null])), (q_1, .inl (cI g, 6, .inl (fun _ => 0)))] := hD
  refine va_putF (D := g.1) (ci := 8) (v := .ref q_1) (ty := .array .int) (C := RX8) (T := TX8) (N := 4) hx hb hts fw_X8 tyX8 tyX8_ok nmX8 hown hK hP hD hS 0 rfl rfl 2 (by decide) (hts _ q_128) (fun _ h9 => h9) rfl hnm rfl (by decide +kernel) rfl rfl (Nat.le_of_ble_eq_true rfl) dX8_init_9 (fun H locs hP hD hS => ?_)
  have hP : va_P g.1 classes [(h0, .inr (8, [.int 0, .int 0, .ref q_1, .null])), (q_1, .inl (cI g, 6, .inl (fun _ => 0)))] H := hP
  have hD : va_D A [(h0, .inr (8, [.int 0, .int 0, .ref q_1, .null])), (q_1, .inl (cI g, 6, .inl (fun _ => 0)))] := hD
  refine lv_aload_n hx hb dX8_init_12 rfl (lv_at hl 0 rfl) ?_
  refine lv_sipush (v := 240) hx hb dX8_init_13 (by decide) ?_
  refine va_newa (atype := .int) (ty := .int) (N' := 240) (a0 := (240, .inl (fun _ => 0))) hx hb (hts _ q_139) rfl hK hP hD hS hA (fun cA => rfl) (by decide) (by decide) (Nat.le_of_ble_eq_true rfl) (Nat.le_of_ble_eq_true rfl) (Nat.le_of_ble_eq_true rfl) dX8_init_16 (fun q_2 cA H hK1 hP hD hS => ?_)
  have e_q_2 := arrI hK1
  subst e_q_2
  have hP : va_P g.1 classes [(h0, .inr (8, [.int 0, .int 0, .ref q_1, .null])), (q_1, .inl (cI g, 6, .inl (fun _ => 0))), (q_2, .inl (cI g, 240, .inl (fun _ => 0)))] H := hP
  have hD : va_D A [(h0, .inr (8, [.int 0, .int 0, .ref q_1, .null])), (q_1, .inl (cI g, 6, .inl (fun _ => 0))), (q_2, .inl (cI g, 240, .inl (fun _ => 0)))] := hD
  refine va_putF (D := g.1) (ci := 8) (v := .ref q_2) (ty := .array .int) (C := RX8) (T := TX8) (N := 4) hx hb hts fw_X8 tyX8 tyX8_ok nmX8 hown hK hP hD hS 0 rfl rfl 3 (by decide) (hts _ q_129) (fun _ h9 => h9) rfl hnm rfl (by decide +kernel) rfl rfl (Nat.le_of_ble_eq_true rfl) dX8_init_18 (fun H locs hP hD hS => ?_)
  have hP : va_P g.1 classes [(h0, .inr (8, [.int 0, .int 0, .ref q_1, .ref q_2])), (q_1, .inl (cI g, 6, .inl (fun _ => 0))), (q_2, .inl (cI g, 240, .inl (fun _ => 0)))] H := hP
  have hD : va_D A [(h0, .inr (8, [.int 0, .int 0, .ref q_1, .ref q_2])), (q_1, .inl (cI g, 6, .inl (fun _ => 0))), (q_2, .inl (cI g, 240, .inl (fun _ => 0)))] := hD
  refine lv_aload_n hx hb dX8_init_21 rfl (lv_at hl 0 rfl) ?_
  refine lv_iload_n hx hb dX8_init_22 rfl (lv_at hl 1 rfl) ?_
  refine lv_bipush (v := 6) hx hb dX8_init_23 (by decide) ?_
  refine va_mmin hx hb (hml.trans hl.1.symm) hown (hts _ q_120) (hts _ q_121) (hts _ q_91) (hts _ q_122) (Nat.le_of_ble_eq_true rfl) (Nat.le_of_ble_eq_true rfl) (Nat.le_of_ble_eq_true rfl) (Nat.le_of_ble_eq_true rfl) dX8_init_25 ?_
  refine lv_topk (v := 6) (by first | decide | rfl) ?_
  refine va_putF (D := g.1) (ci := 8) (v := .int 6) (ty := .int) (C := RX8) (T := TX8) (N := 4) hx hb hts fw_X8 tyX8 tyX8_ok nmX8 hown hK hP hD hS 0 rfl rfl 0 (by decide) (hts _ q_126) (fun _ h9 => h9) rfl hnm rfl (by decide +kernel) rfl rfl (Nat.le_of_ble_eq_true rfl) dX8_init_28 (fun H locs hP hD hS => ?_)
  have hP : va_P g.1 classes [(h0, .inr (8, [.int 6, .int 0, .ref q_1, .ref q_2])), (q_1, .inl (cI g, 6, .inl (fun _ => 0))), (q_2, .inl (cI g, 240, .inl (fun _ => 0)))] H := hP
  have hD : va_D A [(h0, .inr (8, [.int 6, .int 0, .ref q_1, .ref q_2])), (q_1, .inl (cI g, 6, .inl (fun _ => 0))), (q_2, .inl (cI g, 240, .inl (fun _ => 0)))] := hD
  refine lv_aload_n hx hb dX8_init_31 rfl (lv_at hl 0 rfl) ?_
  refine lv_iload_n hx hb dX8_init_32 rfl (lv_at hl 2 rfl) ?_
  refine va_putF (D := g.1) (ci := 8) (v := .int 0) (ty := .int) (C := RX8) (T := TX8) (N := 4) hx hb hts fw_X8 tyX8 tyX8_ok nmX8 hown hK hP hD hS 0 rfl rfl 1 (by decide) (hts _ q_127) (fun _ h9 => h9) rfl hnm rfl (by decide +kernel) rfl rfl (Nat.le_of_ble_eq_true rfl) dX8_init_33 (fun H locs hP hD hS => ?_)
  have hP : va_P g.1 classes [(h0, .inr (8, [.int 6, .int 0, .ref q_1, .ref q_2])), (q_1, .inl (cI g, 6, .inl (fun _ => 0))), (q_2, .inl (cI g, 240, .inl (fun _ => 0)))] H := hP
  have hD : va_D A [(h0, .inr (8, [.int 6, .int 0, .ref q_1, .ref q_2])), (q_1, .inl (cI g, 6, .inl (fun _ => 0))), (q_2, .inl (cI g, 240, .inl (fun _ => 0)))] := hD
  refine lv_aload_n hx hb dX8_init_36 rfl (lv_at hl 0 rfl) ?_
  refine va_get (D := g.1) (ci := 8) (v := .ref q_1) (C := RX8) (T := TX8) (N := 4) hx hb hts fw_X8 hown hK hP 0 rfl rfl 2 (by decide) (hts _ q_128) (fun _ h9 => h9) rfl dX8_init_37 ?_
  refine lv_iconst (v := (-1)) hx hb dX8_init_40 (by decide) ?_
  refine kSv (As := [.ref q_1, .int (-1)]) (rest := []) (wr := [(h0, .inr (8, [.int 6, .int 0, .ref q_1, .ref q_2])), (q_2, .inl (cI g, 240, .inl (fun _ => 0)))]) X (kc_J7_fill_53178 l g q_1 6 (fun _ => 0) (-1) (by first | decide | omega)) ok_J7_fill_53178 q_124 q_123 rfl hK hP hD hS hA hZ hl.1 [1] [0, 2] rfl rfl rfl rfl rfl rfl (Nat.le_of_ble_eq_true rfl) ⟨Nat.le_of_ble_eq_true rfl, Nat.le_of_ble_eq_true rfl⟩ dX8_init_41 ⟨Nat.le_of_ble_eq_true rfl, Nat.le_of_ble_eq_true rfl⟩ (fun w1 H locs hw_4 hP hD hS => ?_)
  rw [sp_J7_fill_53178] at hw_4
  subst hw_4
  have hP : va_P g.1 classes [(h0, .inr (8, [.int 6, .int 0, .ref q_1, .ref q_2])), (q_2, .inl (cI g, 240, .inl (fun _ => 0))), (q_1, .inl (cI g, 6, .inl (fun _ => (-1))))] H := hP
  have hD : va_D A [(h0, .inr (8, [.int 6, .int 0, .ref q_1, .ref q_2])), (q_2, .inl (cI g, 240, .inl (fun _ => 0))), (q_1, .inl (cI g, 6, .inl (fun _ => (-1))))] := hD
  exact rV X hK hP hD hS dX8_init_44 (Nat.le_of_ble_eq_true rfl) (Nat.le_of_ble_eq_true rfl) ⟨q_2, q_1, rfl⟩
set_option maxHeartbeats 4000000 in
set_option maxRecDepth 100000 in
theorem c_X8_init_4_32 (l : Launch) (g : GG) (h0 : Nat) : MV l g yX8_init cX8_init 3 1 23 2 246 [(h0, .inr (8, [.int 0, .int 0, .null, .null]))] [.ref h0, .int 4, .int 32] (fun ww_ => ∃ (q_2 : Nat) (q_1 : Nat), ww_ = [(h0, .inr (8, [.int 4, .int 32, .ref q_1, .ref q_2])), (q_2, .inl (cI g, 240, .inl (fun _ => 0))), (q_1, .inl (cI g, 6, .inl (fun _ => (-1))))]) := by
  refine met_of (fun A => va_Qv _ (bW g A) A) (by decide) (Nat.le_of_ble_eq_true rfl) ?_
  intro p e s m below meth c A ls X hK hP hD hA hZ hS hl
  have hx := X.1
  have hb := X.2.1
  have hml := X.2.2.1
  have hown := X.2.2.2.1
  have hts := X.2.2.2.2.1
  have hnm := X.2.2.2.2.2.2.2
  have hl : lv_has ls 3 [(0, .ref h0), (1, .int 4), (2, .int 32)] := hl
  refine lv_aload_n hx hb dX8_init_0 rfl (lv_at hl 0 rfl) ?_
  refine W.objInit hx hb hown (hts _ q_119) (hts _ q_112) (hts _ q_113) rfl (by rw [hml]; exact hl.1) rfl dX8_init_1 (Nat.le_of_ble_eq_true rfl) (Nat.le_of_ble_eq_true rfl) ?_
  refine W.eq (g2 := F0 m 4 ls []) rfl ?_
  refine lv_aload_n hx hb dX8_init_4 rfl (lv_at hl 0 rfl) ?_
  refine lv_bipush (v := 6) hx hb dX8_init_5 (by decide) ?_
  refine va_newa (atype := .int) (ty := .int) (N' := 6) (a0 := (6, .inl (fun _ => 0))) hx hb (hts _ q_139) rfl hK hP hD hS hA (fun cA => rfl) (by decide) (by decide) (Nat.le_of_ble_eq_true rfl) (Nat.le_of_ble_eq_true rfl) (Nat.le_of_ble_eq_true rfl) dX8_init_7 (fun q_1 cA H hK1 hP hD hS => ?_)
  have e_q_1 := arrI hK1
  subst e_q_1
  have hP : va_P g.1 classes [(h0, .inr (8, [.int 0, .int 0, .null, .null])), (q_1, .inl (cI g, 6, .inl (fun _ => 0)))] H := hP
  have hD : va_D A [(h0, .inr (8, [.int 0, .int 0, .null, .null])), (q_1, .inl (cI g, 6, .inl (fun _ => 0)))] := hD
  refine va_putF (D := g.1) (ci := 8) (v := .ref q_1) (ty := .array .int) (C := RX8) (T := TX8) (N := 4) hx hb hts fw_X8 tyX8 tyX8_ok nmX8 hown hK hP hD hS 0 rfl rfl 2 (by decide) (hts _ q_128) (fun _ h9 => h9) rfl hnm rfl (by decide +kernel) rfl rfl (Nat.le_of_ble_eq_true rfl) dX8_init_9 (fun H locs hP hD hS => ?_)
  have hP : va_P g.1 classes [(h0, .inr (8, [.int 0, .int 0, .ref q_1, .null])), (q_1, .inl (cI g, 6, .inl (fun _ => 0)))] H := hP
  have hD : va_D A [(h0, .inr (8, [.int 0, .int 0, .ref q_1, .null])), (q_1, .inl (cI g, 6, .inl (fun _ => 0)))] := hD
  refine lv_aload_n hx hb dX8_init_12 rfl (lv_at hl 0 rfl) ?_
  refine lv_sipush (v := 240) hx hb dX8_init_13 (by decide) ?_
  refine va_newa (atype := .int) (ty := .int) (N' := 240) (a0 := (240, .inl (fun _ => 0))) hx hb (hts _ q_139) rfl hK hP hD hS hA (fun cA => rfl) (by decide) (by decide) (Nat.le_of_ble_eq_true rfl) (Nat.le_of_ble_eq_true rfl) (Nat.le_of_ble_eq_true rfl) dX8_init_16 (fun q_2 cA H hK1 hP hD hS => ?_)
  have e_q_2 := arrI hK1
  subst e_q_2
  have hP : va_P g.1 classes [(h0, .inr (8, [.int 0, .int 0, .ref q_1, .null])), (q_1, .inl (cI g, 6, .inl (fun _ => 0))), (q_2, .inl (cI g, 240, .inl (fun _ => 0)))] H := hP
  have hD : va_D A [(h0, .inr (8, [.int 0, .int 0, .ref q_1, .null])), (q_1, .inl (cI g, 6, .inl (fun _ => 0))), (q_2, .inl (cI g, 240, .inl (fun _ => 0)))] := hD
  refine va_putF (D := g.1) (ci := 8) (v := .ref q_2) (ty := .array .int) (C := RX8) (T := TX8) (N := 4) hx hb hts fw_X8 tyX8 tyX8_ok nmX8 hown hK hP hD hS 0 rfl rfl 3 (by decide) (hts _ q_129) (fun _ h9 => h9) rfl hnm rfl (by decide +kernel) rfl rfl (Nat.le_of_ble_eq_true rfl) dX8_init_18 (fun H locs hP hD hS => ?_)
  have hP : va_P g.1 classes [(h0, .inr (8, [.int 0, .int 0, .ref q_1, .ref q_2])), (q_1, .inl (cI g, 6, .inl (fun _ => 0))), (q_2, .inl (cI g, 240, .inl (fun _ => 0)))] H := hP
  have hD : va_D A [(h0, .inr (8, [.int 0, .int 0, .ref q_1, .ref q_2])), (q_1, .inl (cI g, 6, .inl (fun _ => 0))), (q_2, .inl (cI g, 240, .inl (fun _ => 0)))] := hD
  refine lv_aload_n hx hb dX8_init_21 rfl (lv_at hl 0 rfl) ?_
  refine lv_iload_n hx hb dX8_init_22 rfl (lv_at hl 1 rfl) ?_
  refine lv_bipush (v := 6) hx hb dX8_init_23 (by decide) ?_
  refine va_mmin hx hb (hml.trans hl.1.symm) hown (hts _ q_120) (hts _ q_121) (hts _ q_91) (hts _ q_122) (Nat.le_of_ble_eq_true rfl) (Nat.le_of_ble_eq_true rfl) (Nat.le_of_ble_eq_true rfl) (Nat.le_of_ble_eq_true rfl) dX8_init_25 ?_
  refine lv_topk (v := 4) (by first | decide | rfl) ?_
  refine va_putF (D := g.1) (ci := 8) (v := .int 4) (ty := .int) (C := RX8) (T := TX8) (N := 4) hx hb hts fw_X8 tyX8 tyX8_ok nmX8 hown hK hP hD hS 0 rfl rfl 0 (by decide) (hts _ q_126) (fun _ h9 => h9) rfl hnm rfl (by decide +kernel) rfl rfl (Nat.le_of_ble_eq_true rfl) dX8_init_28 (fun H locs hP hD hS => ?_)
  have hP : va_P g.1 classes [(h0, .inr (8, [.int 4, .int 0, .ref q_1, .ref q_2])), (q_1, .inl (cI g, 6, .inl (fun _ => 0))), (q_2, .inl (cI g, 240, .inl (fun _ => 0)))] H := hP
  have hD : va_D A [(h0, .inr (8, [.int 4, .int 0, .ref q_1, .ref q_2])), (q_1, .inl (cI g, 6, .inl (fun _ => 0))), (q_2, .inl (cI g, 240, .inl (fun _ => 0)))] := hD
  refine lv_aload_n hx hb dX8_init_31 rfl (lv_at hl 0 rfl) ?_
  refine lv_iload_n hx hb dX8_init_32 rfl (lv_at hl 2 rfl) ?_
  refine va_putF (D := g.1) (ci := 8) (v := .int 32) (ty := .int) (C := RX8) (T := TX8) (N := 4) hx hb hts fw_X8 tyX8 tyX8_ok nmX8 hown hK hP hD hS 0 rfl rfl 1 (by decide) (hts _ q_127) (fun _ h9 => h9) rfl hnm rfl (by decide +kernel) rfl rfl (Nat.le_of_ble_eq_true rfl) dX8_init_33 (fun H locs hP hD hS => ?_)
  have hP : va_P g.1 classes [(h0, .inr (8, [.int 4, .int 32, .ref q_1, .ref q_2])), (q_1, .inl (cI g, 6, .inl (fun _ => 0))), (q_2, .inl (cI g, 240, .inl (fun _ => 0)))] H := hP
  have hD : va_D A [(h0, .inr (8, [.int 4, .int 32, .ref q_1, .ref q_2])), (q_1, .inl (cI g, 6, .inl (fun _ => 0))), (q_2, .inl (cI g, 240, .inl (fun _ => 0)))] := hD
  refine lv_aload_n hx hb dX8_init_36 rfl (lv_at hl 0 rfl) ?_
  refine va_get (D := g.1) (ci := 8) (v := .ref q_1) (C := RX8) (T := TX8) (N := 4) hx hb hts fw_X8 hown hK hP 0 rfl rfl 2 (by decide) (hts _ q_128) (fun _ h9 => h9) rfl dX8_init_37 ?_
  refine lv_iconst (v := (-1)) hx hb dX8_init_40 (by decide) ?_
  refine kSv (As := [.ref q_1, .int (-1)]) (rest := []) (wr := [(h0, .inr (8, [.int 4, .int 32, .ref q_1, .ref q_2])), (q_2, .inl (cI g, 240, .inl (fun _ => 0)))]) X (kc_J7_fill_53178 l g q_1 6 (fun _ => 0) (-1) (by first | decide | omega)) ok_J7_fill_53178 q_124 q_123 rfl hK hP hD hS hA hZ hl.1 [1] [0, 2] rfl rfl rfl rfl rfl rfl (Nat.le_of_ble_eq_true rfl) ⟨Nat.le_of_ble_eq_true rfl, Nat.le_of_ble_eq_true rfl⟩ dX8_init_41 ⟨Nat.le_of_ble_eq_true rfl, Nat.le_of_ble_eq_true rfl⟩ (fun w1 H locs hw_4 hP hD hS => ?_)
  rw [sp_J7_fill_53178] at hw_4
  subst hw_4
  have hP : va_P g.1 classes [(h0, .inr (8, [.int 4, .int 32, .ref q_1, .ref q_2])), (q_2, .inl (cI g, 240, .inl (fun _ => 0))), (q_1, .inl (cI g, 6, .inl (fun _ => (-1))))] H := hP
  have hD : va_D A [(h0, .inr (8, [.int 4, .int 32, .ref q_1, .ref q_2])), (q_2, .inl (cI g, 240, .inl (fun _ => 0))), (q_1, .inl (cI g, 6, .inl (fun _ => (-1))))] := hD
  exact rV X hK hP hD hS dX8_init_44 (Nat.le_of_ble_eq_true rfl) (Nat.le_of_ble_eq_true rfl) ⟨q_2, q_1, rfl⟩
set_option maxHeartbeats 4000000 in
set_option maxRecDepth 100000 in
theorem c_X3_init (l : Launch) (g : GG) (h0 : Nat) : MV l g yX3_init cX3_init 1 1 12 2 128 [(h0, .inr (3, [.null, .null]))] [.ref h0] (fun ww_ => ∃ (q_1 : Nat) (q_2 : Nat), ww_ = [(h0, .inr (3, [.ref q_1, .ref q_2])), (q_1, .inl (cI g, 64, .inl (fun _ => 0))), (q_2, .inl (cI g, 64, .inl (fun _ => 0)))]) := by
  refine met_of (fun A => va_Qv _ (bW g A) A) (by decide) (Nat.le_of_ble_eq_true rfl) ?_
  intro p e s m below meth c A ls X hK hP hD hA hZ hS hl
  have hx := X.1
  have hb := X.2.1
  have hml := X.2.2.1
  have hown := X.2.2.2.1
  have hts := X.2.2.2.2.1
  have hnm := X.2.2.2.2.2.2.2
  have hl : lv_has ls 1 [(0, .ref h0)] := hl
  refine lv_aload_n hx hb dX3_init_0 rfl (lv_at hl 0 rfl) ?_
  refine W.objInit hx hb hown (hts _ q_145) (hts _ q_112) (hts _ q_113) rfl (by rw [hml]; exact hl.1) rfl dX3_init_1 (Nat.le_of_ble_eq_true rfl) (Nat.le_of_ble_eq_true rfl) ?_
  refine W.eq (g2 := F0 m 4 ls []) rfl ?_
  refine lv_aload_n hx hb dX3_init_4 rfl (lv_at hl 0 rfl) ?_
  refine lv_bipush (v := 64) hx hb dX3_init_5 (by decide) ?_
  refine va_newa (atype := .int) (ty := .int) (N' := 64) (a0 := (64, .inl (fun _ => 0))) hx hb (hts _ q_139) rfl hK hP hD hS hA (fun cA => rfl) (by decide) (by decide) (Nat.le_of_ble_eq_true rfl) (Nat.le_of_ble_eq_true rfl) (Nat.le_of_ble_eq_true rfl) dX3_init_7 (fun q_1 cA H hK1 hP hD hS => ?_)
  have e_q_1 := arrI hK1
  subst e_q_1
  have hP : va_P g.1 classes [(h0, .inr (3, [.null, .null])), (q_1, .inl (cI g, 64, .inl (fun _ => 0)))] H := hP
  have hD : va_D A [(h0, .inr (3, [.null, .null])), (q_1, .inl (cI g, 64, .inl (fun _ => 0)))] := hD
  refine va_putF (D := g.1) (ci := 3) (v := .ref q_1) (ty := .array .int) (C := RX3) (T := TX3) (N := 2) hx hb hts fw_X3 tyX3 tyX3_ok nmX3 hown hK hP hD hS 0 rfl rfl 0 (by decide) (hts _ q_146) (fun _ h9 => h9) rfl hnm rfl (by decide +kernel) rfl rfl (Nat.le_of_ble_eq_true rfl) dX3_init_9 (fun H locs hP hD hS => ?_)
  have hP : va_P g.1 classes [(h0, .inr (3, [.ref q_1, .null])), (q_1, .inl (cI g, 64, .inl (fun _ => 0)))] H := hP
  have hD : va_D A [(h0, .inr (3, [.ref q_1, .null])), (q_1, .inl (cI g, 64, .inl (fun _ => 0)))] := hD
  refine lv_aload_n hx hb dX3_init_12 rfl (lv_at hl 0 rfl) ?_
  refine lv_bipush (v := 64) hx hb dX3_init_13 (by decide) ?_
  refine va_newa (atype := .int) (ty := .int) (N' := 64) (a0 := (64, .inl (fun _ => 0))) hx hb (hts _ q_139) rfl hK hP hD hS hA (fun cA => rfl) (by decide) (by decide) (Nat.le_of_ble_eq_true rfl) (Nat.le_of_ble_eq_true rfl) (Nat.le_of_ble_eq_true rfl) dX3_init_15 (fun q_2 cA H hK1 hP hD hS => ?_)
  have e_q_2 := arrI hK1
  subst e_q_2
  have hP : va_P g.1 classes [(h0, .inr (3, [.ref q_1, .null])), (q_1, .inl (cI g, 64, .inl (fun _ => 0))), (q_2, .inl (cI g, 64, .inl (fun _ => 0)))] H := hP
  have hD : va_D A [(h0, .inr (3, [.ref q_1, .null])), (q_1, .inl (cI g, 64, .inl (fun _ => 0))), (q_2, .inl (cI g, 64, .inl (fun _ => 0)))] := hD
  refine va_putF (D := g.1) (ci := 3) (v := .ref q_2) (ty := .array .int) (C := RX3) (T := TX3) (N := 2) hx hb hts fw_X3 tyX3 tyX3_ok nmX3 hown hK hP hD hS 0 rfl rfl 1 (by decide) (hts _ q_147) (fun _ h9 => h9) rfl hnm rfl (by decide +kernel) rfl rfl (Nat.le_of_ble_eq_true rfl) dX3_init_17 (fun H locs hP hD hS => ?_)
  have hP : va_P g.1 classes [(h0, .inr (3, [.ref q_1, .ref q_2])), (q_1, .inl (cI g, 64, .inl (fun _ => 0))), (q_2, .inl (cI g, 64, .inl (fun _ => 0)))] H := hP
  have hD : va_D A [(h0, .inr (3, [.ref q_1, .ref q_2])), (q_1, .inl (cI g, 64, .inl (fun _ => 0))), (q_2, .inl (cI g, 64, .inl (fun _ => 0)))] := hD
  exact rV X hK hP hD hS dX3_init_20 (Nat.le_of_ble_eq_true rfl) (Nat.le_of_ble_eq_true rfl) ⟨q_1, q_2, rfl⟩
set_option maxHeartbeats 4000000 in
set_option maxRecDepth 100000 in
theorem c_X1_init (l : Launch) (g : GG) (h0 : Nat) : MV l g yX1_init cX1_init 1 1 23 12 620 [(h0, .inr (1, [.null, .null, .null, .null, .null, .null, .null, .null, .null, .null, .null, .null, .int 0, .int 0]))] [.ref h0] (fun ww_ => ∃ (q_1 : Nat) (q_2 : Nat) (q_3 : Nat) (q_4 : Nat) (q_5 : Nat) (q_6 : Nat) (q_7 : Nat) (q_9 : Nat) (q_10 : Nat) (q_11 : Nat) (q_12 : Nat) (q_8 : Nat), ww_ = [(h0, .inr (1, [.ref q_1, .ref q_2, .ref q_3, .ref q_4, .ref q_5, .ref q_6, .ref q_7, .ref q_8, .ref q_9, .ref q_10, .ref q_11, .ref q_12, .int 0, .int 0])), (q_1, .inl (cI g, 32, .inl (fun _ => 0))), (q_2, .inl (cI g, 32, .inl (fun _ => 0))), (q_3, .inl (cI g, 32, .inl (fun _ => 0))), (q_4, .inl (cI g, 32, .inl (fun _ => 0))), (q_5, .inl (cI g, 32, .inl (fun _ => 0))), (q_6, .inl (cI g, 32, .inl (fun _ => 0))), (q_7, .inl (cZ g, 32, .inl (fun _ => 0))), (q_9, .inl (cI g, 100, .inl (fun _ => 0))), (q_10, .inl (cI g, 100, .inl (fun _ => 0))), (q_11, .inl (cI g, 100, .inl (fun _ => 0))), (q_12, .inl (cI g, 32, .inl (fun _ => 0))), (q_8, .inl (cI g, 64, .inl (fun _ => (-9))))]) := by
  refine met_of (fun A => va_Qv _ (bW g A) A) (by decide) (Nat.le_of_ble_eq_true rfl) ?_
  intro p e s m below meth c A ls X hK hP hD hA hZ hS hl
  have hx := X.1
  have hb := X.2.1
  have hml := X.2.2.1
  have hown := X.2.2.2.1
  have hts := X.2.2.2.2.1
  have hnm := X.2.2.2.2.2.2.2
  have hl : lv_has ls 1 [(0, .ref h0)] := hl
  refine lv_aload_n hx hb dX1_init_0 rfl (lv_at hl 0 rfl) ?_
  refine W.objInit hx hb hown (hts _ q_158) (hts _ q_112) (hts _ q_113) rfl (by rw [hml]; exact hl.1) rfl dX1_init_1 (Nat.le_of_ble_eq_true rfl) (Nat.le_of_ble_eq_true rfl) ?_
  refine W.eq (g2 := F0 m 4 ls []) rfl ?_
  refine lv_aload_n hx hb dX1_init_4 rfl (lv_at hl 0 rfl) ?_
  refine lv_bipush (v := 32) hx hb dX1_init_5 (by decide) ?_
  refine va_newa (atype := .int) (ty := .int) (N' := 32) (a0 := (32, .inl (fun _ => 0))) hx hb (hts _ q_139) rfl hK hP hD hS hA (fun cA => rfl) (by decide) (by decide) (Nat.le_of_ble_eq_true rfl) (Nat.le_of_ble_eq_true rfl) (Nat.le_of_ble_eq_true rfl) dX1_init_7 (fun q_1 cA H hK1 hP hD hS => ?_)
  have e_q_1 := arrI hK1
  subst e_q_1
  have hP : va_P g.1 classes [(h0, .inr (1, [.null, .null, .null, .null, .null, .null, .null, .null, .null, .null, .null, .null, .int 0, .int 0])), (q_1, .inl (cI g, 32, .inl (fun _ => 0)))] H := hP
  have hD : va_D A [(h0, .inr (1, [.null, .null, .null, .null, .null, .null, .null, .null, .null, .null, .null, .null, .int 0, .int 0])), (q_1, .inl (cI g, 32, .inl (fun _ => 0)))] := hD
  refine va_putF (D := g.1) (ci := 1) (v := .ref q_1) (ty := .array .int) (C := RX1) (T := TX1) (N := 14) hx hb hts fw_X1 tyX1 tyX1_ok nmX1 hown hK hP hD hS 0 rfl rfl 0 (by decide) (hts _ q_160) (fun _ h9 => h9) rfl hnm rfl (by decide +kernel) rfl rfl (Nat.le_of_ble_eq_true rfl) dX1_init_9 (fun H locs hP hD hS => ?_)
  have hP : va_P g.1 classes [(h0, .inr (1, [.ref q_1, .null, .null, .null, .null, .null, .null, .null, .null, .null, .null, .null, .int 0, .int 0])), (q_1, .inl (cI g, 32, .inl (fun _ => 0)))] H := hP
  have hD : va_D A [(h0, .inr (1, [.ref q_1, .null, .null, .null, .null, .null, .null, .null, .null, .null, .null, .null, .int 0, .int 0])), (q_1, .inl (cI g, 32, .inl (fun _ => 0)))] := hD
  refine lv_aload_n hx hb dX1_init_12 rfl (lv_at hl 0 rfl) ?_
  refine lv_bipush (v := 32) hx hb dX1_init_13 (by decide) ?_
  refine va_newa (atype := .int) (ty := .int) (N' := 32) (a0 := (32, .inl (fun _ => 0))) hx hb (hts _ q_139) rfl hK hP hD hS hA (fun cA => rfl) (by decide) (by decide) (Nat.le_of_ble_eq_true rfl) (Nat.le_of_ble_eq_true rfl) (Nat.le_of_ble_eq_true rfl) dX1_init_15 (fun q_2 cA H hK1 hP hD hS => ?_)
  have e_q_2 := arrI hK1
  subst e_q_2
  have hP : va_P g.1 classes [(h0, .inr (1, [.ref q_1, .null, .null, .null, .null, .null, .null, .null, .null, .null, .null, .null, .int 0, .int 0])), (q_1, .inl (cI g, 32, .inl (fun _ => 0))), (q_2, .inl (cI g, 32, .inl (fun _ => 0)))] H := hP
  have hD : va_D A [(h0, .inr (1, [.ref q_1, .null, .null, .null, .null, .null, .null, .null, .null, .null, .null, .null, .int 0, .int 0])), (q_1, .inl (cI g, 32, .inl (fun _ => 0))), (q_2, .inl (cI g, 32, .inl (fun _ => 0)))] := hD
  refine va_putF (D := g.1) (ci := 1) (v := .ref q_2) (ty := .array .int) (C := RX1) (T := TX1) (N := 14) hx hb hts fw_X1 tyX1 tyX1_ok nmX1 hown hK hP hD hS 0 rfl rfl 1 (by decide) (hts _ q_161) (fun _ h9 => h9) rfl hnm rfl (by decide +kernel) rfl rfl (Nat.le_of_ble_eq_true rfl) dX1_init_17 (fun H locs hP hD hS => ?_)
  have hP : va_P g.1 classes [(h0, .inr (1, [.ref q_1, .ref q_2, .null, .null, .null, .null, .null, .null, .null, .null, .null, .null, .int 0, .int 0])), (q_1, .inl (cI g, 32, .inl (fun _ => 0))), (q_2, .inl (cI g, 32, .inl (fun _ => 0)))] H := hP
  have hD : va_D A [(h0, .inr (1, [.ref q_1, .ref q_2, .null, .null, .null, .null, .null, .null, .null, .null, .null, .null, .int 0, .int 0])), (q_1, .inl (cI g, 32, .inl (fun _ => 0))), (q_2, .inl (cI g, 32, .inl (fun _ => 0)))] := hD
  refine lv_aload_n hx hb dX1_init_20 rfl (lv_at hl 0 rfl) ?_
  refine lv_bipush (v := 32) hx hb dX1_init_21 (by decide) ?_
  refine va_newa (atype := .int) (ty := .int) (N' := 32) (a0 := (32, .inl (fun _ => 0))) hx hb (hts _ q_139) rfl hK hP hD hS hA (fun cA => rfl) (by decide) (by decide) (Nat.le_of_ble_eq_true rfl) (Nat.le_of_ble_eq_true rfl) (Nat.le_of_ble_eq_true rfl) dX1_init_23 (fun q_3 cA H hK1 hP hD hS => ?_)
  have e_q_3 := arrI hK1
  subst e_q_3
  have hP : va_P g.1 classes [(h0, .inr (1, [.ref q_1, .ref q_2, .null, .null, .null, .null, .null, .null, .null, .null, .null, .null, .int 0, .int 0])), (q_1, .inl (cI g, 32, .inl (fun _ => 0))), (q_2, .inl (cI g, 32, .inl (fun _ => 0))), (q_3, .inl (cI g, 32, .inl (fun _ => 0)))] H := hP
  have hD : va_D A [(h0, .inr (1, [.ref q_1, .ref q_2, .null, .null, .null, .null, .null, .null, .null, .null, .null, .null, .int 0, .int 0])), (q_1, .inl (cI g, 32, .inl (fun _ => 0))), (q_2, .inl (cI g, 32, .inl (fun _ => 0))), (q_3, .inl (cI g, 32, .inl (fun _ => 0)))] := hD
  refine va_putF (D := g.1) (ci := 1) (v := .ref q_3) (ty := .array .int) (C := RX1) (T := TX1) (N := 14) hx hb hts fw_X1 tyX1 tyX1_ok nmX1 hown hK hP hD hS 0 rfl rfl 2 (by decide) (hts _ q_162) (fun _ h9 => h9) rfl hnm rfl (by decide +kernel) rfl rfl (Nat.le_of_ble_eq_true rfl) dX1_init_25 (fun H locs hP hD hS => ?_)
  have hP : va_P g.1 classes [(h0, .inr (1, [.ref q_1, .ref q_2, .ref q_3, .null, .null, .null, .null, .null, .null, .null, .null, .null, .int 0, .int 0])), (q_1, .inl (cI g, 32, .inl (fun _ => 0))), (q_2, .inl (cI g, 32, .inl (fun _ => 0))), (q_3, .inl (cI g, 32, .inl (fun _ => 0)))] H := hP
  have hD : va_D A [(h0, .inr (1, [.ref q_1, .ref q_2, .ref q_3, .null, .null, .null, .null, .null, .null, .null, .null, .null, .int 0, .int 0])), (q_1, .inl (cI g, 32, .inl (fun _ => 0))), (q_2, .inl (cI g, 32, .inl (fun _ => 0))), (q_3, .inl (cI g, 32, .inl (fun _ => 0)))] := hD
  refine lv_aload_n hx hb dX1_init_28 rfl (lv_at hl 0 rfl) ?_
  refine lv_bipush (v := 32) hx hb dX1_init_29 (by decide) ?_
  refine va_newa (atype := .int) (ty := .int) (N' := 32) (a0 := (32, .inl (fun _ => 0))) hx hb (hts _ q_139) rfl hK hP hD hS hA (fun cA => rfl) (by decide) (by decide) (Nat.le_of_ble_eq_true rfl) (Nat.le_of_ble_eq_true rfl) (Nat.le_of_ble_eq_true rfl) dX1_init_31 (fun q_4 cA H hK1 hP hD hS => ?_)
  have e_q_4 := arrI hK1
  subst e_q_4
  have hP : va_P g.1 classes [(h0, .inr (1, [.ref q_1, .ref q_2, .ref q_3, .null, .null, .null, .null, .null, .null, .null, .null, .null, .int 0, .int 0])), (q_1, .inl (cI g, 32, .inl (fun _ => 0))), (q_2, .inl (cI g, 32, .inl (fun _ => 0))), (q_3, .inl (cI g, 32, .inl (fun _ => 0))), (q_4, .inl (cI g, 32, .inl (fun _ => 0)))] H := hP
  have hD : va_D A [(h0, .inr (1, [.ref q_1, .ref q_2, .ref q_3, .null, .null, .null, .null, .null, .null, .null, .null, .null, .int 0, .int 0])), (q_1, .inl (cI g, 32, .inl (fun _ => 0))), (q_2, .inl (cI g, 32, .inl (fun _ => 0))), (q_3, .inl (cI g, 32, .inl (fun _ => 0))), (q_4, .inl (cI g, 32, .inl (fun _ => 0)))] := hD
  refine va_putF (D := g.1) (ci := 1) (v := .ref q_4) (ty := .array .int) (C := RX1) (T := TX1) (N := 14) hx hb hts fw_X1 tyX1 tyX1_ok nmX1 hown hK hP hD hS 0 rfl rfl 3 (by decide) (hts _ q_163) (fun _ h9 => h9) rfl hnm rfl (by decide +kernel) rfl rfl (Nat.le_of_ble_eq_true rfl) dX1_init_33 (fun H locs hP hD hS => ?_)
  have hP : va_P g.1 classes [(h0, .inr (1, [.ref q_1, .ref q_2, .ref q_3, .ref q_4, .null, .null, .null, .null, .null, .null, .null, .null, .int 0, .int 0])), (q_1, .inl (cI g, 32, .inl (fun _ => 0))), (q_2, .inl (cI g, 32, .inl (fun _ => 0))), (q_3, .inl (cI g, 32, .inl (fun _ => 0))), (q_4, .inl (cI g, 32, .inl (fun _ => 0)))] H := hP
  have hD : va_D A [(h0, .inr (1, [.ref q_1, .ref q_2, .ref q_3, .ref q_4, .null, .null, .null, .null, .null, .null, .null, .null, .int 0, .int 0])), (q_1, .inl (cI g, 32, .inl (fun _ => 0))), (q_2, .inl (cI g, 32, .inl (fun _ => 0))), (q_3, .inl (cI g, 32, .inl (fun _ => 0))), (q_4, .inl (cI g, 32, .inl (fun _ => 0)))] := hD
  refine lv_aload_n hx hb dX1_init_36 rfl (lv_at hl 0 rfl) ?_
  refine lv_bipush (v := 32) hx hb dX1_init_37 (by decide) ?_
  refine va_newa (atype := .int) (ty := .int) (N' := 32) (a0 := (32, .inl (fun _ => 0))) hx hb (hts _ q_139) rfl hK hP hD hS hA (fun cA => rfl) (by decide) (by decide) (Nat.le_of_ble_eq_true rfl) (Nat.le_of_ble_eq_true rfl) (Nat.le_of_ble_eq_true rfl) dX1_init_39 (fun q_5 cA H hK1 hP hD hS => ?_)
  have e_q_5 := arrI hK1
  subst e_q_5
  have hP : va_P g.1 classes [(h0, .inr (1, [.ref q_1, .ref q_2, .ref q_3, .ref q_4, .null, .null, .null, .null, .null, .null, .null, .null, .int 0, .int 0])), (q_1, .inl (cI g, 32, .inl (fun _ => 0))), (q_2, .inl (cI g, 32, .inl (fun _ => 0))), (q_3, .inl (cI g, 32, .inl (fun _ => 0))), (q_4, .inl (cI g, 32, .inl (fun _ => 0))), (q_5, .inl (cI g, 32, .inl (fun _ => 0)))] H := hP
  have hD : va_D A [(h0, .inr (1, [.ref q_1, .ref q_2, .ref q_3, .ref q_4, .null, .null, .null, .null, .null, .null, .null, .null, .int 0, .int 0])), (q_1, .inl (cI g, 32, .inl (fun _ => 0))), (q_2, .inl (cI g, 32, .inl (fun _ => 0))), (q_3, .inl (cI g, 32, .inl (fun _ => 0))), (q_4, .inl (cI g, 32, .inl (fun _ => 0))), (q_5, .inl (cI g, 32, .inl (fun _ => 0)))] := hD
  refine va_putF (D := g.1) (ci := 1) (v := .ref q_5) (ty := .array .int) (C := RX1) (T := TX1) (N := 14) hx hb hts fw_X1 tyX1 tyX1_ok nmX1 hown hK hP hD hS 0 rfl rfl 4 (by decide) (hts _ q_164) (fun _ h9 => h9) rfl hnm rfl (by decide +kernel) rfl rfl (Nat.le_of_ble_eq_true rfl) dX1_init_41 (fun H locs hP hD hS => ?_)
  have hP : va_P g.1 classes [(h0, .inr (1, [.ref q_1, .ref q_2, .ref q_3, .ref q_4, .ref q_5, .null, .null, .null, .null, .null, .null, .null, .int 0, .int 0])), (q_1, .inl (cI g, 32, .inl (fun _ => 0))), (q_2, .inl (cI g, 32, .inl (fun _ => 0))), (q_3, .inl (cI g, 32, .inl (fun _ => 0))), (q_4, .inl (cI g, 32, .inl (fun _ => 0))), (q_5, .inl (cI g, 32, .inl (fun _ => 0)))] H := hP
  have hD : va_D A [(h0, .inr (1, [.ref q_1, .ref q_2, .ref q_3, .ref q_4, .ref q_5, .null, .null, .null, .null, .null, .null, .null, .int 0, .int 0])), (q_1, .inl (cI g, 32, .inl (fun _ => 0))), (q_2, .inl (cI g, 32, .inl (fun _ => 0))), (q_3, .inl (cI g, 32, .inl (fun _ => 0))), (q_4, .inl (cI g, 32, .inl (fun _ => 0))), (q_5, .inl (cI g, 32, .inl (fun _ => 0)))] := hD
  refine lv_aload_n hx hb dX1_init_44 rfl (lv_at hl 0 rfl) ?_
  refine lv_bipush (v := 32) hx hb dX1_init_45 (by decide) ?_
  refine va_newa (atype := .int) (ty := .int) (N' := 32) (a0 := (32, .inl (fun _ => 0))) hx hb (hts _ q_139) rfl hK hP hD hS hA (fun cA => rfl) (by decide) (by decide) (Nat.le_of_ble_eq_true rfl) (Nat.le_of_ble_eq_true rfl) (Nat.le_of_ble_eq_true rfl) dX1_init_47 (fun q_6 cA H hK1 hP hD hS => ?_)
  have e_q_6 := arrI hK1
  subst e_q_6
  have hP : va_P g.1 classes [(h0, .inr (1, [.ref q_1, .ref q_2, .ref q_3, .ref q_4, .ref q_5, .null, .null, .null, .null, .null, .null, .null, .int 0, .int 0])), (q_1, .inl (cI g, 32, .inl (fun _ => 0))), (q_2, .inl (cI g, 32, .inl (fun _ => 0))), (q_3, .inl (cI g, 32, .inl (fun _ => 0))), (q_4, .inl (cI g, 32, .inl (fun _ => 0))), (q_5, .inl (cI g, 32, .inl (fun _ => 0))), (q_6, .inl (cI g, 32, .inl (fun _ => 0)))] H := hP
  have hD : va_D A [(h0, .inr (1, [.ref q_1, .ref q_2, .ref q_3, .ref q_4, .ref q_5, .null, .null, .null, .null, .null, .null, .null, .int 0, .int 0])), (q_1, .inl (cI g, 32, .inl (fun _ => 0))), (q_2, .inl (cI g, 32, .inl (fun _ => 0))), (q_3, .inl (cI g, 32, .inl (fun _ => 0))), (q_4, .inl (cI g, 32, .inl (fun _ => 0))), (q_5, .inl (cI g, 32, .inl (fun _ => 0))), (q_6, .inl (cI g, 32, .inl (fun _ => 0)))] := hD
  refine va_putF (D := g.1) (ci := 1) (v := .ref q_6) (ty := .array .int) (C := RX1) (T := TX1) (N := 14) hx hb hts fw_X1 tyX1 tyX1_ok nmX1 hown hK hP hD hS 0 rfl rfl 5 (by decide) (hts _ q_165) (fun _ h9 => h9) rfl hnm rfl (by decide +kernel) rfl rfl (Nat.le_of_ble_eq_true rfl) dX1_init_49 (fun H locs hP hD hS => ?_)
  have hP : va_P g.1 classes [(h0, .inr (1, [.ref q_1, .ref q_2, .ref q_3, .ref q_4, .ref q_5, .ref q_6, .null, .null, .null, .null, .null, .null, .int 0, .int 0])), (q_1, .inl (cI g, 32, .inl (fun _ => 0))), (q_2, .inl (cI g, 32, .inl (fun _ => 0))), (q_3, .inl (cI g, 32, .inl (fun _ => 0))), (q_4, .inl (cI g, 32, .inl (fun _ => 0))), (q_5, .inl (cI g, 32, .inl (fun _ => 0))), (q_6, .inl (cI g, 32, .inl (fun _ => 0)))] H := hP
  have hD : va_D A [(h0, .inr (1, [.ref q_1, .ref q_2, .ref q_3, .ref q_4, .ref q_5, .ref q_6, .null, .null, .null, .null, .null, .null, .int 0, .int 0])), (q_1, .inl (cI g, 32, .inl (fun _ => 0))), (q_2, .inl (cI g, 32, .inl (fun _ => 0))), (q_3, .inl (cI g, 32, .inl (fun _ => 0))), (q_4, .inl (cI g, 32, .inl (fun _ => 0))), (q_5, .inl (cI g, 32, .inl (fun _ => 0))), (q_6, .inl (cI g, 32, .inl (fun _ => 0)))] := hD
  refine lv_aload_n hx hb dX1_init_52 rfl (lv_at hl 0 rfl) ?_
  refine lv_bipush (v := 32) hx hb dX1_init_53 (by decide) ?_
  refine va_newa (atype := .boolean) (ty := .boolean) (N' := 32) (a0 := (32, .inl (fun _ => 0))) hx hb (hts _ q_203) rfl hK hP hD hS hA (fun cA => rfl) (by decide) (by decide) (Nat.le_of_ble_eq_true rfl) (Nat.le_of_ble_eq_true rfl) (Nat.le_of_ble_eq_true rfl) dX1_init_55 (fun q_7 cA H hK1 hP hD hS => ?_)
  have e_q_7 := arrZ hK1
  subst e_q_7
  have hP : va_P g.1 classes [(h0, .inr (1, [.ref q_1, .ref q_2, .ref q_3, .ref q_4, .ref q_5, .ref q_6, .null, .null, .null, .null, .null, .null, .int 0, .int 0])), (q_1, .inl (cI g, 32, .inl (fun _ => 0))), (q_2, .inl (cI g, 32, .inl (fun _ => 0))), (q_3, .inl (cI g, 32, .inl (fun _ => 0))), (q_4, .inl (cI g, 32, .inl (fun _ => 0))), (q_5, .inl (cI g, 32, .inl (fun _ => 0))), (q_6, .inl (cI g, 32, .inl (fun _ => 0))), (q_7, .inl (cZ g, 32, .inl (fun _ => 0)))] H := hP
  have hD : va_D A [(h0, .inr (1, [.ref q_1, .ref q_2, .ref q_3, .ref q_4, .ref q_5, .ref q_6, .null, .null, .null, .null, .null, .null, .int 0, .int 0])), (q_1, .inl (cI g, 32, .inl (fun _ => 0))), (q_2, .inl (cI g, 32, .inl (fun _ => 0))), (q_3, .inl (cI g, 32, .inl (fun _ => 0))), (q_4, .inl (cI g, 32, .inl (fun _ => 0))), (q_5, .inl (cI g, 32, .inl (fun _ => 0))), (q_6, .inl (cI g, 32, .inl (fun _ => 0))), (q_7, .inl (cZ g, 32, .inl (fun _ => 0)))] := hD
  refine va_putF (D := g.1) (ci := 1) (v := .ref q_7) (ty := .array .boolean) (C := RX1) (T := TX1) (N := 14) hx hb hts fw_X1 tyX1 tyX1_ok nmX1 hown hK hP hD hS 0 rfl rfl 6 (by decide) (hts _ q_166) (fun _ h9 => h9) rfl hnm rfl (by decide +kernel) rfl rfl (Nat.le_of_ble_eq_true rfl) dX1_init_57 (fun H locs hP hD hS => ?_)
  have hP : va_P g.1 classes [(h0, .inr (1, [.ref q_1, .ref q_2, .ref q_3, .ref q_4, .ref q_5, .ref q_6, .ref q_7, .null, .null, .null, .null, .null, .int 0, .int 0])), (q_1, .inl (cI g, 32, .inl (fun _ => 0))), (q_2, .inl (cI g, 32, .inl (fun _ => 0))), (q_3, .inl (cI g, 32, .inl (fun _ => 0))), (q_4, .inl (cI g, 32, .inl (fun _ => 0))), (q_5, .inl (cI g, 32, .inl (fun _ => 0))), (q_6, .inl (cI g, 32, .inl (fun _ => 0))), (q_7, .inl (cZ g, 32, .inl (fun _ => 0)))] H := hP
  have hD : va_D A [(h0, .inr (1, [.ref q_1, .ref q_2, .ref q_3, .ref q_4, .ref q_5, .ref q_6, .ref q_7, .null, .null, .null, .null, .null, .int 0, .int 0])), (q_1, .inl (cI g, 32, .inl (fun _ => 0))), (q_2, .inl (cI g, 32, .inl (fun _ => 0))), (q_3, .inl (cI g, 32, .inl (fun _ => 0))), (q_4, .inl (cI g, 32, .inl (fun _ => 0))), (q_5, .inl (cI g, 32, .inl (fun _ => 0))), (q_6, .inl (cI g, 32, .inl (fun _ => 0))), (q_7, .inl (cZ g, 32, .inl (fun _ => 0)))] := hD
  refine lv_aload_n hx hb dX1_init_60 rfl (lv_at hl 0 rfl) ?_
  refine lv_bipush (v := 64) hx hb dX1_init_61 (by decide) ?_
  refine va_newa (atype := .int) (ty := .int) (N' := 64) (a0 := (64, .inl (fun _ => 0))) hx hb (hts _ q_139) rfl hK hP hD hS hA (fun cA => rfl) (by decide) (by decide) (Nat.le_of_ble_eq_true rfl) (Nat.le_of_ble_eq_true rfl) (Nat.le_of_ble_eq_true rfl) dX1_init_63 (fun q_8 cA H hK1 hP hD hS => ?_)
  have e_q_8 := arrI hK1
  subst e_q_8
  have hP : va_P g.1 classes [(h0, .inr (1, [.ref q_1, .ref q_2, .ref q_3, .ref q_4, .ref q_5, .ref q_6, .ref q_7, .null, .null, .null, .null, .null, .int 0, .int 0])), (q_1, .inl (cI g, 32, .inl (fun _ => 0))), (q_2, .inl (cI g, 32, .inl (fun _ => 0))), (q_3, .inl (cI g, 32, .inl (fun _ => 0))), (q_4, .inl (cI g, 32, .inl (fun _ => 0))), (q_5, .inl (cI g, 32, .inl (fun _ => 0))), (q_6, .inl (cI g, 32, .inl (fun _ => 0))), (q_7, .inl (cZ g, 32, .inl (fun _ => 0))), (q_8, .inl (cI g, 64, .inl (fun _ => 0)))] H := hP
  have hD : va_D A [(h0, .inr (1, [.ref q_1, .ref q_2, .ref q_3, .ref q_4, .ref q_5, .ref q_6, .ref q_7, .null, .null, .null, .null, .null, .int 0, .int 0])), (q_1, .inl (cI g, 32, .inl (fun _ => 0))), (q_2, .inl (cI g, 32, .inl (fun _ => 0))), (q_3, .inl (cI g, 32, .inl (fun _ => 0))), (q_4, .inl (cI g, 32, .inl (fun _ => 0))), (q_5, .inl (cI g, 32, .inl (fun _ => 0))), (q_6, .inl (cI g, 32, .inl (fun _ => 0))), (q_7, .inl (cZ g, 32, .inl (fun _ => 0))), (q_8, .inl (cI g, 64, .inl (fun _ => 0)))] := hD
  refine va_putF (D := g.1) (ci := 1) (v := .ref q_8) (ty := .array .int) (C := RX1) (T := TX1) (N := 14) hx hb hts fw_X1 tyX1 tyX1_ok nmX1 hown hK hP hD hS 0 rfl rfl 7 (by decide) (hts _ q_167) (fun _ h9 => h9) rfl hnm rfl (by decide +kernel) rfl rfl (Nat.le_of_ble_eq_true rfl) dX1_init_65 (fun H locs hP hD hS => ?_)
  have hP : va_P g.1 classes [(h0, .inr (1, [.ref q_1, .ref q_2, .ref q_3, .ref q_4, .ref q_5, .ref q_6, .ref q_7, .ref q_8, .null, .null, .null, .null, .int 0, .int 0])), (q_1, .inl (cI g, 32, .inl (fun _ => 0))), (q_2, .inl (cI g, 32, .inl (fun _ => 0))), (q_3, .inl (cI g, 32, .inl (fun _ => 0))), (q_4, .inl (cI g, 32, .inl (fun _ => 0))), (q_5, .inl (cI g, 32, .inl (fun _ => 0))), (q_6, .inl (cI g, 32, .inl (fun _ => 0))), (q_7, .inl (cZ g, 32, .inl (fun _ => 0))), (q_8, .inl (cI g, 64, .inl (fun _ => 0)))] H := hP
  have hD : va_D A [(h0, .inr (1, [.ref q_1, .ref q_2, .ref q_3, .ref q_4, .ref q_5, .ref q_6, .ref q_7, .ref q_8, .null, .null, .null, .null, .int 0, .int 0])), (q_1, .inl (cI g, 32, .inl (fun _ => 0))), (q_2, .inl (cI g, 32, .inl (fun _ => 0))), (q_3, .inl (cI g, 32, .inl (fun _ => 0))), (q_4, .inl (cI g, 32, .inl (fun _ => 0))), (q_5, .inl (cI g, 32, .inl (fun _ => 0))), (q_6, .inl (cI g, 32, .inl (fun _ => 0))), (q_7, .inl (cZ g, 32, .inl (fun _ => 0))), (q_8, .inl (cI g, 64, .inl (fun _ => 0)))] := hD
  refine lv_aload_n hx hb dX1_init_68 rfl (lv_at hl 0 rfl) ?_
  refine lv_bipush (v := 100) hx hb dX1_init_69 (by decide) ?_
  refine va_newa (atype := .int) (ty := .int) (N' := 100) (a0 := (100, .inl (fun _ => 0))) hx hb (hts _ q_139) rfl hK hP hD hS hA (fun cA => rfl) (by decide) (by decide) (Nat.le_of_ble_eq_true rfl) (Nat.le_of_ble_eq_true rfl) (Nat.le_of_ble_eq_true rfl) dX1_init_71 (fun q_9 cA H hK1 hP hD hS => ?_)
  have e_q_9 := arrI hK1
  subst e_q_9
  have hP : va_P g.1 classes [(h0, .inr (1, [.ref q_1, .ref q_2, .ref q_3, .ref q_4, .ref q_5, .ref q_6, .ref q_7, .ref q_8, .null, .null, .null, .null, .int 0, .int 0])), (q_1, .inl (cI g, 32, .inl (fun _ => 0))), (q_2, .inl (cI g, 32, .inl (fun _ => 0))), (q_3, .inl (cI g, 32, .inl (fun _ => 0))), (q_4, .inl (cI g, 32, .inl (fun _ => 0))), (q_5, .inl (cI g, 32, .inl (fun _ => 0))), (q_6, .inl (cI g, 32, .inl (fun _ => 0))), (q_7, .inl (cZ g, 32, .inl (fun _ => 0))), (q_8, .inl (cI g, 64, .inl (fun _ => 0))), (q_9, .inl (cI g, 100, .inl (fun _ => 0)))] H := hP
  have hD : va_D A [(h0, .inr (1, [.ref q_1, .ref q_2, .ref q_3, .ref q_4, .ref q_5, .ref q_6, .ref q_7, .ref q_8, .null, .null, .null, .null, .int 0, .int 0])), (q_1, .inl (cI g, 32, .inl (fun _ => 0))), (q_2, .inl (cI g, 32, .inl (fun _ => 0))), (q_3, .inl (cI g, 32, .inl (fun _ => 0))), (q_4, .inl (cI g, 32, .inl (fun _ => 0))), (q_5, .inl (cI g, 32, .inl (fun _ => 0))), (q_6, .inl (cI g, 32, .inl (fun _ => 0))), (q_7, .inl (cZ g, 32, .inl (fun _ => 0))), (q_8, .inl (cI g, 64, .inl (fun _ => 0))), (q_9, .inl (cI g, 100, .inl (fun _ => 0)))] := hD
  refine va_putF (D := g.1) (ci := 1) (v := .ref q_9) (ty := .array .int) (C := RX1) (T := TX1) (N := 14) hx hb hts fw_X1 tyX1 tyX1_ok nmX1 hown hK hP hD hS 0 rfl rfl 8 (by decide) (hts _ q_168) (fun _ h9 => h9) rfl hnm rfl (by decide +kernel) rfl rfl (Nat.le_of_ble_eq_true rfl) dX1_init_73 (fun H locs hP hD hS => ?_)
  have hP : va_P g.1 classes [(h0, .inr (1, [.ref q_1, .ref q_2, .ref q_3, .ref q_4, .ref q_5, .ref q_6, .ref q_7, .ref q_8, .ref q_9, .null, .null, .null, .int 0, .int 0])), (q_1, .inl (cI g, 32, .inl (fun _ => 0))), (q_2, .inl (cI g, 32, .inl (fun _ => 0))), (q_3, .inl (cI g, 32, .inl (fun _ => 0))), (q_4, .inl (cI g, 32, .inl (fun _ => 0))), (q_5, .inl (cI g, 32, .inl (fun _ => 0))), (q_6, .inl (cI g, 32, .inl (fun _ => 0))), (q_7, .inl (cZ g, 32, .inl (fun _ => 0))), (q_8, .inl (cI g, 64, .inl (fun _ => 0))), (q_9, .inl (cI g, 100, .inl (fun _ => 0)))] H := hP
  have hD : va_D A [(h0, .inr (1, [.ref q_1, .ref q_2, .ref q_3, .ref q_4, .ref q_5, .ref q_6, .ref q_7, .ref q_8, .ref q_9, .null, .null, .null, .int 0, .int 0])), (q_1, .inl (cI g, 32, .inl (fun _ => 0))), (q_2, .inl (cI g, 32, .inl (fun _ => 0))), (q_3, .inl (cI g, 32, .inl (fun _ => 0))), (q_4, .inl (cI g, 32, .inl (fun _ => 0))), (q_5, .inl (cI g, 32, .inl (fun _ => 0))), (q_6, .inl (cI g, 32, .inl (fun _ => 0))), (q_7, .inl (cZ g, 32, .inl (fun _ => 0))), (q_8, .inl (cI g, 64, .inl (fun _ => 0))), (q_9, .inl (cI g, 100, .inl (fun _ => 0)))] := hD
  refine lv_aload_n hx hb dX1_init_76 rfl (lv_at hl 0 rfl) ?_
  refine lv_bipush (v := 100) hx hb dX1_init_77 (by decide) ?_
  refine va_newa (atype := .int) (ty := .int) (N' := 100) (a0 := (100, .inl (fun _ => 0))) hx hb (hts _ q_139) rfl hK hP hD hS hA (fun cA => rfl) (by decide) (by decide) (Nat.le_of_ble_eq_true rfl) (Nat.le_of_ble_eq_true rfl) (Nat.le_of_ble_eq_true rfl) dX1_init_79 (fun q_10 cA H hK1 hP hD hS => ?_)
  have e_q_10 := arrI hK1
  subst e_q_10
  have hP : va_P g.1 classes [(h0, .inr (1, [.ref q_1, .ref q_2, .ref q_3, .ref q_4, .ref q_5, .ref q_6, .ref q_7, .ref q_8, .ref q_9, .null, .null, .null, .int 0, .int 0])), (q_1, .inl (cI g, 32, .inl (fun _ => 0))), (q_2, .inl (cI g, 32, .inl (fun _ => 0))), (q_3, .inl (cI g, 32, .inl (fun _ => 0))), (q_4, .inl (cI g, 32, .inl (fun _ => 0))), (q_5, .inl (cI g, 32, .inl (fun _ => 0))), (q_6, .inl (cI g, 32, .inl (fun _ => 0))), (q_7, .inl (cZ g, 32, .inl (fun _ => 0))), (q_8, .inl (cI g, 64, .inl (fun _ => 0))), (q_9, .inl (cI g, 100, .inl (fun _ => 0))), (q_10, .inl (cI g, 100, .inl (fun _ => 0)))] H := hP
  have hD : va_D A [(h0, .inr (1, [.ref q_1, .ref q_2, .ref q_3, .ref q_4, .ref q_5, .ref q_6, .ref q_7, .ref q_8, .ref q_9, .null, .null, .null, .int 0, .int 0])), (q_1, .inl (cI g, 32, .inl (fun _ => 0))), (q_2, .inl (cI g, 32, .inl (fun _ => 0))), (q_3, .inl (cI g, 32, .inl (fun _ => 0))), (q_4, .inl (cI g, 32, .inl (fun _ => 0))), (q_5, .inl (cI g, 32, .inl (fun _ => 0))), (q_6, .inl (cI g, 32, .inl (fun _ => 0))), (q_7, .inl (cZ g, 32, .inl (fun _ => 0))), (q_8, .inl (cI g, 64, .inl (fun _ => 0))), (q_9, .inl (cI g, 100, .inl (fun _ => 0))), (q_10, .inl (cI g, 100, .inl (fun _ => 0)))] := hD
  refine va_putF (D := g.1) (ci := 1) (v := .ref q_10) (ty := .array .int) (C := RX1) (T := TX1) (N := 14) hx hb hts fw_X1 tyX1 tyX1_ok nmX1 hown hK hP hD hS 0 rfl rfl 9 (by decide) (hts _ q_169) (fun _ h9 => h9) rfl hnm rfl (by decide +kernel) rfl rfl (Nat.le_of_ble_eq_true rfl) dX1_init_81 (fun H locs hP hD hS => ?_)
  have hP : va_P g.1 classes [(h0, .inr (1, [.ref q_1, .ref q_2, .ref q_3, .ref q_4, .ref q_5, .ref q_6, .ref q_7, .ref q_8, .ref q_9, .ref q_10, .null, .null, .int 0, .int 0])), (q_1, .inl (cI g, 32, .inl (fun _ => 0))), (q_2, .inl (cI g, 32, .inl (fun _ => 0))), (q_3, .inl (cI g, 32, .inl (fun _ => 0))), (q_4, .inl (cI g, 32, .inl (fun _ => 0))), (q_5, .inl (cI g, 32, .inl (fun _ => 0))), (q_6, .inl (cI g, 32, .inl (fun _ => 0))), (q_7, .inl (cZ g, 32, .inl (fun _ => 0))), (q_8, .inl (cI g, 64, .inl (fun _ => 0))), (q_9, .inl (cI g, 100, .inl (fun _ => 0))), (q_10, .inl (cI g, 100, .inl (fun _ => 0)))] H := hP
  have hD : va_D A [(h0, .inr (1, [.ref q_1, .ref q_2, .ref q_3, .ref q_4, .ref q_5, .ref q_6, .ref q_7, .ref q_8, .ref q_9, .ref q_10, .null, .null, .int 0, .int 0])), (q_1, .inl (cI g, 32, .inl (fun _ => 0))), (q_2, .inl (cI g, 32, .inl (fun _ => 0))), (q_3, .inl (cI g, 32, .inl (fun _ => 0))), (q_4, .inl (cI g, 32, .inl (fun _ => 0))), (q_5, .inl (cI g, 32, .inl (fun _ => 0))), (q_6, .inl (cI g, 32, .inl (fun _ => 0))), (q_7, .inl (cZ g, 32, .inl (fun _ => 0))), (q_8, .inl (cI g, 64, .inl (fun _ => 0))), (q_9, .inl (cI g, 100, .inl (fun _ => 0))), (q_10, .inl (cI g, 100, .inl (fun _ => 0)))] := hD
  refine lv_aload_n hx hb dX1_init_84 rfl (lv_at hl 0 rfl) ?_
  refine lv_bipush (v := 100) hx hb dX1_init_85 (by decide) ?_
  refine va_newa (atype := .int) (ty := .int) (N' := 100) (a0 := (100, .inl (fun _ => 0))) hx hb (hts _ q_139) rfl hK hP hD hS hA (fun cA => rfl) (by decide) (by decide) (Nat.le_of_ble_eq_true rfl) (Nat.le_of_ble_eq_true rfl) (Nat.le_of_ble_eq_true rfl) dX1_init_87 (fun q_11 cA H hK1 hP hD hS => ?_)
  have e_q_11 := arrI hK1
  subst e_q_11
  have hP : va_P g.1 classes [(h0, .inr (1, [.ref q_1, .ref q_2, .ref q_3, .ref q_4, .ref q_5, .ref q_6, .ref q_7, .ref q_8, .ref q_9, .ref q_10, .null, .null, .int 0, .int 0])), (q_1, .inl (cI g, 32, .inl (fun _ => 0))), (q_2, .inl (cI g, 32, .inl (fun _ => 0))), (q_3, .inl (cI g, 32, .inl (fun _ => 0))), (q_4, .inl (cI g, 32, .inl (fun _ => 0))), (q_5, .inl (cI g, 32, .inl (fun _ => 0))), (q_6, .inl (cI g, 32, .inl (fun _ => 0))), (q_7, .inl (cZ g, 32, .inl (fun _ => 0))), (q_8, .inl (cI g, 64, .inl (fun _ => 0))), (q_9, .inl (cI g, 100, .inl (fun _ => 0))), (q_10, .inl (cI g, 100, .inl (fun _ => 0))), (q_11, .inl (cI g, 100, .inl (fun _ => 0)))] H := hP
  have hD : va_D A [(h0, .inr (1, [.ref q_1, .ref q_2, .ref q_3, .ref q_4, .ref q_5, .ref q_6, .ref q_7, .ref q_8, .ref q_9, .ref q_10, .null, .null, .int 0, .int 0])), (q_1, .inl (cI g, 32, .inl (fun _ => 0))), (q_2, .inl (cI g, 32, .inl (fun _ => 0))), (q_3, .inl (cI g, 32, .inl (fun _ => 0))), (q_4, .inl (cI g, 32, .inl (fun _ => 0))), (q_5, .inl (cI g, 32, .inl (fun _ => 0))), (q_6, .inl (cI g, 32, .inl (fun _ => 0))), (q_7, .inl (cZ g, 32, .inl (fun _ => 0))), (q_8, .inl (cI g, 64, .inl (fun _ => 0))), (q_9, .inl (cI g, 100, .inl (fun _ => 0))), (q_10, .inl (cI g, 100, .inl (fun _ => 0))), (q_11, .inl (cI g, 100, .inl (fun _ => 0)))] := hD
  refine va_putF (D := g.1) (ci := 1) (v := .ref q_11) (ty := .array .int) (C := RX1) (T := TX1) (N := 14) hx hb hts fw_X1 tyX1 tyX1_ok nmX1 hown hK hP hD hS 0 rfl rfl 10 (by decide) (hts _ q_170) (fun _ h9 => h9) rfl hnm rfl (by decide +kernel) rfl rfl (Nat.le_of_ble_eq_true rfl) dX1_init_89 (fun H locs hP hD hS => ?_)
  have hP : va_P g.1 classes [(h0, .inr (1, [.ref q_1, .ref q_2, .ref q_3, .ref q_4, .ref q_5, .ref q_6, .ref q_7, .ref q_8, .ref q_9, .ref q_10, .ref q_11, .null, .int 0, .int 0])), (q_1, .inl (cI g, 32, .inl (fun _ => 0))), (q_2, .inl (cI g, 32, .inl (fun _ => 0))), (q_3, .inl (cI g, 32, .inl (fun _ => 0))), (q_4, .inl (cI g, 32, .inl (fun _ => 0))), (q_5, .inl (cI g, 32, .inl (fun _ => 0))), (q_6, .inl (cI g, 32, .inl (fun _ => 0))), (q_7, .inl (cZ g, 32, .inl (fun _ => 0))), (q_8, .inl (cI g, 64, .inl (fun _ => 0))), (q_9, .inl (cI g, 100, .inl (fun _ => 0))), (q_10, .inl (cI g, 100, .inl (fun _ => 0))), (q_11, .inl (cI g, 100, .inl (fun _ => 0)))] H := hP
  have hD : va_D A [(h0, .inr (1, [.ref q_1, .ref q_2, .ref q_3, .ref q_4, .ref q_5, .ref q_6, .ref q_7, .ref q_8, .ref q_9, .ref q_10, .ref q_11, .null, .int 0, .int 0])), (q_1, .inl (cI g, 32, .inl (fun _ => 0))), (q_2, .inl (cI g, 32, .inl (fun _ => 0))), (q_3, .inl (cI g, 32, .inl (fun _ => 0))), (q_4, .inl (cI g, 32, .inl (fun _ => 0))), (q_5, .inl (cI g, 32, .inl (fun _ => 0))), (q_6, .inl (cI g, 32, .inl (fun _ => 0))), (q_7, .inl (cZ g, 32, .inl (fun _ => 0))), (q_8, .inl (cI g, 64, .inl (fun _ => 0))), (q_9, .inl (cI g, 100, .inl (fun _ => 0))), (q_10, .inl (cI g, 100, .inl (fun _ => 0))), (q_11, .inl (cI g, 100, .inl (fun _ => 0)))] := hD
  refine lv_aload_n hx hb dX1_init_92 rfl (lv_at hl 0 rfl) ?_
  refine lv_bipush (v := 32) hx hb dX1_init_93 (by decide) ?_
  refine va_newa (atype := .int) (ty := .int) (N' := 32) (a0 := (32, .inl (fun _ => 0))) hx hb (hts _ q_139) rfl hK hP hD hS hA (fun cA => rfl) (by decide) (by decide) (Nat.le_of_ble_eq_true rfl) (Nat.le_of_ble_eq_true rfl) (Nat.le_of_ble_eq_true rfl) dX1_init_95 (fun q_12 cA H hK1 hP hD hS => ?_)
  have e_q_12 := arrI hK1
  subst e_q_12
  have hP : va_P g.1 classes [(h0, .inr (1, [.ref q_1, .ref q_2, .ref q_3, .ref q_4, .ref q_5, .ref q_6, .ref q_7, .ref q_8, .ref q_9, .ref q_10, .ref q_11, .null, .int 0, .int 0])), (q_1, .inl (cI g, 32, .inl (fun _ => 0))), (q_2, .inl (cI g, 32, .inl (fun _ => 0))), (q_3, .inl (cI g, 32, .inl (fun _ => 0))), (q_4, .inl (cI g, 32, .inl (fun _ => 0))), (q_5, .inl (cI g, 32, .inl (fun _ => 0))), (q_6, .inl (cI g, 32, .inl (fun _ => 0))), (q_7, .inl (cZ g, 32, .inl (fun _ => 0))), (q_8, .inl (cI g, 64, .inl (fun _ => 0))), (q_9, .inl (cI g, 100, .inl (fun _ => 0))), (q_10, .inl (cI g, 100, .inl (fun _ => 0))), (q_11, .inl (cI g, 100, .inl (fun _ => 0))), (q_12, .inl (cI g, 32, .inl (fun _ => 0)))] H := hP
  have hD : va_D A [(h0, .inr (1, [.ref q_1, .ref q_2, .ref q_3, .ref q_4, .ref q_5, .ref q_6, .ref q_7, .ref q_8, .ref q_9, .ref q_10, .ref q_11, .null, .int 0, .int 0])), (q_1, .inl (cI g, 32, .inl (fun _ => 0))), (q_2, .inl (cI g, 32, .inl (fun _ => 0))), (q_3, .inl (cI g, 32, .inl (fun _ => 0))), (q_4, .inl (cI g, 32, .inl (fun _ => 0))), (q_5, .inl (cI g, 32, .inl (fun _ => 0))), (q_6, .inl (cI g, 32, .inl (fun _ => 0))), (q_7, .inl (cZ g, 32, .inl (fun _ => 0))), (q_8, .inl (cI g, 64, .inl (fun _ => 0))), (q_9, .inl (cI g, 100, .inl (fun _ => 0))), (q_10, .inl (cI g, 100, .inl (fun _ => 0))), (q_11, .inl (cI g, 100, .inl (fun _ => 0))), (q_12, .inl (cI g, 32, .inl (fun _ => 0)))] := hD
  refine va_putF (D := g.1) (ci := 1) (v := .ref q_12) (ty := .array .int) (C := RX1) (T := TX1) (N := 14) hx hb hts fw_X1 tyX1 tyX1_ok nmX1 hown hK hP hD hS 0 rfl rfl 11 (by decide) (hts _ q_171) (fun _ h9 => h9) rfl hnm rfl (by decide +kernel) rfl rfl (Nat.le_of_ble_eq_true rfl) dX1_init_97 (fun H locs hP hD hS => ?_)
  have hP : va_P g.1 classes [(h0, .inr (1, [.ref q_1, .ref q_2, .ref q_3, .ref q_4, .ref q_5, .ref q_6, .ref q_7, .ref q_8, .ref q_9, .ref q_10, .ref q_11, .ref q_12, .int 0, .int 0])), (q_1, .inl (cI g, 32, .inl (fun _ => 0))), (q_2, .inl (cI g, 32, .inl (fun _ => 0))), (q_3, .inl (cI g, 32, .inl (fun _ => 0))), (q_4, .inl (cI g, 32, .inl (fun _ => 0))), (q_5, .inl (cI g, 32, .inl (fun _ => 0))), (q_6, .inl (cI g, 32, .inl (fun _ => 0))), (q_7, .inl (cZ g, 32, .inl (fun _ => 0))), (q_8, .inl (cI g, 64, .inl (fun _ => 0))), (q_9, .inl (cI g, 100, .inl (fun _ => 0))), (q_10, .inl (cI g, 100, .inl (fun _ => 0))), (q_11, .inl (cI g, 100, .inl (fun _ => 0))), (q_12, .inl (cI g, 32, .inl (fun _ => 0)))] H := hP
  have hD : va_D A [(h0, .inr (1, [.ref q_1, .ref q_2, .ref q_3, .ref q_4, .ref q_5, .ref q_6, .ref q_7, .ref q_8, .ref q_9, .ref q_10, .ref q_11, .ref q_12, .int 0, .int 0])), (q_1, .inl (cI g, 32, .inl (fun _ => 0))), (q_2, .inl (cI g, 32, .inl (fun _ => 0))), (q_3, .inl (cI g, 32, .inl (fun _ => 0))), (q_4, .inl (cI g, 32, .inl (fun _ => 0))), (q_5, .inl (cI g, 32, .inl (fun _ => 0))), (q_6, .inl (cI g, 32, .inl (fun _ => 0))), (q_7, .inl (cZ g, 32, .inl (fun _ => 0))), (q_8, .inl (cI g, 64, .inl (fun _ => 0))), (q_9, .inl (cI g, 100, .inl (fun _ => 0))), (q_10, .inl (cI g, 100, .inl (fun _ => 0))), (q_11, .inl (cI g, 100, .inl (fun _ => 0))), (q_12, .inl (cI g, 32, .inl (fun _ => 0)))] := hD
  refine lv_aload_n hx hb dX1_init_100 rfl (lv_at hl 0 rfl) ?_
  refine va_get (D := g.1) (ci := 1) (v := .ref q_8) (C := RX1) (T := TX1) (N := 14) hx hb hts fw_X1 hown hK hP 0 rfl rfl 7 (by decide) (hts _ q_167) (fun _ h9 => h9) rfl dX1_init_101 ?_
  refine lv_bipush (v := (-9)) hx hb dX1_init_104 (by decide) ?_
  refine kSv (As := [.ref q_8, .int (-9)]) (rest := []) (wr := [(h0, .inr (1, [.ref q_1, .ref q_2, .ref q_3, .ref q_4, .ref q_5, .ref q_6, .ref q_7, .ref q_8, .ref q_9, .ref q_10, .ref q_11, .ref q_12, .int 0, .int 0])), (q_1, .inl (cI g, 32, .inl (fun _ => 0))), (q_2, .inl (cI g, 32, .inl (fun _ => 0))), (q_3, .inl (cI g, 32, .inl (fun _ => 0))), (q_4, .inl (cI g, 32, .inl (fun _ => 0))), (q_5, .inl (cI g, 32, .inl (fun _ => 0))), (q_6, .inl (cI g, 32, .inl (fun _ => 0))), (q_7, .inl (cZ g, 32, .inl (fun _ => 0))), (q_9, .inl (cI g, 100, .inl (fun _ => 0))), (q_10, .inl (cI g, 100, .inl (fun _ => 0))), (q_11, .inl (cI g, 100, .inl (fun _ => 0))), (q_12, .inl (cI g, 32, .inl (fun _ => 0)))]) X (kc_J7_fill_53178 l g q_8 64 (fun _ => 0) (-9) (by first | decide | omega)) ok_J7_fill_53178 q_124 q_159 rfl hK hP hD hS hA hZ hl.1 [8] [0, 1, 2, 3, 4, 5, 6, 7, 9, 10, 11, 12] rfl rfl rfl rfl rfl rfl (Nat.le_of_ble_eq_true rfl) ⟨Nat.le_of_ble_eq_true rfl, Nat.le_of_ble_eq_true rfl⟩ dX1_init_106 ⟨Nat.le_of_ble_eq_true rfl, Nat.le_of_ble_eq_true rfl⟩ (fun w1 H locs hw_14 hP hD hS => ?_)
  rw [sp_J7_fill_53178] at hw_14
  subst hw_14
  have hP : va_P g.1 classes [(h0, .inr (1, [.ref q_1, .ref q_2, .ref q_3, .ref q_4, .ref q_5, .ref q_6, .ref q_7, .ref q_8, .ref q_9, .ref q_10, .ref q_11, .ref q_12, .int 0, .int 0])), (q_1, .inl (cI g, 32, .inl (fun _ => 0))), (q_2, .inl (cI g, 32, .inl (fun _ => 0))), (q_3, .inl (cI g, 32, .inl (fun _ => 0))), (q_4, .inl (cI g, 32, .inl (fun _ => 0))), (q_5, .inl (cI g, 32, .inl (fun _ => 0))), (q_6, .inl (cI g, 32, .inl (fun _ => 0))), (q_7, .inl (cZ g, 32, .inl (fun _ => 0))), (q_9, .inl (cI g, 100, .inl (fun _ => 0))), (q_10, .inl (cI g, 100, .inl (fun _ => 0))), (q_11, .inl (cI g, 100, .inl (fun _ => 0))), (q_12, .inl (cI g, 32, .inl (fun _ => 0))), (q_8, .inl (cI g, 64, .inl (fun _ => (-9))))] H := hP
  have hD : va_D A [(h0, .inr (1, [.ref q_1, .ref q_2, .ref q_3, .ref q_4, .ref q_5, .ref q_6, .ref q_7, .ref q_8, .ref q_9, .ref q_10, .ref q_11, .ref q_12, .int 0, .int 0])), (q_1, .inl (cI g, 32, .inl (fun _ => 0))), (q_2, .inl (cI g, 32, .inl (fun _ => 0))), (q_3, .inl (cI g, 32, .inl (fun _ => 0))), (q_4, .inl (cI g, 32, .inl (fun _ => 0))), (q_5, .inl (cI g, 32, .inl (fun _ => 0))), (q_6, .inl (cI g, 32, .inl (fun _ => 0))), (q_7, .inl (cZ g, 32, .inl (fun _ => 0))), (q_9, .inl (cI g, 100, .inl (fun _ => 0))), (q_10, .inl (cI g, 100, .inl (fun _ => 0))), (q_11, .inl (cI g, 100, .inl (fun _ => 0))), (q_12, .inl (cI g, 32, .inl (fun _ => 0))), (q_8, .inl (cI g, 64, .inl (fun _ => (-9))))] := hD
  exact rV X hK hP hD hS dX1_init_109 (Nat.le_of_ble_eq_true rfl) (Nat.le_of_ble_eq_true rfl) ⟨q_1, q_2, q_3, q_4, q_5, q_6, q_7, q_9, q_10, q_11, q_12, q_8, rfl⟩
set_option maxHeartbeats 4000000 in
set_option maxRecDepth 100000 in
theorem c_X5_init (l : Launch) (g : GG) (h0 : Nat) : MV l g yX5_init cX5_init 1 1 12 4 160 [(h0, .inr (5, [.null, .null, .null, .null, .int 0]))] [.ref h0] (fun ww_ => ∃ (q_1 : Nat) (q_2 : Nat) (q_3 : Nat) (q_4 : Nat), ww_ = [(h0, .inr (5, [.ref q_1, .ref q_2, .ref q_3, .ref q_4, .int 0])), (q_1, .inl (cI g, 40, .inl (fun _ => 0))), (q_2, .inl (cI g, 40, .inl (fun _ => 0))), (q_3, .inl (cZ g, 40, .inl (fun _ => 0))), (q_4, .inl (cI g, 40, .inl (fun _ => 0)))]) := by
  refine met_of (fun A => va_Qv _ (bW g A) A) (by decide) (Nat.le_of_ble_eq_true rfl) ?_
  intro p e s m below meth c A ls X hK hP hD hA hZ hS hl
  have hx := X.1
  have hb := X.2.1
  have hml := X.2.2.1
  have hown := X.2.2.2.1
  have hts := X.2.2.2.2.1
  have hnm := X.2.2.2.2.2.2.2
  have hl : lv_has ls 1 [(0, .ref h0)] := hl
  refine lv_aload_n hx hb dX5_init_0 rfl (lv_at hl 0 rfl) ?_
  refine W.objInit hx hb hown (hts _ q_209) (hts _ q_112) (hts _ q_113) rfl (by rw [hml]; exact hl.1) rfl dX5_init_1 (Nat.le_of_ble_eq_true rfl) (Nat.le_of_ble_eq_true rfl) ?_
  refine W.eq (g2 := F0 m 4 ls []) rfl ?_
  refine lv_aload_n hx hb dX5_init_4 rfl (lv_at hl 0 rfl) ?_
  refine lv_bipush (v := 40) hx hb dX5_init_5 (by decide) ?_
  refine va_newa (atype := .int) (ty := .int) (N' := 40) (a0 := (40, .inl (fun _ => 0))) hx hb (hts _ q_139) rfl hK hP hD hS hA (fun cA => rfl) (by decide) (by decide) (Nat.le_of_ble_eq_true rfl) (Nat.le_of_ble_eq_true rfl) (Nat.le_of_ble_eq_true rfl) dX5_init_7 (fun q_1 cA H hK1 hP hD hS => ?_)
  have e_q_1 := arrI hK1
  subst e_q_1
  have hP : va_P g.1 classes [(h0, .inr (5, [.null, .null, .null, .null, .int 0])), (q_1, .inl (cI g, 40, .inl (fun _ => 0)))] H := hP
  have hD : va_D A [(h0, .inr (5, [.null, .null, .null, .null, .int 0])), (q_1, .inl (cI g, 40, .inl (fun _ => 0)))] := hD
  refine va_putF (D := g.1) (ci := 5) (v := .ref q_1) (ty := .array .int) (C := RX5) (T := TX5) (N := 5) hx hb hts fw_X5 tyX5 tyX5_ok nmX5 hown hK hP hD hS 0 rfl rfl 0 (by decide) (hts _ q_210) (fun _ h9 => h9) rfl hnm rfl (by decide +kernel) rfl rfl (Nat.le_of_ble_eq_true rfl) dX5_init_9 (fun H locs hP hD hS => ?_)
  have hP : va_P g.1 classes [(h0, .inr (5, [.ref q_1, .null, .null, .null, .int 0])), (q_1, .inl (cI g, 40, .inl (fun _ => 0)))] H := hP
  have hD : va_D A [(h0, .inr (5, [.ref q_1, .null, .null, .null, .int 0])), (q_1, .inl (cI g, 40, .inl (fun _ => 0)))] := hD
  refine lv_aload_n hx hb dX5_init_12 rfl (lv_at hl 0 rfl) ?_
  refine lv_bipush (v := 40) hx hb dX5_init_13 (by decide) ?_
  refine va_newa (atype := .int) (ty := .int) (N' := 40) (a0 := (40, .inl (fun _ => 0))) hx hb (hts _ q_139) rfl hK hP hD hS hA (fun cA => rfl) (by decide) (by decide) (Nat.le_of_ble_eq_true rfl) (Nat.le_of_ble_eq_true rfl) (Nat.le_of_ble_eq_true rfl) dX5_init_15 (fun q_2 cA H hK1 hP hD hS => ?_)
  have e_q_2 := arrI hK1
  subst e_q_2
  have hP : va_P g.1 classes [(h0, .inr (5, [.ref q_1, .null, .null, .null, .int 0])), (q_1, .inl (cI g, 40, .inl (fun _ => 0))), (q_2, .inl (cI g, 40, .inl (fun _ => 0)))] H := hP
  have hD : va_D A [(h0, .inr (5, [.ref q_1, .null, .null, .null, .int 0])), (q_1, .inl (cI g, 40, .inl (fun _ => 0))), (q_2, .inl (cI g, 40, .inl (fun _ => 0)))] := hD
  refine va_putF (D := g.1) (ci := 5) (v := .ref q_2) (ty := .array .int) (C := RX5) (T := TX5) (N := 5) hx hb hts fw_X5 tyX5 tyX5_ok nmX5 hown hK hP hD hS 0 rfl rfl 1 (by decide) (hts _ q_211) (fun _ h9 => h9) rfl hnm rfl (by decide +kernel) rfl rfl (Nat.le_of_ble_eq_true rfl) dX5_init_17 (fun H locs hP hD hS => ?_)
  have hP : va_P g.1 classes [(h0, .inr (5, [.ref q_1, .ref q_2, .null, .null, .int 0])), (q_1, .inl (cI g, 40, .inl (fun _ => 0))), (q_2, .inl (cI g, 40, .inl (fun _ => 0)))] H := hP
  have hD : va_D A [(h0, .inr (5, [.ref q_1, .ref q_2, .null, .null, .int 0])), (q_1, .inl (cI g, 40, .inl (fun _ => 0))), (q_2, .inl (cI g, 40, .inl (fun _ => 0)))] := hD
  refine lv_aload_n hx hb dX5_init_20 rfl (lv_at hl 0 rfl) ?_
  refine lv_bipush (v := 40) hx hb dX5_init_21 (by decide) ?_
  refine va_newa (atype := .boolean) (ty := .boolean) (N' := 40) (a0 := (40, .inl (fun _ => 0))) hx hb (hts _ q_203) rfl hK hP hD hS hA (fun cA => rfl) (by decide) (by decide) (Nat.le_of_ble_eq_true rfl) (Nat.le_of_ble_eq_true rfl) (Nat.le_of_ble_eq_true rfl) dX5_init_23 (fun q_3 cA H hK1 hP hD hS => ?_)
  have e_q_3 := arrZ hK1
  subst e_q_3
  have hP : va_P g.1 classes [(h0, .inr (5, [.ref q_1, .ref q_2, .null, .null, .int 0])), (q_1, .inl (cI g, 40, .inl (fun _ => 0))), (q_2, .inl (cI g, 40, .inl (fun _ => 0))), (q_3, .inl (cZ g, 40, .inl (fun _ => 0)))] H := hP
  have hD : va_D A [(h0, .inr (5, [.ref q_1, .ref q_2, .null, .null, .int 0])), (q_1, .inl (cI g, 40, .inl (fun _ => 0))), (q_2, .inl (cI g, 40, .inl (fun _ => 0))), (q_3, .inl (cZ g, 40, .inl (fun _ => 0)))] := hD
  refine va_putF (D := g.1) (ci := 5) (v := .ref q_3) (ty := .array .boolean) (C := RX5) (T := TX5) (N := 5) hx hb hts fw_X5 tyX5 tyX5_ok nmX5 hown hK hP hD hS 0 rfl rfl 2 (by decide) (hts _ q_212) (fun _ h9 => h9) rfl hnm rfl (by decide +kernel) rfl rfl (Nat.le_of_ble_eq_true rfl) dX5_init_25 (fun H locs hP hD hS => ?_)
  have hP : va_P g.1 classes [(h0, .inr (5, [.ref q_1, .ref q_2, .ref q_3, .null, .int 0])), (q_1, .inl (cI g, 40, .inl (fun _ => 0))), (q_2, .inl (cI g, 40, .inl (fun _ => 0))), (q_3, .inl (cZ g, 40, .inl (fun _ => 0)))] H := hP
  have hD : va_D A [(h0, .inr (5, [.ref q_1, .ref q_2, .ref q_3, .null, .int 0])), (q_1, .inl (cI g, 40, .inl (fun _ => 0))), (q_2, .inl (cI g, 40, .inl (fun _ => 0))), (q_3, .inl (cZ g, 40, .inl (fun _ => 0)))] := hD
  refine lv_aload_n hx hb dX5_init_28 rfl (lv_at hl 0 rfl) ?_
  refine lv_bipush (v := 40) hx hb dX5_init_29 (by decide) ?_
  refine va_newa (atype := .int) (ty := .int) (N' := 40) (a0 := (40, .inl (fun _ => 0))) hx hb (hts _ q_139) rfl hK hP hD hS hA (fun cA => rfl) (by decide) (by decide) (Nat.le_of_ble_eq_true rfl) (Nat.le_of_ble_eq_true rfl) (Nat.le_of_ble_eq_true rfl) dX5_init_31 (fun q_4 cA H hK1 hP hD hS => ?_)
  have e_q_4 := arrI hK1
  subst e_q_4
  have hP : va_P g.1 classes [(h0, .inr (5, [.ref q_1, .ref q_2, .ref q_3, .null, .int 0])), (q_1, .inl (cI g, 40, .inl (fun _ => 0))), (q_2, .inl (cI g, 40, .inl (fun _ => 0))), (q_3, .inl (cZ g, 40, .inl (fun _ => 0))), (q_4, .inl (cI g, 40, .inl (fun _ => 0)))] H := hP
  have hD : va_D A [(h0, .inr (5, [.ref q_1, .ref q_2, .ref q_3, .null, .int 0])), (q_1, .inl (cI g, 40, .inl (fun _ => 0))), (q_2, .inl (cI g, 40, .inl (fun _ => 0))), (q_3, .inl (cZ g, 40, .inl (fun _ => 0))), (q_4, .inl (cI g, 40, .inl (fun _ => 0)))] := hD
  refine va_putF (D := g.1) (ci := 5) (v := .ref q_4) (ty := .array .int) (C := RX5) (T := TX5) (N := 5) hx hb hts fw_X5 tyX5 tyX5_ok nmX5 hown hK hP hD hS 0 rfl rfl 3 (by decide) (hts _ q_213) (fun _ h9 => h9) rfl hnm rfl (by decide +kernel) rfl rfl (Nat.le_of_ble_eq_true rfl) dX5_init_33 (fun H locs hP hD hS => ?_)
  have hP : va_P g.1 classes [(h0, .inr (5, [.ref q_1, .ref q_2, .ref q_3, .ref q_4, .int 0])), (q_1, .inl (cI g, 40, .inl (fun _ => 0))), (q_2, .inl (cI g, 40, .inl (fun _ => 0))), (q_3, .inl (cZ g, 40, .inl (fun _ => 0))), (q_4, .inl (cI g, 40, .inl (fun _ => 0)))] H := hP
  have hD : va_D A [(h0, .inr (5, [.ref q_1, .ref q_2, .ref q_3, .ref q_4, .int 0])), (q_1, .inl (cI g, 40, .inl (fun _ => 0))), (q_2, .inl (cI g, 40, .inl (fun _ => 0))), (q_3, .inl (cZ g, 40, .inl (fun _ => 0))), (q_4, .inl (cI g, 40, .inl (fun _ => 0)))] := hD
  exact rV X hK hP hD hS dX5_init_36 (Nat.le_of_ble_eq_true rfl) (Nat.le_of_ble_eq_true rfl) ⟨q_1, q_2, q_3, q_4, rfl⟩
set_option maxHeartbeats 4000000 in
set_option maxRecDepth 100000 in
theorem c_X7_init (l : Launch) (g : GG) (h0 : Nat) : MV l g yX7_init cX7_init 1 1 12 3 160 [(h0, .inr (7, [.null, .null, .null, .int 0]))] [.ref h0] (fun ww_ => ∃ (q_1 : Nat) (q_2 : Nat) (q_3 : Nat), ww_ = [(h0, .inr (7, [.ref q_1, .ref q_2, .ref q_3, .int 0])), (q_1, .inl (cI g, 16, .inl (fun _ => 0))), (q_2, .inl (cI g, 16, .inl (fun _ => 0))), (q_3, .inl (cI g, 128, .inl (fun _ => 0)))]) := by
  refine met_of (fun A => va_Qv _ (bW g A) A) (by decide) (Nat.le_of_ble_eq_true rfl) ?_
  intro p e s m below meth c A ls X hK hP hD hA hZ hS hl
  have hx := X.1
  have hb := X.2.1
  have hml := X.2.2.1
  have hown := X.2.2.2.1
  have hts := X.2.2.2.2.1
  have hnm := X.2.2.2.2.2.2.2
  have hl : lv_has ls 1 [(0, .ref h0)] := hl
  refine lv_aload_n hx hb dX7_init_0 rfl (lv_at hl 0 rfl) ?_
  refine W.objInit hx hb hown (hts _ q_231) (hts _ q_112) (hts _ q_113) rfl (by rw [hml]; exact hl.1) rfl dX7_init_1 (Nat.le_of_ble_eq_true rfl) (Nat.le_of_ble_eq_true rfl) ?_
  refine W.eq (g2 := F0 m 4 ls []) rfl ?_
  refine lv_aload_n hx hb dX7_init_4 rfl (lv_at hl 0 rfl) ?_
  refine lv_bipush (v := 16) hx hb dX7_init_5 (by decide) ?_
  refine va_newa (atype := .int) (ty := .int) (N' := 16) (a0 := (16, .inl (fun _ => 0))) hx hb (hts _ q_139) rfl hK hP hD hS hA (fun cA => rfl) (by decide) (by decide) (Nat.le_of_ble_eq_true rfl) (Nat.le_of_ble_eq_true rfl) (Nat.le_of_ble_eq_true rfl) dX7_init_7 (fun q_1 cA H hK1 hP hD hS => ?_)
  have e_q_1 := arrI hK1
  subst e_q_1
  have hP : va_P g.1 classes [(h0, .inr (7, [.null, .null, .null, .int 0])), (q_1, .inl (cI g, 16, .inl (fun _ => 0)))] H := hP
  have hD : va_D A [(h0, .inr (7, [.null, .null, .null, .int 0])), (q_1, .inl (cI g, 16, .inl (fun _ => 0)))] := hD
  refine va_putF (D := g.1) (ci := 7) (v := .ref q_1) (ty := .array .int) (C := RX7) (T := TX7) (N := 4) hx hb hts fw_X7 tyX7 tyX7_ok nmX7 hown hK hP hD hS 0 rfl rfl 0 (by decide) (hts _ q_232) (fun _ h9 => h9) rfl hnm rfl (by decide +kernel) rfl rfl (Nat.le_of_ble_eq_true rfl) dX7_init_9 (fun H locs hP hD hS => ?_)
  have hP : va_P g.1 classes [(h0, .inr (7, [.ref q_1, .null, .null, .int 0])), (q_1, .inl (cI g, 16, .inl (fun _ => 0)))] H := hP
  have hD : va_D A [(h0, .inr (7, [.ref q_1, .null, .null, .int 0])), (q_1, .inl (cI g, 16, .inl (fun _ => 0)))] := hD
  refine lv_aload_n hx hb dX7_init_12 rfl (lv_at hl 0 rfl) ?_
  refine lv_bipush (v := 16) hx hb dX7_init_13 (by decide) ?_
  refine va_newa (atype := .int) (ty := .int) (N' := 16) (a0 := (16, .inl (fun _ => 0))) hx hb (hts _ q_139) rfl hK hP hD hS hA (fun cA => rfl) (by decide) (by decide) (Nat.le_of_ble_eq_true rfl) (Nat.le_of_ble_eq_true rfl) (Nat.le_of_ble_eq_true rfl) dX7_init_15 (fun q_2 cA H hK1 hP hD hS => ?_)
  have e_q_2 := arrI hK1
  subst e_q_2
  have hP : va_P g.1 classes [(h0, .inr (7, [.ref q_1, .null, .null, .int 0])), (q_1, .inl (cI g, 16, .inl (fun _ => 0))), (q_2, .inl (cI g, 16, .inl (fun _ => 0)))] H := hP
  have hD : va_D A [(h0, .inr (7, [.ref q_1, .null, .null, .int 0])), (q_1, .inl (cI g, 16, .inl (fun _ => 0))), (q_2, .inl (cI g, 16, .inl (fun _ => 0)))] := hD
  refine va_putF (D := g.1) (ci := 7) (v := .ref q_2) (ty := .array .int) (C := RX7) (T := TX7) (N := 4) hx hb hts fw_X7 tyX7 tyX7_ok nmX7 hown hK hP hD hS 0 rfl rfl 1 (by decide) (hts _ q_233) (fun _ h9 => h9) rfl hnm rfl (by decide +kernel) rfl rfl (Nat.le_of_ble_eq_true rfl) dX7_init_17 (fun H locs hP hD hS => ?_)
  have hP : va_P g.1 classes [(h0, .inr (7, [.ref q_1, .ref q_2, .null, .int 0])), (q_1, .inl (cI g, 16, .inl (fun _ => 0))), (q_2, .inl (cI g, 16, .inl (fun _ => 0)))] H := hP
  have hD : va_D A [(h0, .inr (7, [.ref q_1, .ref q_2, .null, .int 0])), (q_1, .inl (cI g, 16, .inl (fun _ => 0))), (q_2, .inl (cI g, 16, .inl (fun _ => 0)))] := hD
  refine lv_aload_n hx hb dX7_init_20 rfl (lv_at hl 0 rfl) ?_
  refine lv_sipush (v := 128) hx hb dX7_init_21 (by decide) ?_
  refine va_newa (atype := .int) (ty := .int) (N' := 128) (a0 := (128, .inl (fun _ => 0))) hx hb (hts _ q_139) rfl hK hP hD hS hA (fun cA => rfl) (by decide) (by decide) (Nat.le_of_ble_eq_true rfl) (Nat.le_of_ble_eq_true rfl) (Nat.le_of_ble_eq_true rfl) dX7_init_24 (fun q_3 cA H hK1 hP hD hS => ?_)
  have e_q_3 := arrI hK1
  subst e_q_3
  have hP : va_P g.1 classes [(h0, .inr (7, [.ref q_1, .ref q_2, .null, .int 0])), (q_1, .inl (cI g, 16, .inl (fun _ => 0))), (q_2, .inl (cI g, 16, .inl (fun _ => 0))), (q_3, .inl (cI g, 128, .inl (fun _ => 0)))] H := hP
  have hD : va_D A [(h0, .inr (7, [.ref q_1, .ref q_2, .null, .int 0])), (q_1, .inl (cI g, 16, .inl (fun _ => 0))), (q_2, .inl (cI g, 16, .inl (fun _ => 0))), (q_3, .inl (cI g, 128, .inl (fun _ => 0)))] := hD
  refine va_putF (D := g.1) (ci := 7) (v := .ref q_3) (ty := .array .int) (C := RX7) (T := TX7) (N := 4) hx hb hts fw_X7 tyX7 tyX7_ok nmX7 hown hK hP hD hS 0 rfl rfl 2 (by decide) (hts _ q_234) (fun _ h9 => h9) rfl hnm rfl (by decide +kernel) rfl rfl (Nat.le_of_ble_eq_true rfl) dX7_init_26 (fun H locs hP hD hS => ?_)
  have hP : va_P g.1 classes [(h0, .inr (7, [.ref q_1, .ref q_2, .ref q_3, .int 0])), (q_1, .inl (cI g, 16, .inl (fun _ => 0))), (q_2, .inl (cI g, 16, .inl (fun _ => 0))), (q_3, .inl (cI g, 128, .inl (fun _ => 0)))] H := hP
  have hD : va_D A [(h0, .inr (7, [.ref q_1, .ref q_2, .ref q_3, .int 0])), (q_1, .inl (cI g, 16, .inl (fun _ => 0))), (q_2, .inl (cI g, 16, .inl (fun _ => 0))), (q_3, .inl (cI g, 128, .inl (fun _ => 0)))] := hD
  exact rV X hK hP hD hS dX7_init_29 (Nat.le_of_ble_eq_true rfl) (Nat.le_of_ble_eq_true rfl) ⟨q_1, q_2, q_3, rfl⟩
set_option maxHeartbeats 4000000 in
set_option maxRecDepth 100000 in
theorem c_X4_init (l : Launch) (g : GG) (h0 : Nat) : MV l g yX4_init cX4_init 1 1 12 13 1824 [(h0, .inr (4, [.null, .null, .null, .null, .null, .null, .null, .null, .null, .null, .null, .null, .null, .int 0]))] [.ref h0] (fun ww_ => ∃ (q_1 : Nat) (q_2 : Nat) (q_3 : Nat) (q_4 : Nat) (q_5 : Nat) (q_6 : Nat) (q_7 : Nat) (q_8 : Nat) (q_9 : Nat) (q_10 : Nat) (q_11 : Nat) (q_12 : Nat) (q_13 : Nat), ww_ = [(h0, .inr (4, [.ref q_1, .ref q_2, .ref q_3, .ref q_4, .ref q_5, .ref q_6, .ref q_7, .ref q_8, .ref q_9, .ref q_10, .ref q_11, .ref q_12, .ref q_13, .int 0])), (q_1, .inl (cI g, 24, .inl (fun _ => 0))), (q_2, .inl (cI g, 24, .inl (fun _ => 0))), (q_3, .inl (cI g, 24, .inl (fun _ => 0))), (q_4, .inl (cI g, 24, .inl (fun _ => 0))), (q_5, .inl (cI g, 1536, .inl (fun _ => 0))), (q_6, .inl (cJ g, 24, .inr (.inl (fun _ => 0)))), (q_7, .inl (cI g, 24, .inl (fun _ => 0))), (q_8, .inl (cI g, 24, .inl (fun _ => 0))), (q_9, .inl (cI g, 24, .inl (fun _ => 0))), (q_10, .inl (cI g, 24, .inl (fun _ => 0))), (q_11, .inl (cI g, 24, .inl (fun _ => 0))), (q_12, .inl (cI g, 24, .inl (fun _ => 0))), (q_13, .inl (cJ g, 24, .inr (.inl (fun _ => 0))))]) := by
  refine met_of (fun A => va_Qv _ (bW g A) A) (by decide) (Nat.le_of_ble_eq_true rfl) ?_
  intro p e s m below meth c A ls X hK hP hD hA hZ hS hl
  have hx := X.1
  have hb := X.2.1
  have hml := X.2.2.1
  have hown := X.2.2.2.1
  have hts := X.2.2.2.2.1
  have hnm := X.2.2.2.2.2.2.2
  have hl : lv_has ls 1 [(0, .ref h0)] := hl
  refine lv_aload_n hx hb dX4_init_0 rfl (lv_at hl 0 rfl) ?_
  refine W.objInit hx hb hown (hts _ q_250) (hts _ q_112) (hts _ q_113) rfl (by rw [hml]; exact hl.1) rfl dX4_init_1 (Nat.le_of_ble_eq_true rfl) (Nat.le_of_ble_eq_true rfl) ?_
  refine W.eq (g2 := F0 m 4 ls []) rfl ?_
  refine lv_aload_n hx hb dX4_init_4 rfl (lv_at hl 0 rfl) ?_
  refine lv_bipush (v := 24) hx hb dX4_init_5 (by decide) ?_
  refine va_newa (atype := .int) (ty := .int) (N' := 24) (a0 := (24, .inl (fun _ => 0))) hx hb (hts _ q_139) rfl hK hP hD hS hA (fun cA => rfl) (by decide) (by decide) (Nat.le_of_ble_eq_true rfl) (Nat.le_of_ble_eq_true rfl) (Nat.le_of_ble_eq_true rfl) dX4_init_7 (fun q_1 cA H hK1 hP hD hS => ?_)
  have e_q_1 := arrI hK1
  subst e_q_1
  have hP : va_P g.1 classes [(h0, .inr (4, [.null, .null, .null, .null, .null, .null, .null, .null, .null, .null, .null, .null, .null, .int 0])), (q_1, .inl (cI g, 24, .inl (fun _ => 0)))] H := hP
  have hD : va_D A [(h0, .inr (4, [.null, .null, .null, .null, .null, .null, .null, .null, .null, .null, .null, .null, .null, .int 0])), (q_1, .inl (cI g, 24, .inl (fun _ => 0)))] := hD
  refine va_putF (D := g.1) (ci := 4) (v := .ref q_1) (ty := .array .int) (C := RX4) (T := TX4) (N := 14) hx hb hts fw_X4 tyX4 tyX4_ok nmX4 hown hK hP hD hS 0 rfl rfl 0 (by decide) (hts _ q_251) (fun _ h9 => h9) rfl hnm rfl (by decide +kernel) rfl rfl (Nat.le_of_ble_eq_true rfl) dX4_init_9 (fun H locs hP hD hS => ?_)
  have hP : va_P g.1 classes [(h0, .inr (4, [.ref q_1, .null, .null, .null, .null, .null, .null, .null, .null, .null, .null, .null, .null, .int 0])), (q_1, .inl (cI g, 24, .inl (fun _ => 0)))] H := hP
  have hD : va_D A [(h0, .inr (4, [.ref q_1, .null, .null, .null, .null, .null, .null, .null, .null, .null, .null, .null, .null, .int 0])), (q_1, .inl (cI g, 24, .inl (fun _ => 0)))] := hD
  refine lv_aload_n hx hb dX4_init_12 rfl (lv_at hl 0 rfl) ?_
  refine lv_bipush (v := 24) hx hb dX4_init_13 (by decide) ?_
  refine va_newa (atype := .int) (ty := .int) (N' := 24) (a0 := (24, .inl (fun _ => 0))) hx hb (hts _ q_139) rfl hK hP hD hS hA (fun cA => rfl) (by decide) (by decide) (Nat.le_of_ble_eq_true rfl) (Nat.le_of_ble_eq_true rfl) (Nat.le_of_ble_eq_true rfl) dX4_init_15 (fun q_2 cA H hK1 hP hD hS => ?_)
  have e_q_2 := arrI hK1
  subst e_q_2
  have hP : va_P g.1 classes [(h0, .inr (4, [.ref q_1, .null, .null, .null, .null, .null, .null, .null, .null, .null, .null, .null, .null, .int 0])), (q_1, .inl (cI g, 24, .inl (fun _ => 0))), (q_2, .inl (cI g, 24, .inl (fun _ => 0)))] H := hP
  have hD : va_D A [(h0, .inr (4, [.ref q_1, .null, .null, .null, .null, .null, .null, .null, .null, .null, .null, .null, .null, .int 0])), (q_1, .inl (cI g, 24, .inl (fun _ => 0))), (q_2, .inl (cI g, 24, .inl (fun _ => 0)))] := hD
  refine va_putF (D := g.1) (ci := 4) (v := .ref q_2) (ty := .array .int) (C := RX4) (T := TX4) (N := 14) hx hb hts fw_X4 tyX4 tyX4_ok nmX4 hown hK hP hD hS 0 rfl rfl 1 (by decide) (hts _ q_252) (fun _ h9 => h9) rfl hnm rfl (by decide +kernel) rfl rfl (Nat.le_of_ble_eq_true rfl) dX4_init_17 (fun H locs hP hD hS => ?_)
  have hP : va_P g.1 classes [(h0, .inr (4, [.ref q_1, .ref q_2, .null, .null, .null, .null, .null, .null, .null, .null, .null, .null, .null, .int 0])), (q_1, .inl (cI g, 24, .inl (fun _ => 0))), (q_2, .inl (cI g, 24, .inl (fun _ => 0)))] H := hP
  have hD : va_D A [(h0, .inr (4, [.ref q_1, .ref q_2, .null, .null, .null, .null, .null, .null, .null, .null, .null, .null, .null, .int 0])), (q_1, .inl (cI g, 24, .inl (fun _ => 0))), (q_2, .inl (cI g, 24, .inl (fun _ => 0)))] := hD
  refine lv_aload_n hx hb dX4_init_20 rfl (lv_at hl 0 rfl) ?_
  refine lv_bipush (v := 24) hx hb dX4_init_21 (by decide) ?_
  refine va_newa (atype := .int) (ty := .int) (N' := 24) (a0 := (24, .inl (fun _ => 0))) hx hb (hts _ q_139) rfl hK hP hD hS hA (fun cA => rfl) (by decide) (by decide) (Nat.le_of_ble_eq_true rfl) (Nat.le_of_ble_eq_true rfl) (Nat.le_of_ble_eq_true rfl) dX4_init_23 (fun q_3 cA H hK1 hP hD hS => ?_)
  have e_q_3 := arrI hK1
  subst e_q_3
  have hP : va_P g.1 classes [(h0, .inr (4, [.ref q_1, .ref q_2, .null, .null, .null, .null, .null, .null, .null, .null, .null, .null, .null, .int 0])), (q_1, .inl (cI g, 24, .inl (fun _ => 0))), (q_2, .inl (cI g, 24, .inl (fun _ => 0))), (q_3, .inl (cI g, 24, .inl (fun _ => 0)))] H := hP
  have hD : va_D A [(h0, .inr (4, [.ref q_1, .ref q_2, .null, .null, .null, .null, .null, .null, .null, .null, .null, .null, .null, .int 0])), (q_1, .inl (cI g, 24, .inl (fun _ => 0))), (q_2, .inl (cI g, 24, .inl (fun _ => 0))), (q_3, .inl (cI g, 24, .inl (fun _ => 0)))] := hD
  refine va_putF (D := g.1) (ci := 4) (v := .ref q_3) (ty := .array .int) (C := RX4) (T := TX4) (N := 14) hx hb hts fw_X4 tyX4 tyX4_ok nmX4 hown hK hP hD hS 0 rfl rfl 2 (by decide) (hts _ q_253) (fun _ h9 => h9) rfl hnm rfl (by decide +kernel) rfl rfl (Nat.le_of_ble_eq_true rfl) dX4_init_25 (fun H locs hP hD hS => ?_)
  have hP : va_P g.1 classes [(h0, .inr (4, [.ref q_1, .ref q_2, .ref q_3, .null, .null, .null, .null, .null, .null, .null, .null, .null, .null, .int 0])), (q_1, .inl (cI g, 24, .inl (fun _ => 0))), (q_2, .inl (cI g, 24, .inl (fun _ => 0))), (q_3, .inl (cI g, 24, .inl (fun _ => 0)))] H := hP
  have hD : va_D A [(h0, .inr (4, [.ref q_1, .ref q_2, .ref q_3, .null, .null, .null, .null, .null, .null, .null, .null, .null, .null, .int 0])), (q_1, .inl (cI g, 24, .inl (fun _ => 0))), (q_2, .inl (cI g, 24, .inl (fun _ => 0))), (q_3, .inl (cI g, 24, .inl (fun _ => 0)))] := hD
  refine lv_aload_n hx hb dX4_init_28 rfl (lv_at hl 0 rfl) ?_
  refine lv_bipush (v := 24) hx hb dX4_init_29 (by decide) ?_
  refine va_newa (atype := .int) (ty := .int) (N' := 24) (a0 := (24, .inl (fun _ => 0))) hx hb (hts _ q_139) rfl hK hP hD hS hA (fun cA => rfl) (by decide) (by decide) (Nat.le_of_ble_eq_true rfl) (Nat.le_of_ble_eq_true rfl) (Nat.le_of_ble_eq_true rfl) dX4_init_31 (fun q_4 cA H hK1 hP hD hS => ?_)
  have e_q_4 := arrI hK1
  subst e_q_4
  have hP : va_P g.1 classes [(h0, .inr (4, [.ref q_1, .ref q_2, .ref q_3, .null, .null, .null, .null, .null, .null, .null, .null, .null, .null, .int 0])), (q_1, .inl (cI g, 24, .inl (fun _ => 0))), (q_2, .inl (cI g, 24, .inl (fun _ => 0))), (q_3, .inl (cI g, 24, .inl (fun _ => 0))), (q_4, .inl (cI g, 24, .inl (fun _ => 0)))] H := hP
  have hD : va_D A [(h0, .inr (4, [.ref q_1, .ref q_2, .ref q_3, .null, .null, .null, .null, .null, .null, .null, .null, .null, .null, .int 0])), (q_1, .inl (cI g, 24, .inl (fun _ => 0))), (q_2, .inl (cI g, 24, .inl (fun _ => 0))), (q_3, .inl (cI g, 24, .inl (fun _ => 0))), (q_4, .inl (cI g, 24, .inl (fun _ => 0)))] := hD
  refine va_putF (D := g.1) (ci := 4) (v := .ref q_4) (ty := .array .int) (C := RX4) (T := TX4) (N := 14) hx hb hts fw_X4 tyX4 tyX4_ok nmX4 hown hK hP hD hS 0 rfl rfl 3 (by decide) (hts _ q_254) (fun _ h9 => h9) rfl hnm rfl (by decide +kernel) rfl rfl (Nat.le_of_ble_eq_true rfl) dX4_init_33 (fun H locs hP hD hS => ?_)
  have hP : va_P g.1 classes [(h0, .inr (4, [.ref q_1, .ref q_2, .ref q_3, .ref q_4, .null, .null, .null, .null, .null, .null, .null, .null, .null, .int 0])), (q_1, .inl (cI g, 24, .inl (fun _ => 0))), (q_2, .inl (cI g, 24, .inl (fun _ => 0))), (q_3, .inl (cI g, 24, .inl (fun _ => 0))), (q_4, .inl (cI g, 24, .inl (fun _ => 0)))] H := hP
  have hD : va_D A [(h0, .inr (4, [.ref q_1, .ref q_2, .ref q_3, .ref q_4, .null, .null, .null, .null, .null, .null, .null, .null, .null, .int 0])), (q_1, .inl (cI g, 24, .inl (fun _ => 0))), (q_2, .inl (cI g, 24, .inl (fun _ => 0))), (q_3, .inl (cI g, 24, .inl (fun _ => 0))), (q_4, .inl (cI g, 24, .inl (fun _ => 0)))] := hD
  refine lv_aload_n hx hb dX4_init_36 rfl (lv_at hl 0 rfl) ?_
  refine lv_sipush (v := 1536) hx hb dX4_init_37 (by decide) ?_
  refine va_newa (atype := .int) (ty := .int) (N' := 1536) (a0 := (1536, .inl (fun _ => 0))) hx hb (hts _ q_139) rfl hK hP hD hS hA (fun cA => rfl) (by decide) (by decide) (Nat.le_of_ble_eq_true rfl) (Nat.le_of_ble_eq_true rfl) (Nat.le_of_ble_eq_true rfl) dX4_init_40 (fun q_5 cA H hK1 hP hD hS => ?_)
  have e_q_5 := arrI hK1
  subst e_q_5
  have hP : va_P g.1 classes [(h0, .inr (4, [.ref q_1, .ref q_2, .ref q_3, .ref q_4, .null, .null, .null, .null, .null, .null, .null, .null, .null, .int 0])), (q_1, .inl (cI g, 24, .inl (fun _ => 0))), (q_2, .inl (cI g, 24, .inl (fun _ => 0))), (q_3, .inl (cI g, 24, .inl (fun _ => 0))), (q_4, .inl (cI g, 24, .inl (fun _ => 0))), (q_5, .inl (cI g, 1536, .inl (fun _ => 0)))] H := hP
  have hD : va_D A [(h0, .inr (4, [.ref q_1, .ref q_2, .ref q_3, .ref q_4, .null, .null, .null, .null, .null, .null, .null, .null, .null, .int 0])), (q_1, .inl (cI g, 24, .inl (fun _ => 0))), (q_2, .inl (cI g, 24, .inl (fun _ => 0))), (q_3, .inl (cI g, 24, .inl (fun _ => 0))), (q_4, .inl (cI g, 24, .inl (fun _ => 0))), (q_5, .inl (cI g, 1536, .inl (fun _ => 0)))] := hD
  refine va_putF (D := g.1) (ci := 4) (v := .ref q_5) (ty := .array .int) (C := RX4) (T := TX4) (N := 14) hx hb hts fw_X4 tyX4 tyX4_ok nmX4 hown hK hP hD hS 0 rfl rfl 4 (by decide) (hts _ q_255) (fun _ h9 => h9) rfl hnm rfl (by decide +kernel) rfl rfl (Nat.le_of_ble_eq_true rfl) dX4_init_42 (fun H locs hP hD hS => ?_)
  have hP : va_P g.1 classes [(h0, .inr (4, [.ref q_1, .ref q_2, .ref q_3, .ref q_4, .ref q_5, .null, .null, .null, .null, .null, .null, .null, .null, .int 0])), (q_1, .inl (cI g, 24, .inl (fun _ => 0))), (q_2, .inl (cI g, 24, .inl (fun _ => 0))), (q_3, .inl (cI g, 24, .inl (fun _ => 0))), (q_4, .inl (cI g, 24, .inl (fun _ => 0))), (q_5, .inl (cI g, 1536, .inl (fun _ => 0)))] H := hP
  have hD : va_D A [(h0, .inr (4, [.ref q_1, .ref q_2, .ref q_3, .ref q_4, .ref q_5, .null, .null, .null, .null, .null, .null, .null, .null, .int 0])), (q_1, .inl (cI g, 24, .inl (fun _ => 0))), (q_2, .inl (cI g, 24, .inl (fun _ => 0))), (q_3, .inl (cI g, 24, .inl (fun _ => 0))), (q_4, .inl (cI g, 24, .inl (fun _ => 0))), (q_5, .inl (cI g, 1536, .inl (fun _ => 0)))] := hD
  refine lv_aload_n hx hb dX4_init_45 rfl (lv_at hl 0 rfl) ?_
  refine lv_bipush (v := 24) hx hb dX4_init_46 (by decide) ?_
  refine va_newa (atype := .long) (ty := .long) (N' := 24) (a0 := (24, .inr (.inl (fun _ => 0)))) hx hb (hts _ q_294) rfl hK hP hD hS hA (fun cA => rfl) (by decide) (by decide) (Nat.le_of_ble_eq_true rfl) (Nat.le_of_ble_eq_true rfl) (Nat.le_of_ble_eq_true rfl) dX4_init_48 (fun q_6 cA H hK1 hP hD hS => ?_)
  have e_q_6 := arrJ hK1
  subst e_q_6
  have hP : va_P g.1 classes [(h0, .inr (4, [.ref q_1, .ref q_2, .ref q_3, .ref q_4, .ref q_5, .null, .null, .null, .null, .null, .null, .null, .null, .int 0])), (q_1, .inl (cI g, 24, .inl (fun _ => 0))), (q_2, .inl (cI g, 24, .inl (fun _ => 0))), (q_3, .inl (cI g, 24, .inl (fun _ => 0))), (q_4, .inl (cI g, 24, .inl (fun _ => 0))), (q_5, .inl (cI g, 1536, .inl (fun _ => 0))), (q_6, .inl (cJ g, 24, .inr (.inl (fun _ => 0))))] H := hP
  have hD : va_D A [(h0, .inr (4, [.ref q_1, .ref q_2, .ref q_3, .ref q_4, .ref q_5, .null, .null, .null, .null, .null, .null, .null, .null, .int 0])), (q_1, .inl (cI g, 24, .inl (fun _ => 0))), (q_2, .inl (cI g, 24, .inl (fun _ => 0))), (q_3, .inl (cI g, 24, .inl (fun _ => 0))), (q_4, .inl (cI g, 24, .inl (fun _ => 0))), (q_5, .inl (cI g, 1536, .inl (fun _ => 0))), (q_6, .inl (cJ g, 24, .inr (.inl (fun _ => 0))))] := hD
  refine va_putF (D := g.1) (ci := 4) (v := .ref q_6) (ty := .array .long) (C := RX4) (T := TX4) (N := 14) hx hb hts fw_X4 tyX4 tyX4_ok nmX4 hown hK hP hD hS 0 rfl rfl 5 (by decide) (hts _ q_256) (fun _ h9 => h9) rfl hnm rfl (by decide +kernel) rfl rfl (Nat.le_of_ble_eq_true rfl) dX4_init_50 (fun H locs hP hD hS => ?_)
  have hP : va_P g.1 classes [(h0, .inr (4, [.ref q_1, .ref q_2, .ref q_3, .ref q_4, .ref q_5, .ref q_6, .null, .null, .null, .null, .null, .null, .null, .int 0])), (q_1, .inl (cI g, 24, .inl (fun _ => 0))), (q_2, .inl (cI g, 24, .inl (fun _ => 0))), (q_3, .inl (cI g, 24, .inl (fun _ => 0))), (q_4, .inl (cI g, 24, .inl (fun _ => 0))), (q_5, .inl (cI g, 1536, .inl (fun _ => 0))), (q_6, .inl (cJ g, 24, .inr (.inl (fun _ => 0))))] H := hP
  have hD : va_D A [(h0, .inr (4, [.ref q_1, .ref q_2, .ref q_3, .ref q_4, .ref q_5, .ref q_6, .null, .null, .null, .null, .null, .null, .null, .int 0])), (q_1, .inl (cI g, 24, .inl (fun _ => 0))), (q_2, .inl (cI g, 24, .inl (fun _ => 0))), (q_3, .inl (cI g, 24, .inl (fun _ => 0))), (q_4, .inl (cI g, 24, .inl (fun _ => 0))), (q_5, .inl (cI g, 1536, .inl (fun _ => 0))), (q_6, .inl (cJ g, 24, .inr (.inl (fun _ => 0))))] := hD
  refine lv_aload_n hx hb dX4_init_53 rfl (lv_at hl 0 rfl) ?_
  refine lv_bipush (v := 24) hx hb dX4_init_54 (by decide) ?_
  refine va_newa (atype := .int) (ty := .int) (N' := 24) (a0 := (24, .inl (fun _ => 0))) hx hb (hts _ q_139) rfl hK hP hD hS hA (fun cA => rfl) (by decide) (by decide) (Nat.le_of_ble_eq_true rfl) (Nat.le_of_ble_eq_true rfl) (Nat.le_of_ble_eq_true rfl) dX4_init_56 (fun q_7 cA H hK1 hP hD hS => ?_)
  have e_q_7 := arrI hK1
  subst e_q_7
  have hP : va_P g.1 classes [(h0, .inr (4, [.ref q_1, .ref q_2, .ref q_3, .ref q_4, .ref q_5, .ref q_6, .null, .null, .null, .null, .null, .null, .null, .int 0])), (q_1, .inl (cI g, 24, .inl (fun _ => 0))), (q_2, .inl (cI g, 24, .inl (fun _ => 0))), (q_3, .inl (cI g, 24, .inl (fun _ => 0))), (q_4, .inl (cI g, 24, .inl (fun _ => 0))), (q_5, .inl (cI g, 1536, .inl (fun _ => 0))), (q_6, .inl (cJ g, 24, .inr (.inl (fun _ => 0)))), (q_7, .inl (cI g, 24, .inl (fun _ => 0)))] H := hP
  have hD : va_D A [(h0, .inr (4, [.ref q_1, .ref q_2, .ref q_3, .ref q_4, .ref q_5, .ref q_6, .null, .null, .null, .null, .null, .null, .null, .int 0])), (q_1, .inl (cI g, 24, .inl (fun _ => 0))), (q_2, .inl (cI g, 24, .inl (fun _ => 0))), (q_3, .inl (cI g, 24, .inl (fun _ => 0))), (q_4, .inl (cI g, 24, .inl (fun _ => 0))), (q_5, .inl (cI g, 1536, .inl (fun _ => 0))), (q_6, .inl (cJ g, 24, .inr (.inl (fun _ => 0)))), (q_7, .inl (cI g, 24, .inl (fun _ => 0)))] := hD
  refine va_putF (D := g.1) (ci := 4) (v := .ref q_7) (ty := .array .int) (C := RX4) (T := TX4) (N := 14) hx hb hts fw_X4 tyX4 tyX4_ok nmX4 hown hK hP hD hS 0 rfl rfl 6 (by decide) (hts _ q_257) (fun _ h9 => h9) rfl hnm rfl (by decide +kernel) rfl rfl (Nat.le_of_ble_eq_true rfl) dX4_init_58 (fun H locs hP hD hS => ?_)
  have hP : va_P g.1 classes [(h0, .inr (4, [.ref q_1, .ref q_2, .ref q_3, .ref q_4, .ref q_5, .ref q_6, .ref q_7, .null, .null, .null, .null, .null, .null, .int 0])), (q_1, .inl (cI g, 24, .inl (fun _ => 0))), (q_2, .inl (cI g, 24, .inl (fun _ => 0))), (q_3, .inl (cI g, 24, .inl (fun _ => 0))), (q_4, .inl (cI g, 24, .inl (fun _ => 0))), (q_5, .inl (cI g, 1536, .inl (fun _ => 0))), (q_6, .inl (cJ g, 24, .inr (.inl (fun _ => 0)))), (q_7, .inl (cI g, 24, .inl (fun _ => 0)))] H := hP
  have hD : va_D A [(h0, .inr (4, [.ref q_1, .ref q_2, .ref q_3, .ref q_4, .ref q_5, .ref q_6, .ref q_7, .null, .null, .null, .null, .null, .null, .int 0])), (q_1, .inl (cI g, 24, .inl (fun _ => 0))), (q_2, .inl (cI g, 24, .inl (fun _ => 0))), (q_3, .inl (cI g, 24, .inl (fun _ => 0))), (q_4, .inl (cI g, 24, .inl (fun _ => 0))), (q_5, .inl (cI g, 1536, .inl (fun _ => 0))), (q_6, .inl (cJ g, 24, .inr (.inl (fun _ => 0)))), (q_7, .inl (cI g, 24, .inl (fun _ => 0)))] := hD
  refine lv_aload_n hx hb dX4_init_61 rfl (lv_at hl 0 rfl) ?_
  refine lv_bipush (v := 24) hx hb dX4_init_62 (by decide) ?_
  refine va_newa (atype := .int) (ty := .int) (N' := 24) (a0 := (24, .inl (fun _ => 0))) hx hb (hts _ q_139) rfl hK hP hD hS hA (fun cA => rfl) (by decide) (by decide) (Nat.le_of_ble_eq_true rfl) (Nat.le_of_ble_eq_true rfl) (Nat.le_of_ble_eq_true rfl) dX4_init_64 (fun q_8 cA H hK1 hP hD hS => ?_)
  have e_q_8 := arrI hK1
  subst e_q_8
  have hP : va_P g.1 classes [(h0, .inr (4, [.ref q_1, .ref q_2, .ref q_3, .ref q_4, .ref q_5, .ref q_6, .ref q_7, .null, .null, .null, .null, .null, .null, .int 0])), (q_1, .inl (cI g, 24, .inl (fun _ => 0))), (q_2, .inl (cI g, 24, .inl (fun _ => 0))), (q_3, .inl (cI g, 24, .inl (fun _ => 0))), (q_4, .inl (cI g, 24, .inl (fun _ => 0))), (q_5, .inl (cI g, 1536, .inl (fun _ => 0))), (q_6, .inl (cJ g, 24, .inr (.inl (fun _ => 0)))), (q_7, .inl (cI g, 24, .inl (fun _ => 0))), (q_8, .inl (cI g, 24, .inl (fun _ => 0)))] H := hP
  have hD : va_D A [(h0, .inr (4, [.ref q_1, .ref q_2, .ref q_3, .ref q_4, .ref q_5, .ref q_6, .ref q_7, .null, .null, .null, .null, .null, .null, .int 0])), (q_1, .inl (cI g, 24, .inl (fun _ => 0))), (q_2, .inl (cI g, 24, .inl (fun _ => 0))), (q_3, .inl (cI g, 24, .inl (fun _ => 0))), (q_4, .inl (cI g, 24, .inl (fun _ => 0))), (q_5, .inl (cI g, 1536, .inl (fun _ => 0))), (q_6, .inl (cJ g, 24, .inr (.inl (fun _ => 0)))), (q_7, .inl (cI g, 24, .inl (fun _ => 0))), (q_8, .inl (cI g, 24, .inl (fun _ => 0)))] := hD
  refine va_putF (D := g.1) (ci := 4) (v := .ref q_8) (ty := .array .int) (C := RX4) (T := TX4) (N := 14) hx hb hts fw_X4 tyX4 tyX4_ok nmX4 hown hK hP hD hS 0 rfl rfl 7 (by decide) (hts _ q_258) (fun _ h9 => h9) rfl hnm rfl (by decide +kernel) rfl rfl (Nat.le_of_ble_eq_true rfl) dX4_init_66 (fun H locs hP hD hS => ?_)
  have hP : va_P g.1 classes [(h0, .inr (4, [.ref q_1, .ref q_2, .ref q_3, .ref q_4, .ref q_5, .ref q_6, .ref q_7, .ref q_8, .null, .null, .null, .null, .null, .int 0])), (q_1, .inl (cI g, 24, .inl (fun _ => 0))), (q_2, .inl (cI g, 24, .inl (fun _ => 0))), (q_3, .inl (cI g, 24, .inl (fun _ => 0))), (q_4, .inl (cI g, 24, .inl (fun _ => 0))), (q_5, .inl (cI g, 1536, .inl (fun _ => 0))), (q_6, .inl (cJ g, 24, .inr (.inl (fun _ => 0)))), (q_7, .inl (cI g, 24, .inl (fun _ => 0))), (q_8, .inl (cI g, 24, .inl (fun _ => 0)))] H := hP
  have hD : va_D A [(h0, .inr (4, [.ref q_1, .ref q_2, .ref q_3, .ref q_4, .ref q_5, .ref q_6, .ref q_7, .ref q_8, .null, .null, .null, .null, .null, .int 0])), (q_1, .inl (cI g, 24, .inl (fun _ => 0))), (q_2, .inl (cI g, 24, .inl (fun _ => 0))), (q_3, .inl (cI g, 24, .inl (fun _ => 0))), (q_4, .inl (cI g, 24, .inl (fun _ => 0))), (q_5, .inl (cI g, 1536, .inl (fun _ => 0))), (q_6, .inl (cJ g, 24, .inr (.inl (fun _ => 0)))), (q_7, .inl (cI g, 24, .inl (fun _ => 0))), (q_8, .inl (cI g, 24, .inl (fun _ => 0)))] := hD
  refine lv_aload_n hx hb dX4_init_69 rfl (lv_at hl 0 rfl) ?_
  refine lv_bipush (v := 24) hx hb dX4_init_70 (by decide) ?_
  refine va_newa (atype := .int) (ty := .int) (N' := 24) (a0 := (24, .inl (fun _ => 0))) hx hb (hts _ q_139) rfl hK hP hD hS hA (fun cA => rfl) (by decide) (by decide) (Nat.le_of_ble_eq_true rfl) (Nat.le_of_ble_eq_true rfl) (Nat.le_of_ble_eq_true rfl) dX4_init_72 (fun q_9 cA H hK1 hP hD hS => ?_)
  have e_q_9 := arrI hK1
  subst e_q_9
  have hP : va_P g.1 classes [(h0, .inr (4, [.ref q_1, .ref q_2, .ref q_3, .ref q_4, .ref q_5, .ref q_6, .ref q_7, .ref q_8, .null, .null, .null, .null, .null, .int 0])), (q_1, .inl (cI g, 24, .inl (fun _ => 0))), (q_2, .inl (cI g, 24, .inl (fun _ => 0))), (q_3, .inl (cI g, 24, .inl (fun _ => 0))), (q_4, .inl (cI g, 24, .inl (fun _ => 0))), (q_5, .inl (cI g, 1536, .inl (fun _ => 0))), (q_6, .inl (cJ g, 24, .inr (.inl (fun _ => 0)))), (q_7, .inl (cI g, 24, .inl (fun _ => 0))), (q_8, .inl (cI g, 24, .inl (fun _ => 0))), (q_9, .inl (cI g, 24, .inl (fun _ => 0)))] H := hP
  have hD : va_D A [(h0, .inr (4, [.ref q_1, .ref q_2, .ref q_3, .ref q_4, .ref q_5, .ref q_6, .ref q_7, .ref q_8, .null, .null, .null, .null, .null, .int 0])), (q_1, .inl (cI g, 24, .inl (fun _ => 0))), (q_2, .inl (cI g, 24, .inl (fun _ => 0))), (q_3, .inl (cI g, 24, .inl (fun _ => 0))), (q_4, .inl (cI g, 24, .inl (fun _ => 0))), (q_5, .inl (cI g, 1536, .inl (fun _ => 0))), (q_6, .inl (cJ g, 24, .inr (.inl (fun _ => 0)))), (q_7, .inl (cI g, 24, .inl (fun _ => 0))), (q_8, .inl (cI g, 24, .inl (fun _ => 0))), (q_9, .inl (cI g, 24, .inl (fun _ => 0)))] := hD
  refine va_putF (D := g.1) (ci := 4) (v := .ref q_9) (ty := .array .int) (C := RX4) (T := TX4) (N := 14) hx hb hts fw_X4 tyX4 tyX4_ok nmX4 hown hK hP hD hS 0 rfl rfl 8 (by decide) (hts _ q_259) (fun _ h9 => h9) rfl hnm rfl (by decide +kernel) rfl rfl (Nat.le_of_ble_eq_true rfl) dX4_init_74 (fun H locs hP hD hS => ?_)
  have hP : va_P g.1 classes [(h0, .inr (4, [.ref q_1, .ref q_2, .ref q_3, .ref q_4, .ref q_5, .ref q_6, .ref q_7, .ref q_8, .ref q_9, .null, .null, .null, .null, .int 0])), (q_1, .inl (cI g, 24, .inl (fun _ => 0))), (q_2, .inl (cI g, 24, .inl (fun _ => 0))), (q_3, .inl (cI g, 24, .inl (fun _ => 0))), (q_4, .inl (cI g, 24, .inl (fun _ => 0))), (q_5, .inl (cI g, 1536, .inl (fun _ => 0))), (q_6, .inl (cJ g, 24, .inr (.inl (fun _ => 0)))), (q_7, .inl (cI g, 24, .inl (fun _ => 0))), (q_8, .inl (cI g, 24, .inl (fun _ => 0))), (q_9, .inl (cI g, 24, .inl (fun _ => 0)))] H := hP
  have hD : va_D A [(h0, .inr (4, [.ref q_1, .ref q_2, .ref q_3, .ref q_4, .ref q_5, .ref q_6, .ref q_7, .ref q_8, .ref q_9, .null, .null, .null, .null, .int 0])), (q_1, .inl (cI g, 24, .inl (fun _ => 0))), (q_2, .inl (cI g, 24, .inl (fun _ => 0))), (q_3, .inl (cI g, 24, .inl (fun _ => 0))), (q_4, .inl (cI g, 24, .inl (fun _ => 0))), (q_5, .inl (cI g, 1536, .inl (fun _ => 0))), (q_6, .inl (cJ g, 24, .inr (.inl (fun _ => 0)))), (q_7, .inl (cI g, 24, .inl (fun _ => 0))), (q_8, .inl (cI g, 24, .inl (fun _ => 0))), (q_9, .inl (cI g, 24, .inl (fun _ => 0)))] := hD
  refine lv_aload_n hx hb dX4_init_77 rfl (lv_at hl 0 rfl) ?_
  refine lv_bipush (v := 24) hx hb dX4_init_78 (by decide) ?_
  refine va_newa (atype := .int) (ty := .int) (N' := 24) (a0 := (24, .inl (fun _ => 0))) hx hb (hts _ q_139) rfl hK hP hD hS hA (fun cA => rfl) (by decide) (by decide) (Nat.le_of_ble_eq_true rfl) (Nat.le_of_ble_eq_true rfl) (Nat.le_of_ble_eq_true rfl) dX4_init_80 (fun q_10 cA H hK1 hP hD hS => ?_)
  have e_q_10 := arrI hK1
  subst e_q_10
  have hP : va_P g.1 classes [(h0, .inr (4, [.ref q_1, .ref q_2, .ref q_3, .ref q_4, .ref q_5, .ref q_6, .ref q_7, .ref q_8, .ref q_9, .null, .null, .null, .null, .int 0])), (q_1, .inl (cI g, 24, .inl (fun _ => 0))), (q_2, .inl (cI g, 24, .inl (fun _ => 0))), (q_3, .inl (cI g, 24, .inl (fun _ => 0))), (q_4, .inl (cI g, 24, .inl (fun _ => 0))), (q_5, .inl (cI g, 1536, .inl (fun _ => 0))), (q_6, .inl (cJ g, 24, .inr (.inl (fun _ => 0)))), (q_7, .inl (cI g, 24, .inl (fun _ => 0))), (q_8, .inl (cI g, 24, .inl (fun _ => 0))), (q_9, .inl (cI g, 24, .inl (fun _ => 0))), (q_10, .inl (cI g, 24, .inl (fun _ => 0)))] H := hP
  have hD : va_D A [(h0, .inr (4, [.ref q_1, .ref q_2, .ref q_3, .ref q_4, .ref q_5, .ref q_6, .ref q_7, .ref q_8, .ref q_9, .null, .null, .null, .null, .int 0])), (q_1, .inl (cI g, 24, .inl (fun _ => 0))), (q_2, .inl (cI g, 24, .inl (fun _ => 0))), (q_3, .inl (cI g, 24, .inl (fun _ => 0))), (q_4, .inl (cI g, 24, .inl (fun _ => 0))), (q_5, .inl (cI g, 1536, .inl (fun _ => 0))), (q_6, .inl (cJ g, 24, .inr (.inl (fun _ => 0)))), (q_7, .inl (cI g, 24, .inl (fun _ => 0))), (q_8, .inl (cI g, 24, .inl (fun _ => 0))), (q_9, .inl (cI g, 24, .inl (fun _ => 0))), (q_10, .inl (cI g, 24, .inl (fun _ => 0)))] := hD
  refine va_putF (D := g.1) (ci := 4) (v := .ref q_10) (ty := .array .int) (C := RX4) (T := TX4) (N := 14) hx hb hts fw_X4 tyX4 tyX4_ok nmX4 hown hK hP hD hS 0 rfl rfl 9 (by decide) (hts _ q_260) (fun _ h9 => h9) rfl hnm rfl (by decide +kernel) rfl rfl (Nat.le_of_ble_eq_true rfl) dX4_init_82 (fun H locs hP hD hS => ?_)
  have hP : va_P g.1 classes [(h0, .inr (4, [.ref q_1, .ref q_2, .ref q_3, .ref q_4, .ref q_5, .ref q_6, .ref q_7, .ref q_8, .ref q_9, .ref q_10, .null, .null, .null, .int 0])), (q_1, .inl (cI g, 24, .inl (fun _ => 0))), (q_2, .inl (cI g, 24, .inl (fun _ => 0))), (q_3, .inl (cI g, 24, .inl (fun _ => 0))), (q_4, .inl (cI g, 24, .inl (fun _ => 0))), (q_5, .inl (cI g, 1536, .inl (fun _ => 0))), (q_6, .inl (cJ g, 24, .inr (.inl (fun _ => 0)))), (q_7, .inl (cI g, 24, .inl (fun _ => 0))), (q_8, .inl (cI g, 24, .inl (fun _ => 0))), (q_9, .inl (cI g, 24, .inl (fun _ => 0))), (q_10, .inl (cI g, 24, .inl (fun _ => 0)))] H := hP
  have hD : va_D A [(h0, .inr (4, [.ref q_1, .ref q_2, .ref q_3, .ref q_4, .ref q_5, .ref q_6, .ref q_7, .ref q_8, .ref q_9, .ref q_10, .null, .null, .null, .int 0])), (q_1, .inl (cI g, 24, .inl (fun _ => 0))), (q_2, .inl (cI g, 24, .inl (fun _ => 0))), (q_3, .inl (cI g, 24, .inl (fun _ => 0))), (q_4, .inl (cI g, 24, .inl (fun _ => 0))), (q_5, .inl (cI g, 1536, .inl (fun _ => 0))), (q_6, .inl (cJ g, 24, .inr (.inl (fun _ => 0)))), (q_7, .inl (cI g, 24, .inl (fun _ => 0))), (q_8, .inl (cI g, 24, .inl (fun _ => 0))), (q_9, .inl (cI g, 24, .inl (fun _ => 0))), (q_10, .inl (cI g, 24, .inl (fun _ => 0)))] := hD
  refine lv_aload_n hx hb dX4_init_85 rfl (lv_at hl 0 rfl) ?_
  refine lv_bipush (v := 24) hx hb dX4_init_86 (by decide) ?_
  refine va_newa (atype := .int) (ty := .int) (N' := 24) (a0 := (24, .inl (fun _ => 0))) hx hb (hts _ q_139) rfl hK hP hD hS hA (fun cA => rfl) (by decide) (by decide) (Nat.le_of_ble_eq_true rfl) (Nat.le_of_ble_eq_true rfl) (Nat.le_of_ble_eq_true rfl) dX4_init_88 (fun q_11 cA H hK1 hP hD hS => ?_)
  have e_q_11 := arrI hK1
  subst e_q_11
  have hP : va_P g.1 classes [(h0, .inr (4, [.ref q_1, .ref q_2, .ref q_3, .ref q_4, .ref q_5, .ref q_6, .ref q_7, .ref q_8, .ref q_9, .ref q_10, .null, .null, .null, .int 0])), (q_1, .inl (cI g, 24, .inl (fun _ => 0))), (q_2, .inl (cI g, 24, .inl (fun _ => 0))), (q_3, .inl (cI g, 24, .inl (fun _ => 0))), (q_4, .inl (cI g, 24, .inl (fun _ => 0))), (q_5, .inl (cI g, 1536, .inl (fun _ => 0))), (q_6, .inl (cJ g, 24, .inr (.inl (fun _ => 0)))), (q_7, .inl (cI g, 24, .inl (fun _ => 0))), (q_8, .inl (cI g, 24, .inl (fun _ => 0))), (q_9, .inl (cI g, 24, .inl (fun _ => 0))), (q_10, .inl (cI g, 24, .inl (fun _ => 0))), (q_11, .inl (cI g, 24, .inl (fun _ => 0)))] H := hP
  have hD : va_D A [(h0, .inr (4, [.ref q_1, .ref q_2, .ref q_3, .ref q_4, .ref q_5, .ref q_6, .ref q_7, .ref q_8, .ref q_9, .ref q_10, .null, .null, .null, .int 0])), (q_1, .inl (cI g, 24, .inl (fun _ => 0))), (q_2, .inl (cI g, 24, .inl (fun _ => 0))), (q_3, .inl (cI g, 24, .inl (fun _ => 0))), (q_4, .inl (cI g, 24, .inl (fun _ => 0))), (q_5, .inl (cI g, 1536, .inl (fun _ => 0))), (q_6, .inl (cJ g, 24, .inr (.inl (fun _ => 0)))), (q_7, .inl (cI g, 24, .inl (fun _ => 0))), (q_8, .inl (cI g, 24, .inl (fun _ => 0))), (q_9, .inl (cI g, 24, .inl (fun _ => 0))), (q_10, .inl (cI g, 24, .inl (fun _ => 0))), (q_11, .inl (cI g, 24, .inl (fun _ => 0)))] := hD
  refine va_putF (D := g.1) (ci := 4) (v := .ref q_11) (ty := .array .int) (C := RX4) (T := TX4) (N := 14) hx hb hts fw_X4 tyX4 tyX4_ok nmX4 hown hK hP hD hS 0 rfl rfl 10 (by decide) (hts _ q_261) (fun _ h9 => h9) rfl hnm rfl (by decide +kernel) rfl rfl (Nat.le_of_ble_eq_true rfl) dX4_init_90 (fun H locs hP hD hS => ?_)
  have hP : va_P g.1 classes [(h0, .inr (4, [.ref q_1, .ref q_2, .ref q_3, .ref q_4, .ref q_5, .ref q_6, .ref q_7, .ref q_8, .ref q_9, .ref q_10, .ref q_11, .null, .null, .int 0])), (q_1, .inl (cI g, 24, .inl (fun _ => 0))), (q_2, .inl (cI g, 24, .inl (fun _ => 0))), (q_3, .inl (cI g, 24, .inl (fun _ => 0))), (q_4, .inl (cI g, 24, .inl (fun _ => 0))), (q_5, .inl (cI g, 1536, .inl (fun _ => 0))), (q_6, .inl (cJ g, 24, .inr (.inl (fun _ => 0)))), (q_7, .inl (cI g, 24, .inl (fun _ => 0))), (q_8, .inl (cI g, 24, .inl (fun _ => 0))), (q_9, .inl (cI g, 24, .inl (fun _ => 0))), (q_10, .inl (cI g, 24, .inl (fun _ => 0))), (q_11, .inl (cI g, 24, .inl (fun _ => 0)))] H := hP
  have hD : va_D A [(h0, .inr (4, [.ref q_1, .ref q_2, .ref q_3, .ref q_4, .ref q_5, .ref q_6, .ref q_7, .ref q_8, .ref q_9, .ref q_10, .ref q_11, .null, .null, .int 0])), (q_1, .inl (cI g, 24, .inl (fun _ => 0))), (q_2, .inl (cI g, 24, .inl (fun _ => 0))), (q_3, .inl (cI g, 24, .inl (fun _ => 0))), (q_4, .inl (cI g, 24, .inl (fun _ => 0))), (q_5, .inl (cI g, 1536, .inl (fun _ => 0))), (q_6, .inl (cJ g, 24, .inr (.inl (fun _ => 0)))), (q_7, .inl (cI g, 24, .inl (fun _ => 0))), (q_8, .inl (cI g, 24, .inl (fun _ => 0))), (q_9, .inl (cI g, 24, .inl (fun _ => 0))), (q_10, .inl (cI g, 24, .inl (fun _ => 0))), (q_11, .inl (cI g, 24, .inl (fun _ => 0)))] := hD
  refine lv_aload_n hx hb dX4_init_93 rfl (lv_at hl 0 rfl) ?_
  refine lv_bipush (v := 24) hx hb dX4_init_94 (by decide) ?_
  refine va_newa (atype := .int) (ty := .int) (N' := 24) (a0 := (24, .inl (fun _ => 0))) hx hb (hts _ q_139) rfl hK hP hD hS hA (fun cA => rfl) (by decide) (by decide) (Nat.le_of_ble_eq_true rfl) (Nat.le_of_ble_eq_true rfl) (Nat.le_of_ble_eq_true rfl) dX4_init_96 (fun q_12 cA H hK1 hP hD hS => ?_)
  have e_q_12 := arrI hK1
  subst e_q_12
  have hP : va_P g.1 classes [(h0, .inr (4, [.ref q_1, .ref q_2, .ref q_3, .ref q_4, .ref q_5, .ref q_6, .ref q_7, .ref q_8, .ref q_9, .ref q_10, .ref q_11, .null, .null, .int 0])), (q_1, .inl (cI g, 24, .inl (fun _ => 0))), (q_2, .inl (cI g, 24, .inl (fun _ => 0))), (q_3, .inl (cI g, 24, .inl (fun _ => 0))), (q_4, .inl (cI g, 24, .inl (fun _ => 0))), (q_5, .inl (cI g, 1536, .inl (fun _ => 0))), (q_6, .inl (cJ g, 24, .inr (.inl (fun _ => 0)))), (q_7, .inl (cI g, 24, .inl (fun _ => 0))), (q_8, .inl (cI g, 24, .inl (fun _ => 0))), (q_9, .inl (cI g, 24, .inl (fun _ => 0))), (q_10, .inl (cI g, 24, .inl (fun _ => 0))), (q_11, .inl (cI g, 24, .inl (fun _ => 0))), (q_12, .inl (cI g, 24, .inl (fun _ => 0)))] H := hP
  have hD : va_D A [(h0, .inr (4, [.ref q_1, .ref q_2, .ref q_3, .ref q_4, .ref q_5, .ref q_6, .ref q_7, .ref q_8, .ref q_9, .ref q_10, .ref q_11, .null, .null, .int 0])), (q_1, .inl (cI g, 24, .inl (fun _ => 0))), (q_2, .inl (cI g, 24, .inl (fun _ => 0))), (q_3, .inl (cI g, 24, .inl (fun _ => 0))), (q_4, .inl (cI g, 24, .inl (fun _ => 0))), (q_5, .inl (cI g, 1536, .inl (fun _ => 0))), (q_6, .inl (cJ g, 24, .inr (.inl (fun _ => 0)))), (q_7, .inl (cI g, 24, .inl (fun _ => 0))), (q_8, .inl (cI g, 24, .inl (fun _ => 0))), (q_9, .inl (cI g, 24, .inl (fun _ => 0))), (q_10, .inl (cI g, 24, .inl (fun _ => 0))), (q_11, .inl (cI g, 24, .inl (fun _ => 0))), (q_12, .inl (cI g, 24, .inl (fun _ => 0)))] := hD
  refine va_putF (D := g.1) (ci := 4) (v := .ref q_12) (ty := .array .int) (C := RX4) (T := TX4) (N := 14) hx hb hts fw_X4 tyX4 tyX4_ok nmX4 hown hK hP hD hS 0 rfl rfl 11 (by decide) (hts _ q_262) (fun _ h9 => h9) rfl hnm rfl (by decide +kernel) rfl rfl (Nat.le_of_ble_eq_true rfl) dX4_init_98 (fun H locs hP hD hS => ?_)
  have hP : va_P g.1 classes [(h0, .inr (4, [.ref q_1, .ref q_2, .ref q_3, .ref q_4, .ref q_5, .ref q_6, .ref q_7, .ref q_8, .ref q_9, .ref q_10, .ref q_11, .ref q_12, .null, .int 0])), (q_1, .inl (cI g, 24, .inl (fun _ => 0))), (q_2, .inl (cI g, 24, .inl (fun _ => 0))), (q_3, .inl (cI g, 24, .inl (fun _ => 0))), (q_4, .inl (cI g, 24, .inl (fun _ => 0))), (q_5, .inl (cI g, 1536, .inl (fun _ => 0))), (q_6, .inl (cJ g, 24, .inr (.inl (fun _ => 0)))), (q_7, .inl (cI g, 24, .inl (fun _ => 0))), (q_8, .inl (cI g, 24, .inl (fun _ => 0))), (q_9, .inl (cI g, 24, .inl (fun _ => 0))), (q_10, .inl (cI g, 24, .inl (fun _ => 0))), (q_11, .inl (cI g, 24, .inl (fun _ => 0))), (q_12, .inl (cI g, 24, .inl (fun _ => 0)))] H := hP
  have hD : va_D A [(h0, .inr (4, [.ref q_1, .ref q_2, .ref q_3, .ref q_4, .ref q_5, .ref q_6, .ref q_7, .ref q_8, .ref q_9, .ref q_10, .ref q_11, .ref q_12, .null, .int 0])), (q_1, .inl (cI g, 24, .inl (fun _ => 0))), (q_2, .inl (cI g, 24, .inl (fun _ => 0))), (q_3, .inl (cI g, 24, .inl (fun _ => 0))), (q_4, .inl (cI g, 24, .inl (fun _ => 0))), (q_5, .inl (cI g, 1536, .inl (fun _ => 0))), (q_6, .inl (cJ g, 24, .inr (.inl (fun _ => 0)))), (q_7, .inl (cI g, 24, .inl (fun _ => 0))), (q_8, .inl (cI g, 24, .inl (fun _ => 0))), (q_9, .inl (cI g, 24, .inl (fun _ => 0))), (q_10, .inl (cI g, 24, .inl (fun _ => 0))), (q_11, .inl (cI g, 24, .inl (fun _ => 0))), (q_12, .inl (cI g, 24, .inl (fun _ => 0)))] := hD
  refine lv_aload_n hx hb dX4_init_101 rfl (lv_at hl 0 rfl) ?_
  refine lv_bipush (v := 24) hx hb dX4_init_102 (by decide) ?_
  refine va_newa (atype := .long) (ty := .long) (N' := 24) (a0 := (24, .inr (.inl (fun _ => 0)))) hx hb (hts _ q_294) rfl hK hP hD hS hA (fun cA => rfl) (by decide) (by decide) (Nat.le_of_ble_eq_true rfl) (Nat.le_of_ble_eq_true rfl) (Nat.le_of_ble_eq_true rfl) dX4_init_104 (fun q_13 cA H hK1 hP hD hS => ?_)
  have e_q_13 := arrJ hK1
  subst e_q_13
  have hP : va_P g.1 classes [(h0, .inr (4, [.ref q_1, .ref q_2, .ref q_3, .ref q_4, .ref q_5, .ref q_6, .ref q_7, .ref q_8, .ref q_9, .ref q_10, .ref q_11, .ref q_12, .null, .int 0])), (q_1, .inl (cI g, 24, .inl (fun _ => 0))), (q_2, .inl (cI g, 24, .inl (fun _ => 0))), (q_3, .inl (cI g, 24, .inl (fun _ => 0))), (q_4, .inl (cI g, 24, .inl (fun _ => 0))), (q_5, .inl (cI g, 1536, .inl (fun _ => 0))), (q_6, .inl (cJ g, 24, .inr (.inl (fun _ => 0)))), (q_7, .inl (cI g, 24, .inl (fun _ => 0))), (q_8, .inl (cI g, 24, .inl (fun _ => 0))), (q_9, .inl (cI g, 24, .inl (fun _ => 0))), (q_10, .inl (cI g, 24, .inl (fun _ => 0))), (q_11, .inl (cI g, 24, .inl (fun _ => 0))), (q_12, .inl (cI g, 24, .inl (fun _ => 0))), (q_13, .inl (cJ g, 24, .inr (.inl (fun _ => 0))))] H := hP
  have hD : va_D A [(h0, .inr (4, [.ref q_1, .ref q_2, .ref q_3, .ref q_4, .ref q_5, .ref q_6, .ref q_7, .ref q_8, .ref q_9, .ref q_10, .ref q_11, .ref q_12, .null, .int 0])), (q_1, .inl (cI g, 24, .inl (fun _ => 0))), (q_2, .inl (cI g, 24, .inl (fun _ => 0))), (q_3, .inl (cI g, 24, .inl (fun _ => 0))), (q_4, .inl (cI g, 24, .inl (fun _ => 0))), (q_5, .inl (cI g, 1536, .inl (fun _ => 0))), (q_6, .inl (cJ g, 24, .inr (.inl (fun _ => 0)))), (q_7, .inl (cI g, 24, .inl (fun _ => 0))), (q_8, .inl (cI g, 24, .inl (fun _ => 0))), (q_9, .inl (cI g, 24, .inl (fun _ => 0))), (q_10, .inl (cI g, 24, .inl (fun _ => 0))), (q_11, .inl (cI g, 24, .inl (fun _ => 0))), (q_12, .inl (cI g, 24, .inl (fun _ => 0))), (q_13, .inl (cJ g, 24, .inr (.inl (fun _ => 0))))] := hD
  refine va_putF (D := g.1) (ci := 4) (v := .ref q_13) (ty := .array .long) (C := RX4) (T := TX4) (N := 14) hx hb hts fw_X4 tyX4 tyX4_ok nmX4 hown hK hP hD hS 0 rfl rfl 12 (by decide) (hts _ q_263) (fun _ h9 => h9) rfl hnm rfl (by decide +kernel) rfl rfl (Nat.le_of_ble_eq_true rfl) dX4_init_106 (fun H locs hP hD hS => ?_)
  have hP : va_P g.1 classes [(h0, .inr (4, [.ref q_1, .ref q_2, .ref q_3, .ref q_4, .ref q_5, .ref q_6, .ref q_7, .ref q_8, .ref q_9, .ref q_10, .ref q_11, .ref q_12, .ref q_13, .int 0])), (q_1, .inl (cI g, 24, .inl (fun _ => 0))), (q_2, .inl (cI g, 24, .inl (fun _ => 0))), (q_3, .inl (cI g, 24, .inl (fun _ => 0))), (q_4, .inl (cI g, 24, .inl (fun _ => 0))), (q_5, .inl (cI g, 1536, .inl (fun _ => 0))), (q_6, .inl (cJ g, 24, .inr (.inl (fun _ => 0)))), (q_7, .inl (cI g, 24, .inl (fun _ => 0))), (q_8, .inl (cI g, 24, .inl (fun _ => 0))), (q_9, .inl (cI g, 24, .inl (fun _ => 0))), (q_10, .inl (cI g, 24, .inl (fun _ => 0))), (q_11, .inl (cI g, 24, .inl (fun _ => 0))), (q_12, .inl (cI g, 24, .inl (fun _ => 0))), (q_13, .inl (cJ g, 24, .inr (.inl (fun _ => 0))))] H := hP
  have hD : va_D A [(h0, .inr (4, [.ref q_1, .ref q_2, .ref q_3, .ref q_4, .ref q_5, .ref q_6, .ref q_7, .ref q_8, .ref q_9, .ref q_10, .ref q_11, .ref q_12, .ref q_13, .int 0])), (q_1, .inl (cI g, 24, .inl (fun _ => 0))), (q_2, .inl (cI g, 24, .inl (fun _ => 0))), (q_3, .inl (cI g, 24, .inl (fun _ => 0))), (q_4, .inl (cI g, 24, .inl (fun _ => 0))), (q_5, .inl (cI g, 1536, .inl (fun _ => 0))), (q_6, .inl (cJ g, 24, .inr (.inl (fun _ => 0)))), (q_7, .inl (cI g, 24, .inl (fun _ => 0))), (q_8, .inl (cI g, 24, .inl (fun _ => 0))), (q_9, .inl (cI g, 24, .inl (fun _ => 0))), (q_10, .inl (cI g, 24, .inl (fun _ => 0))), (q_11, .inl (cI g, 24, .inl (fun _ => 0))), (q_12, .inl (cI g, 24, .inl (fun _ => 0))), (q_13, .inl (cJ g, 24, .inr (.inl (fun _ => 0))))] := hD
  exact rV X hK hP hD hS dX4_init_109 (Nat.le_of_ble_eq_true rfl) (Nat.le_of_ble_eq_true rfl) ⟨q_1, q_2, q_3, q_4, q_5, q_6, q_7, q_8, q_9, q_10, q_11, q_12, q_13, rfl⟩
set_option maxHeartbeats 4000000 in
set_option maxRecDepth 100000 in
theorem c_X2_init (l : Launch) (g : GG) (h0 : Nat) : MV l g yX2_init cX2_init 1 1 12 6 300 [(h0, .inr (2, [.null, .null, .null, .null, .null, .null, .int 0, .int 0]))] [.ref h0] (fun ww_ => ∃ (q_1 : Nat) (q_2 : Nat) (q_3 : Nat) (q_4 : Nat) (q_5 : Nat) (q_6 : Nat), ww_ = [(h0, .inr (2, [.ref q_1, .ref q_2, .ref q_3, .ref q_4, .ref q_5, .ref q_6, .int 0, .int 0])), (q_1, .inl (cI g, 40, .inl (fun _ => 0))), (q_2, .inl (cI g, 40, .inl (fun _ => 0))), (q_3, .inl (cI g, 40, .inl (fun _ => 0))), (q_4, .inl (cI g, 60, .inl (fun _ => 0))), (q_5, .inl (cI g, 60, .inl (fun _ => 0))), (q_6, .inl (cI g, 60, .inl (fun _ => 0)))]) := by
  refine met_of (fun A => va_Qv _ (bW g A) A) (by decide) (Nat.le_of_ble_eq_true rfl) ?_
  intro p e s m below meth c A ls X hK hP hD hA hZ hS hl
  have hx := X.1
  have hb := X.2.1
  have hml := X.2.2.1
  have hown := X.2.2.2.1
  have hts := X.2.2.2.2.1
  have hnm := X.2.2.2.2.2.2.2
  have hl : lv_has ls 1 [(0, .ref h0)] := hl
  refine lv_aload_n hx hb dX2_init_0 rfl (lv_at hl 0 rfl) ?_
  refine W.objInit hx hb hown (hts _ q_300) (hts _ q_112) (hts _ q_113) rfl (by rw [hml]; exact hl.1) rfl dX2_init_1 (Nat.le_of_ble_eq_true rfl) (Nat.le_of_ble_eq_true rfl) ?_
  refine W.eq (g2 := F0 m 4 ls []) rfl ?_
  refine lv_aload_n hx hb dX2_init_4 rfl (lv_at hl 0 rfl) ?_
  refine lv_bipush (v := 40) hx hb dX2_init_5 (by decide) ?_
  refine va_newa (atype := .int) (ty := .int) (N' := 40) (a0 := (40, .inl (fun _ => 0))) hx hb (hts _ q_139) rfl hK hP hD hS hA (fun cA => rfl) (by decide) (by decide) (Nat.le_of_ble_eq_true rfl) (Nat.le_of_ble_eq_true rfl) (Nat.le_of_ble_eq_true rfl) dX2_init_7 (fun q_1 cA H hK1 hP hD hS => ?_)
  have e_q_1 := arrI hK1
  subst e_q_1
  have hP : va_P g.1 classes [(h0, .inr (2, [.null, .null, .null, .null, .null, .null, .int 0, .int 0])), (q_1, .inl (cI g, 40, .inl (fun _ => 0)))] H := hP
  have hD : va_D A [(h0, .inr (2, [.null, .null, .null, .null, .null, .null, .int 0, .int 0])), (q_1, .inl (cI g, 40, .inl (fun _ => 0)))] := hD
  refine va_putF (D := g.1) (ci := 2) (v := .ref q_1) (ty := .array .int) (C := RX2) (T := TX2) (N := 8) hx hb hts fw_X2 tyX2 tyX2_ok nmX2 hown hK hP hD hS 0 rfl rfl 0 (by decide) (hts _ q_301) (fun _ h9 => h9) rfl hnm rfl (by decide +kernel) rfl rfl (Nat.le_of_ble_eq_true rfl) dX2_init_9 (fun H locs hP hD hS => ?_)
  have hP : va_P g.1 classes [(h0, .inr (2, [.ref q_1, .null, .null, .null, .null, .null, .int 0, .int 0])), (q_1, .inl (cI g, 40, .inl (fun _ => 0)))] H := hP
  have hD : va_D A [(h0, .inr (2, [.ref q_1, .null, .null, .null, .null, .null, .int 0, .int 0])), (q_1, .inl (cI g, 40, .inl (fun _ => 0)))] := hD
  refine lv_aload_n hx hb dX2_init_12 rfl (lv_at hl 0 rfl) ?_
  refine lv_bipush (v := 40) hx hb dX2_init_13 (by decide) ?_
  refine va_newa (atype := .int) (ty := .int) (N' := 40) (a0 := (40, .inl (fun _ => 0))) hx hb (hts _ q_139) rfl hK hP hD hS hA (fun cA => rfl) (by decide) (by decide) (Nat.le_of_ble_eq_true rfl) (Nat.le_of_ble_eq_true rfl) (Nat.le_of_ble_eq_true rfl) dX2_init_15 (fun q_2 cA H hK1 hP hD hS => ?_)
  have e_q_2 := arrI hK1
  subst e_q_2
  have hP : va_P g.1 classes [(h0, .inr (2, [.ref q_1, .null, .null, .null, .null, .null, .int 0, .int 0])), (q_1, .inl (cI g, 40, .inl (fun _ => 0))), (q_2, .inl (cI g, 40, .inl (fun _ => 0)))] H := hP
  have hD : va_D A [(h0, .inr (2, [.ref q_1, .null, .null, .null, .null, .null, .int 0, .int 0])), (q_1, .inl (cI g, 40, .inl (fun _ => 0))), (q_2, .inl (cI g, 40, .inl (fun _ => 0)))] := hD
  refine va_putF (D := g.1) (ci := 2) (v := .ref q_2) (ty := .array .int) (C := RX2) (T := TX2) (N := 8) hx hb hts fw_X2 tyX2 tyX2_ok nmX2 hown hK hP hD hS 0 rfl rfl 1 (by decide) (hts _ q_302) (fun _ h9 => h9) rfl hnm rfl (by decide +kernel) rfl rfl (Nat.le_of_ble_eq_true rfl) dX2_init_17 (fun H locs hP hD hS => ?_)
  have hP : va_P g.1 classes [(h0, .inr (2, [.ref q_1, .ref q_2, .null, .null, .null, .null, .int 0, .int 0])), (q_1, .inl (cI g, 40, .inl (fun _ => 0))), (q_2, .inl (cI g, 40, .inl (fun _ => 0)))] H := hP
  have hD : va_D A [(h0, .inr (2, [.ref q_1, .ref q_2, .null, .null, .null, .null, .int 0, .int 0])), (q_1, .inl (cI g, 40, .inl (fun _ => 0))), (q_2, .inl (cI g, 40, .inl (fun _ => 0)))] := hD
  refine lv_aload_n hx hb dX2_init_20 rfl (lv_at hl 0 rfl) ?_
  refine lv_bipush (v := 40) hx hb dX2_init_21 (by decide) ?_
  refine va_newa (atype := .int) (ty := .int) (N' := 40) (a0 := (40, .inl (fun _ => 0))) hx hb (hts _ q_139) rfl hK hP hD hS hA (fun cA => rfl) (by decide) (by decide) (Nat.le_of_ble_eq_true rfl) (Nat.le_of_ble_eq_true rfl) (Nat.le_of_ble_eq_true rfl) dX2_init_23 (fun q_3 cA H hK1 hP hD hS => ?_)
  have e_q_3 := arrI hK1
  subst e_q_3
  have hP : va_P g.1 classes [(h0, .inr (2, [.ref q_1, .ref q_2, .null, .null, .null, .null, .int 0, .int 0])), (q_1, .inl (cI g, 40, .inl (fun _ => 0))), (q_2, .inl (cI g, 40, .inl (fun _ => 0))), (q_3, .inl (cI g, 40, .inl (fun _ => 0)))] H := hP
  have hD : va_D A [(h0, .inr (2, [.ref q_1, .ref q_2, .null, .null, .null, .null, .int 0, .int 0])), (q_1, .inl (cI g, 40, .inl (fun _ => 0))), (q_2, .inl (cI g, 40, .inl (fun _ => 0))), (q_3, .inl (cI g, 40, .inl (fun _ => 0)))] := hD
  refine va_putF (D := g.1) (ci := 2) (v := .ref q_3) (ty := .array .int) (C := RX2) (T := TX2) (N := 8) hx hb hts fw_X2 tyX2 tyX2_ok nmX2 hown hK hP hD hS 0 rfl rfl 2 (by decide) (hts _ q_303) (fun _ h9 => h9) rfl hnm rfl (by decide +kernel) rfl rfl (Nat.le_of_ble_eq_true rfl) dX2_init_25 (fun H locs hP hD hS => ?_)
  have hP : va_P g.1 classes [(h0, .inr (2, [.ref q_1, .ref q_2, .ref q_3, .null, .null, .null, .int 0, .int 0])), (q_1, .inl (cI g, 40, .inl (fun _ => 0))), (q_2, .inl (cI g, 40, .inl (fun _ => 0))), (q_3, .inl (cI g, 40, .inl (fun _ => 0)))] H := hP
  have hD : va_D A [(h0, .inr (2, [.ref q_1, .ref q_2, .ref q_3, .null, .null, .null, .int 0, .int 0])), (q_1, .inl (cI g, 40, .inl (fun _ => 0))), (q_2, .inl (cI g, 40, .inl (fun _ => 0))), (q_3, .inl (cI g, 40, .inl (fun _ => 0)))] := hD
  refine lv_aload_n hx hb dX2_init_28 rfl (lv_at hl 0 rfl) ?_
  refine lv_bipush (v := 60) hx hb dX2_init_29 (by decide) ?_
  refine va_newa (atype := .int) (ty := .int) (N' := 60) (a0 := (60, .inl (fun _ => 0))) hx hb (hts _ q_139) rfl hK hP hD hS hA (fun cA => rfl) (by decide) (by decide) (Nat.le_of_ble_eq_true rfl) (Nat.le_of_ble_eq_true rfl) (Nat.le_of_ble_eq_true rfl) dX2_init_31 (fun q_4 cA H hK1 hP hD hS => ?_)
  have e_q_4 := arrI hK1
  subst e_q_4
  have hP : va_P g.1 classes [(h0, .inr (2, [.ref q_1, .ref q_2, .ref q_3, .null, .null, .null, .int 0, .int 0])), (q_1, .inl (cI g, 40, .inl (fun _ => 0))), (q_2, .inl (cI g, 40, .inl (fun _ => 0))), (q_3, .inl (cI g, 40, .inl (fun _ => 0))), (q_4, .inl (cI g, 60, .inl (fun _ => 0)))] H := hP
  have hD : va_D A [(h0, .inr (2, [.ref q_1, .ref q_2, .ref q_3, .null, .null, .null, .int 0, .int 0])), (q_1, .inl (cI g, 40, .inl (fun _ => 0))), (q_2, .inl (cI g, 40, .inl (fun _ => 0))), (q_3, .inl (cI g, 40, .inl (fun _ => 0))), (q_4, .inl (cI g, 60, .inl (fun _ => 0)))] := hD
  refine va_putF (D := g.1) (ci := 2) (v := .ref q_4) (ty := .array .int) (C := RX2) (T := TX2) (N := 8) hx hb hts fw_X2 tyX2 tyX2_ok nmX2 hown hK hP hD hS 0 rfl rfl 3 (by decide) (hts _ q_304) (fun _ h9 => h9) rfl hnm rfl (by decide +kernel) rfl rfl (Nat.le_of_ble_eq_true rfl) dX2_init_33 (fun H locs hP hD hS => ?_)
  have hP : va_P g.1 classes [(h0, .inr (2, [.ref q_1, .ref q_2, .ref q_3, .ref q_4, .null, .null, .int 0, .int 0])), (q_1, .inl (cI g, 40, .inl (fun _ => 0))), (q_2, .inl (cI g, 40, .inl (fun _ => 0))), (q_3, .inl (cI g, 40, .inl (fun _ => 0))), (q_4, .inl (cI g, 60, .inl (fun _ => 0)))] H := hP
  have hD : va_D A [(h0, .inr (2, [.ref q_1, .ref q_2, .ref q_3, .ref q_4, .null, .null, .int 0, .int 0])), (q_1, .inl (cI g, 40, .inl (fun _ => 0))), (q_2, .inl (cI g, 40, .inl (fun _ => 0))), (q_3, .inl (cI g, 40, .inl (fun _ => 0))), (q_4, .inl (cI g, 60, .inl (fun _ => 0)))] := hD
  refine lv_aload_n hx hb dX2_init_36 rfl (lv_at hl 0 rfl) ?_
  refine lv_bipush (v := 60) hx hb dX2_init_37 (by decide) ?_
  refine va_newa (atype := .int) (ty := .int) (N' := 60) (a0 := (60, .inl (fun _ => 0))) hx hb (hts _ q_139) rfl hK hP hD hS hA (fun cA => rfl) (by decide) (by decide) (Nat.le_of_ble_eq_true rfl) (Nat.le_of_ble_eq_true rfl) (Nat.le_of_ble_eq_true rfl) dX2_init_39 (fun q_5 cA H hK1 hP hD hS => ?_)
  have e_q_5 := arrI hK1
  subst e_q_5
  have hP : va_P g.1 classes [(h0, .inr (2, [.ref q_1, .ref q_2, .ref q_3, .ref q_4, .null, .null, .int 0, .int 0])), (q_1, .inl (cI g, 40, .inl (fun _ => 0))), (q_2, .inl (cI g, 40, .inl (fun _ => 0))), (q_3, .inl (cI g, 40, .inl (fun _ => 0))), (q_4, .inl (cI g, 60, .inl (fun _ => 0))), (q_5, .inl (cI g, 60, .inl (fun _ => 0)))] H := hP
  have hD : va_D A [(h0, .inr (2, [.ref q_1, .ref q_2, .ref q_3, .ref q_4, .null, .null, .int 0, .int 0])), (q_1, .inl (cI g, 40, .inl (fun _ => 0))), (q_2, .inl (cI g, 40, .inl (fun _ => 0))), (q_3, .inl (cI g, 40, .inl (fun _ => 0))), (q_4, .inl (cI g, 60, .inl (fun _ => 0))), (q_5, .inl (cI g, 60, .inl (fun _ => 0)))] := hD
  refine va_putF (D := g.1) (ci := 2) (v := .ref q_5) (ty := .array .int) (C := RX2) (T := TX2) (N := 8) hx hb hts fw_X2 tyX2 tyX2_ok nmX2 hown hK hP hD hS 0 rfl rfl 4 (by decide) (hts _ q_305) (fun _ h9 => h9) rfl hnm rfl (by decide +kernel) rfl rfl (Nat.le_of_ble_eq_true rfl) dX2_init_41 (fun H locs hP hD hS => ?_)
  have hP : va_P g.1 classes [(h0, .inr (2, [.ref q_1, .ref q_2, .ref q_3, .ref q_4, .ref q_5, .null, .int 0, .int 0])), (q_1, .inl (cI g, 40, .inl (fun _ => 0))), (q_2, .inl (cI g, 40, .inl (fun _ => 0))), (q_3, .inl (cI g, 40, .inl (fun _ => 0))), (q_4, .inl (cI g, 60, .inl (fun _ => 0))), (q_5, .inl (cI g, 60, .inl (fun _ => 0)))] H := hP
  have hD : va_D A [(h0, .inr (2, [.ref q_1, .ref q_2, .ref q_3, .ref q_4, .ref q_5, .null, .int 0, .int 0])), (q_1, .inl (cI g, 40, .inl (fun _ => 0))), (q_2, .inl (cI g, 40, .inl (fun _ => 0))), (q_3, .inl (cI g, 40, .inl (fun _ => 0))), (q_4, .inl (cI g, 60, .inl (fun _ => 0))), (q_5, .inl (cI g, 60, .inl (fun _ => 0)))] := hD
  refine lv_aload_n hx hb dX2_init_44 rfl (lv_at hl 0 rfl) ?_
  refine lv_bipush (v := 60) hx hb dX2_init_45 (by decide) ?_
  refine va_newa (atype := .int) (ty := .int) (N' := 60) (a0 := (60, .inl (fun _ => 0))) hx hb (hts _ q_139) rfl hK hP hD hS hA (fun cA => rfl) (by decide) (by decide) (Nat.le_of_ble_eq_true rfl) (Nat.le_of_ble_eq_true rfl) (Nat.le_of_ble_eq_true rfl) dX2_init_47 (fun q_6 cA H hK1 hP hD hS => ?_)
  have e_q_6 := arrI hK1
  subst e_q_6
  have hP : va_P g.1 classes [(h0, .inr (2, [.ref q_1, .ref q_2, .ref q_3, .ref q_4, .ref q_5, .null, .int 0, .int 0])), (q_1, .inl (cI g, 40, .inl (fun _ => 0))), (q_2, .inl (cI g, 40, .inl (fun _ => 0))), (q_3, .inl (cI g, 40, .inl (fun _ => 0))), (q_4, .inl (cI g, 60, .inl (fun _ => 0))), (q_5, .inl (cI g, 60, .inl (fun _ => 0))), (q_6, .inl (cI g, 60, .inl (fun _ => 0)))] H := hP
  have hD : va_D A [(h0, .inr (2, [.ref q_1, .ref q_2, .ref q_3, .ref q_4, .ref q_5, .null, .int 0, .int 0])), (q_1, .inl (cI g, 40, .inl (fun _ => 0))), (q_2, .inl (cI g, 40, .inl (fun _ => 0))), (q_3, .inl (cI g, 40, .inl (fun _ => 0))), (q_4, .inl (cI g, 60, .inl (fun _ => 0))), (q_5, .inl (cI g, 60, .inl (fun _ => 0))), (q_6, .inl (cI g, 60, .inl (fun _ => 0)))] := hD
  refine va_putF (D := g.1) (ci := 2) (v := .ref q_6) (ty := .array .int) (C := RX2) (T := TX2) (N := 8) hx hb hts fw_X2 tyX2 tyX2_ok nmX2 hown hK hP hD hS 0 rfl rfl 5 (by decide) (hts _ q_306) (fun _ h9 => h9) rfl hnm rfl (by decide +kernel) rfl rfl (Nat.le_of_ble_eq_true rfl) dX2_init_49 (fun H locs hP hD hS => ?_)
  have hP : va_P g.1 classes [(h0, .inr (2, [.ref q_1, .ref q_2, .ref q_3, .ref q_4, .ref q_5, .ref q_6, .int 0, .int 0])), (q_1, .inl (cI g, 40, .inl (fun _ => 0))), (q_2, .inl (cI g, 40, .inl (fun _ => 0))), (q_3, .inl (cI g, 40, .inl (fun _ => 0))), (q_4, .inl (cI g, 60, .inl (fun _ => 0))), (q_5, .inl (cI g, 60, .inl (fun _ => 0))), (q_6, .inl (cI g, 60, .inl (fun _ => 0)))] H := hP
  have hD : va_D A [(h0, .inr (2, [.ref q_1, .ref q_2, .ref q_3, .ref q_4, .ref q_5, .ref q_6, .int 0, .int 0])), (q_1, .inl (cI g, 40, .inl (fun _ => 0))), (q_2, .inl (cI g, 40, .inl (fun _ => 0))), (q_3, .inl (cI g, 40, .inl (fun _ => 0))), (q_4, .inl (cI g, 60, .inl (fun _ => 0))), (q_5, .inl (cI g, 60, .inl (fun _ => 0))), (q_6, .inl (cI g, 60, .inl (fun _ => 0)))] := hD
  exact rV X hK hP hD hS dX2_init_52 (Nat.le_of_ble_eq_true rfl) (Nat.le_of_ble_eq_true rfl) ⟨q_1, q_2, q_3, q_4, q_5, q_6, rfl⟩
set_option maxHeartbeats 4000000 in
set_option maxRecDepth 100000 in
theorem c_X10_init (l : Launch) (g : GG) (h0 : Nat) : MV l g yX10_init cX10_init 1 1 12 5 512 [(h0, .inr (10, [.null, .null, .int 0, .int 0, .null, .null, .null, .long 0, .int 0, .int 0, .int 0]))] [.ref h0] (fun ww_ => ∃ (q_1 : Nat) (q_2 : Nat) (q_3 : Nat) (q_4 : Nat) (q_5 : Nat), ww_ = [(h0, .inr (10, [.ref q_1, .ref q_2, .int 0, .int 0, .ref q_3, .ref q_4, .ref q_5, .long 0, .int 0, .int 0, .int 0])), (q_1, .inl (cI g, 64, .inl (fun _ => 0))), (q_2, .inl (cI g, 64, .inl (fun _ => 0))), (q_3, .inl (cI g, 256, .inl (fun _ => 0))), (q_4, .inl (cI g, 64, .inl (fun _ => 0))), (q_5, .inl (cI g, 64, .inl (fun _ => 0)))]) := by
  refine met_of (fun A => va_Qv _ (bW g A) A) (by decide) (Nat.le_of_ble_eq_true rfl) ?_
  intro p e s m below meth c A ls X hK hP hD hA hZ hS hl
  have hx := X.1
  have hb := X.2.1
  have hml := X.2.2.1
  have hown := X.2.2.2.1
  have hts := X.2.2.2.2.1
  have hnm := X.2.2.2.2.2.2.2
  have hl : lv_has ls 1 [(0, .ref h0)] := hl
  refine lv_aload_n hx hb dX10_init_0 rfl (lv_at hl 0 rfl) ?_
  refine W.objInit hx hb hown (hts _ q_331) (hts _ q_112) (hts _ q_113) rfl (by rw [hml]; exact hl.1) rfl dX10_init_1 (Nat.le_of_ble_eq_true rfl) (Nat.le_of_ble_eq_true rfl) ?_
  refine W.eq (g2 := F0 m 4 ls []) rfl ?_
  refine lv_aload_n hx hb dX10_init_4 rfl (lv_at hl 0 rfl) ?_
  refine lv_bipush (v := 64) hx hb dX10_init_5 (by decide) ?_
  refine va_newa (atype := .int) (ty := .int) (N' := 64) (a0 := (64, .inl (fun _ => 0))) hx hb (hts _ q_139) rfl hK hP hD hS hA (fun cA => rfl) (by decide) (by decide) (Nat.le_of_ble_eq_true rfl) (Nat.le_of_ble_eq_true rfl) (Nat.le_of_ble_eq_true rfl) dX10_init_7 (fun q_1 cA H hK1 hP hD hS => ?_)
  have e_q_1 := arrI hK1
  subst e_q_1
  have hP : va_P g.1 classes [(h0, .inr (10, [.null, .null, .int 0, .int 0, .null, .null, .null, .long 0, .int 0, .int 0, .int 0])), (q_1, .inl (cI g, 64, .inl (fun _ => 0)))] H := hP
  have hD : va_D A [(h0, .inr (10, [.null, .null, .int 0, .int 0, .null, .null, .null, .long 0, .int 0, .int 0, .int 0])), (q_1, .inl (cI g, 64, .inl (fun _ => 0)))] := hD
  refine va_putF (D := g.1) (ci := 10) (v := .ref q_1) (ty := .array .int) (C := RX10) (T := TX10) (N := 11) hx hb hts fw_X10 tyX10 tyX10_ok nmX10 hown hK hP hD hS 0 rfl rfl 0 (by decide) (hts _ q_332) (fun _ h9 => h9) rfl hnm rfl (by decide +kernel) rfl rfl (Nat.le_of_ble_eq_true rfl) dX10_init_9 (fun H locs hP hD hS => ?_)
  have hP : va_P g.1 classes [(h0, .inr (10, [.ref q_1, .null, .int 0, .int 0, .null, .null, .null, .long 0, .int 0, .int 0, .int 0])), (q_1, .inl (cI g, 64, .inl (fun _ => 0)))] H := hP
  have hD : va_D A [(h0, .inr (10, [.ref q_1, .null, .int 0, .int 0, .null, .null, .null, .long 0, .int 0, .int 0, .int 0])), (q_1, .inl (cI g, 64, .inl (fun _ => 0)))] := hD
  refine lv_aload_n hx hb dX10_init_12 rfl (lv_at hl 0 rfl) ?_
  refine lv_bipush (v := 64) hx hb dX10_init_13 (by decide) ?_
  refine va_newa (atype := .int) (ty := .int) (N' := 64) (a0 := (64, .inl (fun _ => 0))) hx hb (hts _ q_139) rfl hK hP hD hS hA (fun cA => rfl) (by decide) (by decide) (Nat.le_of_ble_eq_true rfl) (Nat.le_of_ble_eq_true rfl) (Nat.le_of_ble_eq_true rfl) dX10_init_15 (fun q_2 cA H hK1 hP hD hS => ?_)
  have e_q_2 := arrI hK1
  subst e_q_2
  have hP : va_P g.1 classes [(h0, .inr (10, [.ref q_1, .null, .int 0, .int 0, .null, .null, .null, .long 0, .int 0, .int 0, .int 0])), (q_1, .inl (cI g, 64, .inl (fun _ => 0))), (q_2, .inl (cI g, 64, .inl (fun _ => 0)))] H := hP
  have hD : va_D A [(h0, .inr (10, [.ref q_1, .null, .int 0, .int 0, .null, .null, .null, .long 0, .int 0, .int 0, .int 0])), (q_1, .inl (cI g, 64, .inl (fun _ => 0))), (q_2, .inl (cI g, 64, .inl (fun _ => 0)))] := hD
  refine va_putF (D := g.1) (ci := 10) (v := .ref q_2) (ty := .array .int) (C := RX10) (T := TX10) (N := 11) hx hb hts fw_X10 tyX10 tyX10_ok nmX10 hown hK hP hD hS 0 rfl rfl 1 (by decide) (hts _ q_334) (fun _ h9 => h9) rfl hnm rfl (by decide +kernel) rfl rfl (Nat.le_of_ble_eq_true rfl) dX10_init_17 (fun H locs hP hD hS => ?_)
  have hP : va_P g.1 classes [(h0, .inr (10, [.ref q_1, .ref q_2, .int 0, .int 0, .null, .null, .null, .long 0, .int 0, .int 0, .int 0])), (q_1, .inl (cI g, 64, .inl (fun _ => 0))), (q_2, .inl (cI g, 64, .inl (fun _ => 0)))] H := hP
  have hD : va_D A [(h0, .inr (10, [.ref q_1, .ref q_2, .int 0, .int 0, .null, .null, .null, .long 0, .int 0, .int 0, .int 0])), (q_1, .inl (cI g, 64, .inl (fun _ => 0))), (q_2, .inl (cI g, 64, .inl (fun _ => 0)))] := hD
  refine lv_aload_n hx hb dX10_init_20 rfl (lv_at hl 0 rfl) ?_
  refine lv_sipush (v := 256) hx hb dX10_init_21 (by decide) ?_
  refine va_newa (atype := .int) (ty := .int) (N' := 256) (a0 := (256, .inl (fun _ => 0))) hx hb (hts _ q_139) rfl hK hP hD hS hA (fun cA => rfl) (by decide) (by decide) (Nat.le_of_ble_eq_true rfl) (Nat.le_of_ble_eq_true rfl) (Nat.le_of_ble_eq_true rfl) dX10_init_24 (fun q_3 cA H hK1 hP hD hS => ?_)
  have e_q_3 := arrI hK1
  subst e_q_3
  have hP : va_P g.1 classes [(h0, .inr (10, [.ref q_1, .ref q_2, .int 0, .int 0, .null, .null, .null, .long 0, .int 0, .int 0, .int 0])), (q_1, .inl (cI g, 64, .inl (fun _ => 0))), (q_2, .inl (cI g, 64, .inl (fun _ => 0))), (q_3, .inl (cI g, 256, .inl (fun _ => 0)))] H := hP
  have hD : va_D A [(h0, .inr (10, [.ref q_1, .ref q_2, .int 0, .int 0, .null, .null, .null, .long 0, .int 0, .int 0, .int 0])), (q_1, .inl (cI g, 64, .inl (fun _ => 0))), (q_2, .inl (cI g, 64, .inl (fun _ => 0))), (q_3, .inl (cI g, 256, .inl (fun _ => 0)))] := hD
  refine va_putF (D := g.1) (ci := 10) (v := .ref q_3) (ty := .array .int) (C := RX10) (T := TX10) (N := 11) hx hb hts fw_X10 tyX10 tyX10_ok nmX10 hown hK hP hD hS 0 rfl rfl 4 (by decide) (hts _ q_340) (fun _ h9 => h9) rfl hnm rfl (by decide +kernel) rfl rfl (Nat.le_of_ble_eq_true rfl) dX10_init_26 (fun H locs hP hD hS => ?_)
  have hP : va_P g.1 classes [(h0, .inr (10, [.ref q_1, .ref q_2, .int 0, .int 0, .ref q_3, .null, .null, .long 0, .int 0, .int 0, .int 0])), (q_1, .inl (cI g, 64, .inl (fun _ => 0))), (q_2, .inl (cI g, 64, .inl (fun _ => 0))), (q_3, .inl (cI g, 256, .inl (fun _ => 0)))] H := hP
  have hD : va_D A [(h0, .inr (10, [.ref q_1, .ref q_2, .int 0, .int 0, .ref q_3, .null, .null, .long 0, .int 0, .int 0, .int 0])), (q_1, .inl (cI g, 64, .inl (fun _ => 0))), (q_2, .inl (cI g, 64, .inl (fun _ => 0))), (q_3, .inl (cI g, 256, .inl (fun _ => 0)))] := hD
  refine lv_aload_n hx hb dX10_init_29 rfl (lv_at hl 0 rfl) ?_
  refine lv_bipush (v := 64) hx hb dX10_init_30 (by decide) ?_
  refine va_newa (atype := .int) (ty := .int) (N' := 64) (a0 := (64, .inl (fun _ => 0))) hx hb (hts _ q_139) rfl hK hP hD hS hA (fun cA => rfl) (by decide) (by decide) (Nat.le_of_ble_eq_true rfl) (Nat.le_of_ble_eq_true rfl) (Nat.le_of_ble_eq_true rfl) dX10_init_32 (fun q_4 cA H hK1 hP hD hS => ?_)
  have e_q_4 := arrI hK1
  subst e_q_4
  have hP : va_P g.1 classes [(h0, .inr (10, [.ref q_1, .ref q_2, .int 0, .int 0, .ref q_3, .null, .null, .long 0, .int 0, .int 0, .int 0])), (q_1, .inl (cI g, 64, .inl (fun _ => 0))), (q_2, .inl (cI g, 64, .inl (fun _ => 0))), (q_3, .inl (cI g, 256, .inl (fun _ => 0))), (q_4, .inl (cI g, 64, .inl (fun _ => 0)))] H := hP
  have hD : va_D A [(h0, .inr (10, [.ref q_1, .ref q_2, .int 0, .int 0, .ref q_3, .null, .null, .long 0, .int 0, .int 0, .int 0])), (q_1, .inl (cI g, 64, .inl (fun _ => 0))), (q_2, .inl (cI g, 64, .inl (fun _ => 0))), (q_3, .inl (cI g, 256, .inl (fun _ => 0))), (q_4, .inl (cI g, 64, .inl (fun _ => 0)))] := hD
  refine va_putF (D := g.1) (ci := 10) (v := .ref q_4) (ty := .array .int) (C := RX10) (T := TX10) (N := 11) hx hb hts fw_X10 tyX10 tyX10_ok nmX10 hown hK hP hD hS 0 rfl rfl 5 (by decide) (hts _ q_341) (fun _ h9 => h9) rfl hnm rfl (by decide +kernel) rfl rfl (Nat.le_of_ble_eq_true rfl) dX10_init_34 (fun H locs hP hD hS => ?_)
  have hP : va_P g.1 classes [(h0, .inr (10, [.ref q_1, .ref q_2, .int 0, .int 0, .ref q_3, .ref q_4, .null, .long 0, .int 0, .int 0, .int 0])), (q_1, .inl (cI g, 64, .inl (fun _ => 0))), (q_2, .inl (cI g, 64, .inl (fun _ => 0))), (q_3, .inl (cI g, 256, .inl (fun _ => 0))), (q_4, .inl (cI g, 64, .inl (fun _ => 0)))] H := hP
  have hD : va_D A [(h0, .inr (10, [.ref q_1, .ref q_2, .int 0, .int 0, .ref q_3, .ref q_4, .null, .long 0, .int 0, .int 0, .int 0])), (q_1, .inl (cI g, 64, .inl (fun _ => 0))), (q_2, .inl (cI g, 64, .inl (fun _ => 0))), (q_3, .inl (cI g, 256, .inl (fun _ => 0))), (q_4, .inl (cI g, 64, .inl (fun _ => 0)))] := hD
  refine lv_aload_n hx hb dX10_init_37 rfl (lv_at hl 0 rfl) ?_
  refine lv_bipush (v := 64) hx hb dX10_init_38 (by decide) ?_
  refine va_newa (atype := .int) (ty := .int) (N' := 64) (a0 := (64, .inl (fun _ => 0))) hx hb (hts _ q_139) rfl hK hP hD hS hA (fun cA => rfl) (by decide) (by decide) (Nat.le_of_ble_eq_true rfl) (Nat.le_of_ble_eq_true rfl) (Nat.le_of_ble_eq_true rfl) dX10_init_40 (fun q_5 cA H hK1 hP hD hS => ?_)
  have e_q_5 := arrI hK1
  subst e_q_5
  have hP : va_P g.1 classes [(h0, .inr (10, [.ref q_1, .ref q_2, .int 0, .int 0, .ref q_3, .ref q_4, .null, .long 0, .int 0, .int 0, .int 0])), (q_1, .inl (cI g, 64, .inl (fun _ => 0))), (q_2, .inl (cI g, 64, .inl (fun _ => 0))), (q_3, .inl (cI g, 256, .inl (fun _ => 0))), (q_4, .inl (cI g, 64, .inl (fun _ => 0))), (q_5, .inl (cI g, 64, .inl (fun _ => 0)))] H := hP
  have hD : va_D A [(h0, .inr (10, [.ref q_1, .ref q_2, .int 0, .int 0, .ref q_3, .ref q_4, .null, .long 0, .int 0, .int 0, .int 0])), (q_1, .inl (cI g, 64, .inl (fun _ => 0))), (q_2, .inl (cI g, 64, .inl (fun _ => 0))), (q_3, .inl (cI g, 256, .inl (fun _ => 0))), (q_4, .inl (cI g, 64, .inl (fun _ => 0))), (q_5, .inl (cI g, 64, .inl (fun _ => 0)))] := hD
  refine va_putF (D := g.1) (ci := 10) (v := .ref q_5) (ty := .array .int) (C := RX10) (T := TX10) (N := 11) hx hb hts fw_X10 tyX10 tyX10_ok nmX10 hown hK hP hD hS 0 rfl rfl 6 (by decide) (hts _ q_342) (fun _ h9 => h9) rfl hnm rfl (by decide +kernel) rfl rfl (Nat.le_of_ble_eq_true rfl) dX10_init_42 (fun H locs hP hD hS => ?_)
  have hP : va_P g.1 classes [(h0, .inr (10, [.ref q_1, .ref q_2, .int 0, .int 0, .ref q_3, .ref q_4, .ref q_5, .long 0, .int 0, .int 0, .int 0])), (q_1, .inl (cI g, 64, .inl (fun _ => 0))), (q_2, .inl (cI g, 64, .inl (fun _ => 0))), (q_3, .inl (cI g, 256, .inl (fun _ => 0))), (q_4, .inl (cI g, 64, .inl (fun _ => 0))), (q_5, .inl (cI g, 64, .inl (fun _ => 0)))] H := hP
  have hD : va_D A [(h0, .inr (10, [.ref q_1, .ref q_2, .int 0, .int 0, .ref q_3, .ref q_4, .ref q_5, .long 0, .int 0, .int 0, .int 0])), (q_1, .inl (cI g, 64, .inl (fun _ => 0))), (q_2, .inl (cI g, 64, .inl (fun _ => 0))), (q_3, .inl (cI g, 256, .inl (fun _ => 0))), (q_4, .inl (cI g, 64, .inl (fun _ => 0))), (q_5, .inl (cI g, 64, .inl (fun _ => 0)))] := hD
  exact rV X hK hP hD hS dX10_init_45 (Nat.le_of_ble_eq_true rfl) (Nat.le_of_ble_eq_true rfl) ⟨q_1, q_2, q_3, q_4, q_5, rfl⟩
set_option maxHeartbeats 4000000 in
set_option maxRecDepth 100000 in
theorem c_X6_init (l : Launch) (g : GG) (h0 : Nat) : MV l g yX6_init cX6_init 1 1 12 6 1492 [(h0, .inr (6, [.int 0, .int 0, .null, .null, .null, .null, .null, .null, .int 0]))] [.ref h0] (fun ww_ => ∃ (q_1 : Nat) (q_2 : Nat) (q_3 : Nat) (q_4 : Nat) (q_5 : Nat) (q_6 : Nat), ww_ = [(h0, .inr (6, [.int 0, .int 0, .ref q_1, .ref q_2, .ref q_3, .ref q_4, .ref q_5, .ref q_6, .int 0])), (q_1, .inl (cI g, 1320, .inl (fun _ => 0))), (q_2, .inl (cI g, 33, .inl (fun _ => 0))), (q_3, .inl (cI g, 33, .inl (fun _ => 0))), (q_4, .inl (cI g, 40, .inl (fun _ => 0))), (q_5, .inl (cI g, 33, .inl (fun _ => 0))), (q_6, .inl (cI g, 33, .inl (fun _ => 0)))]) := by
  refine met_of (fun A => va_Qv _ (bW g A) A) (by decide) (Nat.le_of_ble_eq_true rfl) ?_
  intro p e s m below meth c A ls X hK hP hD hA hZ hS hl
  have hx := X.1
  have hb := X.2.1
  have hml := X.2.2.1
  have hown := X.2.2.2.1
  have hts := X.2.2.2.2.1
  have hnm := X.2.2.2.2.2.2.2
  have hl : lv_has ls 1 [(0, .ref h0)] := hl
  refine lv_aload_n hx hb dX6_init_0 rfl (lv_at hl 0 rfl) ?_
  refine W.objInit hx hb hown (hts _ q_375) (hts _ q_112) (hts _ q_113) rfl (by rw [hml]; exact hl.1) rfl dX6_init_1 (Nat.le_of_ble_eq_true rfl) (Nat.le_of_ble_eq_true rfl) ?_
  refine W.eq (g2 := F0 m 4 ls []) rfl ?_
  refine lv_aload_n hx hb dX6_init_4 rfl (lv_at hl 0 rfl) ?_
  refine lv_sipush (v := 1320) hx hb dX6_init_5 (by decide) ?_
  refine va_newa (atype := .int) (ty := .int) (N' := 1320) (a0 := (1320, .inl (fun _ => 0))) hx hb (hts _ q_139) rfl hK hP hD hS hA (fun cA => rfl) (by decide) (by decide) (Nat.le_of_ble_eq_true rfl) (Nat.le_of_ble_eq_true rfl) (Nat.le_of_ble_eq_true rfl) dX6_init_8 (fun q_1 cA H hK1 hP hD hS => ?_)
  have e_q_1 := arrI hK1
  subst e_q_1
  have hP : va_P g.1 classes [(h0, .inr (6, [.int 0, .int 0, .null, .null, .null, .null, .null, .null, .int 0])), (q_1, .inl (cI g, 1320, .inl (fun _ => 0)))] H := hP
  have hD : va_D A [(h0, .inr (6, [.int 0, .int 0, .null, .null, .null, .null, .null, .null, .int 0])), (q_1, .inl (cI g, 1320, .inl (fun _ => 0)))] := hD
  refine va_putF (D := g.1) (ci := 6) (v := .ref q_1) (ty := .array .int) (C := RX6) (T := TX6) (N := 9) hx hb hts fw_X6 tyX6 tyX6_ok nmX6 hown hK hP hD hS 0 rfl rfl 2 (by decide) (hts _ q_380) (fun _ h9 => h9) rfl hnm rfl (by decide +kernel) rfl rfl (Nat.le_of_ble_eq_true rfl) dX6_init_10 (fun H locs hP hD hS => ?_)
  have hP : va_P g.1 classes [(h0, .inr (6, [.int 0, .int 0, .ref q_1, .null, .null, .null, .null, .null, .int 0])), (q_1, .inl (cI g, 1320, .inl (fun _ => 0)))] H := hP
  have hD : va_D A [(h0, .inr (6, [.int 0, .int 0, .ref q_1, .null, .null, .null, .null, .null, .int 0])), (q_1, .inl (cI g, 1320, .inl (fun _ => 0)))] := hD
  refine lv_aload_n hx hb dX6_init_13 rfl (lv_at hl 0 rfl) ?_
  refine lv_bipush (v := 33) hx hb dX6_init_14 (by decide) ?_
  refine va_newa (atype := .int) (ty := .int) (N' := 33) (a0 := (33, .inl (fun _ => 0))) hx hb (hts _ q_139) rfl hK hP hD hS hA (fun cA => rfl) (by decide) (by decide) (Nat.le_of_ble_eq_true rfl) (Nat.le_of_ble_eq_true rfl) (Nat.le_of_ble_eq_true rfl) dX6_init_16 (fun q_2 cA H hK1 hP hD hS => ?_)
  have e_q_2 := arrI hK1
  subst e_q_2
  have hP : va_P g.1 classes [(h0, .inr (6, [.int 0, .int 0, .ref q_1, .null, .null, .null, .null, .null, .int 0])), (q_1, .inl (cI g, 1320, .inl (fun _ => 0))), (q_2, .inl (cI g, 33, .inl (fun _ => 0)))] H := hP
  have hD : va_D A [(h0, .inr (6, [.int 0, .int 0, .ref q_1, .null, .null, .null, .null, .null, .int 0])), (q_1, .inl (cI g, 1320, .inl (fun _ => 0))), (q_2, .inl (cI g, 33, .inl (fun _ => 0)))] := hD
  refine va_putF (D := g.1) (ci := 6) (v := .ref q_2) (ty := .array .int) (C := RX6) (T := TX6) (N := 9) hx hb hts fw_X6 tyX6 tyX6_ok nmX6 hown hK hP hD hS 0 rfl rfl 3 (by decide) (hts _ q_381) (fun _ h9 => h9) rfl hnm rfl (by decide +kernel) rfl rfl (Nat.le_of_ble_eq_true rfl) dX6_init_18 (fun H locs hP hD hS => ?_)
  have hP : va_P g.1 classes [(h0, .inr (6, [.int 0, .int 0, .ref q_1, .ref q_2, .null, .null, .null, .null, .int 0])), (q_1, .inl (cI g, 1320, .inl (fun _ => 0))), (q_2, .inl (cI g, 33, .inl (fun _ => 0)))] H := hP
  have hD : va_D A [(h0, .inr (6, [.int 0, .int 0, .ref q_1, .ref q_2, .null, .null, .null, .null, .int 0])), (q_1, .inl (cI g, 1320, .inl (fun _ => 0))), (q_2, .inl (cI g, 33, .inl (fun _ => 0)))] := hD
  refine lv_aload_n hx hb dX6_init_21 rfl (lv_at hl 0 rfl) ?_
  refine lv_bipush (v := 33) hx hb dX6_init_22 (by decide) ?_
  refine va_newa (atype := .int) (ty := .int) (N' := 33) (a0 := (33, .inl (fun _ => 0))) hx hb (hts _ q_139) rfl hK hP hD hS hA (fun cA => rfl) (by decide) (by decide) (Nat.le_of_ble_eq_true rfl) (Nat.le_of_ble_eq_true rfl) (Nat.le_of_ble_eq_true rfl) dX6_init_24 (fun q_3 cA H hK1 hP hD hS => ?_)
  have e_q_3 := arrI hK1
  subst e_q_3
  have hP : va_P g.1 classes [(h0, .inr (6, [.int 0, .int 0, .ref q_1, .ref q_2, .null, .null, .null, .null, .int 0])), (q_1, .inl (cI g, 1320, .inl (fun _ => 0))), (q_2, .inl (cI g, 33, .inl (fun _ => 0))), (q_3, .inl (cI g, 33, .inl (fun _ => 0)))] H := hP
  have hD : va_D A [(h0, .inr (6, [.int 0, .int 0, .ref q_1, .ref q_2, .null, .null, .null, .null, .int 0])), (q_1, .inl (cI g, 1320, .inl (fun _ => 0))), (q_2, .inl (cI g, 33, .inl (fun _ => 0))), (q_3, .inl (cI g, 33, .inl (fun _ => 0)))] := hD
  refine va_putF (D := g.1) (ci := 6) (v := .ref q_3) (ty := .array .int) (C := RX6) (T := TX6) (N := 9) hx hb hts fw_X6 tyX6 tyX6_ok nmX6 hown hK hP hD hS 0 rfl rfl 4 (by decide) (hts _ q_382) (fun _ h9 => h9) rfl hnm rfl (by decide +kernel) rfl rfl (Nat.le_of_ble_eq_true rfl) dX6_init_26 (fun H locs hP hD hS => ?_)
  have hP : va_P g.1 classes [(h0, .inr (6, [.int 0, .int 0, .ref q_1, .ref q_2, .ref q_3, .null, .null, .null, .int 0])), (q_1, .inl (cI g, 1320, .inl (fun _ => 0))), (q_2, .inl (cI g, 33, .inl (fun _ => 0))), (q_3, .inl (cI g, 33, .inl (fun _ => 0)))] H := hP
  have hD : va_D A [(h0, .inr (6, [.int 0, .int 0, .ref q_1, .ref q_2, .ref q_3, .null, .null, .null, .int 0])), (q_1, .inl (cI g, 1320, .inl (fun _ => 0))), (q_2, .inl (cI g, 33, .inl (fun _ => 0))), (q_3, .inl (cI g, 33, .inl (fun _ => 0)))] := hD
  refine lv_aload_n hx hb dX6_init_29 rfl (lv_at hl 0 rfl) ?_
  refine lv_bipush (v := 40) hx hb dX6_init_30 (by decide) ?_
  refine va_newa (atype := .int) (ty := .int) (N' := 40) (a0 := (40, .inl (fun _ => 0))) hx hb (hts _ q_139) rfl hK hP hD hS hA (fun cA => rfl) (by decide) (by decide) (Nat.le_of_ble_eq_true rfl) (Nat.le_of_ble_eq_true rfl) (Nat.le_of_ble_eq_true rfl) dX6_init_32 (fun q_4 cA H hK1 hP hD hS => ?_)
  have e_q_4 := arrI hK1
  subst e_q_4
  have hP : va_P g.1 classes [(h0, .inr (6, [.int 0, .int 0, .ref q_1, .ref q_2, .ref q_3, .null, .null, .null, .int 0])), (q_1, .inl (cI g, 1320, .inl (fun _ => 0))), (q_2, .inl (cI g, 33, .inl (fun _ => 0))), (q_3, .inl (cI g, 33, .inl (fun _ => 0))), (q_4, .inl (cI g, 40, .inl (fun _ => 0)))] H := hP
  have hD : va_D A [(h0, .inr (6, [.int 0, .int 0, .ref q_1, .ref q_2, .ref q_3, .null, .null, .null, .int 0])), (q_1, .inl (cI g, 1320, .inl (fun _ => 0))), (q_2, .inl (cI g, 33, .inl (fun _ => 0))), (q_3, .inl (cI g, 33, .inl (fun _ => 0))), (q_4, .inl (cI g, 40, .inl (fun _ => 0)))] := hD
  refine va_putF (D := g.1) (ci := 6) (v := .ref q_4) (ty := .array .int) (C := RX6) (T := TX6) (N := 9) hx hb hts fw_X6 tyX6 tyX6_ok nmX6 hown hK hP hD hS 0 rfl rfl 5 (by decide) (hts _ q_383) (fun _ h9 => h9) rfl hnm rfl (by decide +kernel) rfl rfl (Nat.le_of_ble_eq_true rfl) dX6_init_34 (fun H locs hP hD hS => ?_)
  have hP : va_P g.1 classes [(h0, .inr (6, [.int 0, .int 0, .ref q_1, .ref q_2, .ref q_3, .ref q_4, .null, .null, .int 0])), (q_1, .inl (cI g, 1320, .inl (fun _ => 0))), (q_2, .inl (cI g, 33, .inl (fun _ => 0))), (q_3, .inl (cI g, 33, .inl (fun _ => 0))), (q_4, .inl (cI g, 40, .inl (fun _ => 0)))] H := hP
  have hD : va_D A [(h0, .inr (6, [.int 0, .int 0, .ref q_1, .ref q_2, .ref q_3, .ref q_4, .null, .null, .int 0])), (q_1, .inl (cI g, 1320, .inl (fun _ => 0))), (q_2, .inl (cI g, 33, .inl (fun _ => 0))), (q_3, .inl (cI g, 33, .inl (fun _ => 0))), (q_4, .inl (cI g, 40, .inl (fun _ => 0)))] := hD
  refine lv_aload_n hx hb dX6_init_37 rfl (lv_at hl 0 rfl) ?_
  refine lv_bipush (v := 33) hx hb dX6_init_38 (by decide) ?_
  refine va_newa (atype := .int) (ty := .int) (N' := 33) (a0 := (33, .inl (fun _ => 0))) hx hb (hts _ q_139) rfl hK hP hD hS hA (fun cA => rfl) (by decide) (by decide) (Nat.le_of_ble_eq_true rfl) (Nat.le_of_ble_eq_true rfl) (Nat.le_of_ble_eq_true rfl) dX6_init_40 (fun q_5 cA H hK1 hP hD hS => ?_)
  have e_q_5 := arrI hK1
  subst e_q_5
  have hP : va_P g.1 classes [(h0, .inr (6, [.int 0, .int 0, .ref q_1, .ref q_2, .ref q_3, .ref q_4, .null, .null, .int 0])), (q_1, .inl (cI g, 1320, .inl (fun _ => 0))), (q_2, .inl (cI g, 33, .inl (fun _ => 0))), (q_3, .inl (cI g, 33, .inl (fun _ => 0))), (q_4, .inl (cI g, 40, .inl (fun _ => 0))), (q_5, .inl (cI g, 33, .inl (fun _ => 0)))] H := hP
  have hD : va_D A [(h0, .inr (6, [.int 0, .int 0, .ref q_1, .ref q_2, .ref q_3, .ref q_4, .null, .null, .int 0])), (q_1, .inl (cI g, 1320, .inl (fun _ => 0))), (q_2, .inl (cI g, 33, .inl (fun _ => 0))), (q_3, .inl (cI g, 33, .inl (fun _ => 0))), (q_4, .inl (cI g, 40, .inl (fun _ => 0))), (q_5, .inl (cI g, 33, .inl (fun _ => 0)))] := hD
  refine va_putF (D := g.1) (ci := 6) (v := .ref q_5) (ty := .array .int) (C := RX6) (T := TX6) (N := 9) hx hb hts fw_X6 tyX6 tyX6_ok nmX6 hown hK hP hD hS 0 rfl rfl 6 (by decide) (hts _ q_384) (fun _ h9 => h9) rfl hnm rfl (by decide +kernel) rfl rfl (Nat.le_of_ble_eq_true rfl) dX6_init_42 (fun H locs hP hD hS => ?_)
  have hP : va_P g.1 classes [(h0, .inr (6, [.int 0, .int 0, .ref q_1, .ref q_2, .ref q_3, .ref q_4, .ref q_5, .null, .int 0])), (q_1, .inl (cI g, 1320, .inl (fun _ => 0))), (q_2, .inl (cI g, 33, .inl (fun _ => 0))), (q_3, .inl (cI g, 33, .inl (fun _ => 0))), (q_4, .inl (cI g, 40, .inl (fun _ => 0))), (q_5, .inl (cI g, 33, .inl (fun _ => 0)))] H := hP
  have hD : va_D A [(h0, .inr (6, [.int 0, .int 0, .ref q_1, .ref q_2, .ref q_3, .ref q_4, .ref q_5, .null, .int 0])), (q_1, .inl (cI g, 1320, .inl (fun _ => 0))), (q_2, .inl (cI g, 33, .inl (fun _ => 0))), (q_3, .inl (cI g, 33, .inl (fun _ => 0))), (q_4, .inl (cI g, 40, .inl (fun _ => 0))), (q_5, .inl (cI g, 33, .inl (fun _ => 0)))] := hD
  refine lv_aload_n hx hb dX6_init_45 rfl (lv_at hl 0 rfl) ?_
  refine lv_bipush (v := 33) hx hb dX6_init_46 (by decide) ?_
  refine va_newa (atype := .int) (ty := .int) (N' := 33) (a0 := (33, .inl (fun _ => 0))) hx hb (hts _ q_139) rfl hK hP hD hS hA (fun cA => rfl) (by decide) (by decide) (Nat.le_of_ble_eq_true rfl) (Nat.le_of_ble_eq_true rfl) (Nat.le_of_ble_eq_true rfl) dX6_init_48 (fun q_6 cA H hK1 hP hD hS => ?_)
  have e_q_6 := arrI hK1
  subst e_q_6
  have hP : va_P g.1 classes [(h0, .inr (6, [.int 0, .int 0, .ref q_1, .ref q_2, .ref q_3, .ref q_4, .ref q_5, .null, .int 0])), (q_1, .inl (cI g, 1320, .inl (fun _ => 0))), (q_2, .inl (cI g, 33, .inl (fun _ => 0))), (q_3, .inl (cI g, 33, .inl (fun _ => 0))), (q_4, .inl (cI g, 40, .inl (fun _ => 0))), (q_5, .inl (cI g, 33, .inl (fun _ => 0))), (q_6, .inl (cI g, 33, .inl (fun _ => 0)))] H := hP
  have hD : va_D A [(h0, .inr (6, [.int 0, .int 0, .ref q_1, .ref q_2, .ref q_3, .ref q_4, .ref q_5, .null, .int 0])), (q_1, .inl (cI g, 1320, .inl (fun _ => 0))), (q_2, .inl (cI g, 33, .inl (fun _ => 0))), (q_3, .inl (cI g, 33, .inl (fun _ => 0))), (q_4, .inl (cI g, 40, .inl (fun _ => 0))), (q_5, .inl (cI g, 33, .inl (fun _ => 0))), (q_6, .inl (cI g, 33, .inl (fun _ => 0)))] := hD
  refine va_putF (D := g.1) (ci := 6) (v := .ref q_6) (ty := .array .int) (C := RX6) (T := TX6) (N := 9) hx hb hts fw_X6 tyX6 tyX6_ok nmX6 hown hK hP hD hS 0 rfl rfl 7 (by decide) (hts _ q_385) (fun _ h9 => h9) rfl hnm rfl (by decide +kernel) rfl rfl (Nat.le_of_ble_eq_true rfl) dX6_init_50 (fun H locs hP hD hS => ?_)
  have hP : va_P g.1 classes [(h0, .inr (6, [.int 0, .int 0, .ref q_1, .ref q_2, .ref q_3, .ref q_4, .ref q_5, .ref q_6, .int 0])), (q_1, .inl (cI g, 1320, .inl (fun _ => 0))), (q_2, .inl (cI g, 33, .inl (fun _ => 0))), (q_3, .inl (cI g, 33, .inl (fun _ => 0))), (q_4, .inl (cI g, 40, .inl (fun _ => 0))), (q_5, .inl (cI g, 33, .inl (fun _ => 0))), (q_6, .inl (cI g, 33, .inl (fun _ => 0)))] H := hP
  have hD : va_D A [(h0, .inr (6, [.int 0, .int 0, .ref q_1, .ref q_2, .ref q_3, .ref q_4, .ref q_5, .ref q_6, .int 0])), (q_1, .inl (cI g, 1320, .inl (fun _ => 0))), (q_2, .inl (cI g, 33, .inl (fun _ => 0))), (q_3, .inl (cI g, 33, .inl (fun _ => 0))), (q_4, .inl (cI g, 40, .inl (fun _ => 0))), (q_5, .inl (cI g, 33, .inl (fun _ => 0))), (q_6, .inl (cI g, 33, .inl (fun _ => 0)))] := hD
  exact rV X hK hP hD hS dX6_init_53 (Nat.le_of_ble_eq_true rfl) (Nat.le_of_ble_eq_true rfl) ⟨q_1, q_2, q_3, q_4, q_5, q_6, rfl⟩
set_option maxHeartbeats 4000000 in
set_option maxRecDepth 100000 in
theorem c_X0_init (l : Launch) (g : GG) (h0 : Nat) : MV l g yX0_init cX0_init 1 1 12 4 52 [(h0, .inr (0, [.int 0, .int 0, .null, .null, .null, .null]))] [.ref h0] (fun ww_ => ∃ (q_1 : Nat) (q_2 : Nat) (q_3 : Nat) (q_4 : Nat), ww_ = [(h0, .inr (0, [.int 0, .int 0, .ref q_1, .ref q_2, .ref q_3, .ref q_4])), (q_1, .inl (cI g, 13, .inl (fun _ => 0))), (q_2, .inl (cI g, 13, .inl (fun _ => 0))), (q_3, .inl (cI g, 13, .inl (fun _ => 0))), (q_4, .inl (cI g, 13, .inl (fun _ => 0)))]) := by
  refine met_of (fun A => va_Qv _ (bW g A) A) (by decide) (Nat.le_of_ble_eq_true rfl) ?_
  intro p e s m below meth c A ls X hK hP hD hA hZ hS hl
  have hx := X.1
  have hb := X.2.1
  have hml := X.2.2.1
  have hown := X.2.2.2.1
  have hts := X.2.2.2.2.1
  have hnm := X.2.2.2.2.2.2.2
  have hl : lv_has ls 1 [(0, .ref h0)] := hl
  refine lv_aload_n hx hb dX0_init_0 rfl (lv_at hl 0 rfl) ?_
  refine W.objInit hx hb hown (hts _ q_411) (hts _ q_112) (hts _ q_113) rfl (by rw [hml]; exact hl.1) rfl dX0_init_1 (Nat.le_of_ble_eq_true rfl) (Nat.le_of_ble_eq_true rfl) ?_
  refine W.eq (g2 := F0 m 4 ls []) rfl ?_
  refine lv_aload_n hx hb dX0_init_4 rfl (lv_at hl 0 rfl) ?_
  refine lv_bipush (v := 13) hx hb dX0_init_5 (by decide) ?_
  refine va_newa (atype := .int) (ty := .int) (N' := 13) (a0 := (13, .inl (fun _ => 0))) hx hb (hts _ q_139) rfl hK hP hD hS hA (fun cA => rfl) (by decide) (by decide) (Nat.le_of_ble_eq_true rfl) (Nat.le_of_ble_eq_true rfl) (Nat.le_of_ble_eq_true rfl) dX0_init_7 (fun q_1 cA H hK1 hP hD hS => ?_)
  have e_q_1 := arrI hK1
  subst e_q_1
  have hP : va_P g.1 classes [(h0, .inr (0, [.int 0, .int 0, .null, .null, .null, .null])), (q_1, .inl (cI g, 13, .inl (fun _ => 0)))] H := hP
  have hD : va_D A [(h0, .inr (0, [.int 0, .int 0, .null, .null, .null, .null])), (q_1, .inl (cI g, 13, .inl (fun _ => 0)))] := hD
  refine va_putF (D := g.1) (ci := 0) (v := .ref q_1) (ty := .array .int) (C := RX0) (T := TX0) (N := 6) hx hb hts fw_X0 tyX0 tyX0_ok nmX0 hown hK hP hD hS 0 rfl rfl 2 (by decide) (hts _ q_416) (fun _ h9 => h9) rfl hnm rfl (by decide +kernel) rfl rfl (Nat.le_of_ble_eq_true rfl) dX0_init_9 (fun H locs hP hD hS => ?_)
  have hP : va_P g.1 classes [(h0, .inr (0, [.int 0, .int 0, .ref q_1, .null, .null, .null])), (q_1, .inl (cI g, 13, .inl (fun _ => 0)))] H := hP
  have hD : va_D A [(h0, .inr (0, [.int 0, .int 0, .ref q_1, .null, .null, .null])), (q_1, .inl (cI g, 13, .inl (fun _ => 0)))] := hD
  refine lv_aload_n hx hb dX0_init_12 rfl (lv_at hl 0 rfl) ?_
  refine lv_bipush (v := 13) hx hb dX0_init_13 (by decide) ?_
  refine va_newa (atype := .int) (ty := .int) (N' := 13) (a0 := (13, .inl (fun _ => 0))) hx hb (hts _ q_139) rfl hK hP hD hS hA (fun cA => rfl) (by decide) (by decide) (Nat.le_of_ble_eq_true rfl) (Nat.le_of_ble_eq_true rfl) (Nat.le_of_ble_eq_true rfl) dX0_init_15 (fun q_2 cA H hK1 hP hD hS => ?_)
  have e_q_2 := arrI hK1
  subst e_q_2
  have hP : va_P g.1 classes [(h0, .inr (0, [.int 0, .int 0, .ref q_1, .null, .null, .null])), (q_1, .inl (cI g, 13, .inl (fun _ => 0))), (q_2, .inl (cI g, 13, .inl (fun _ => 0)))] H := hP
  have hD : va_D A [(h0, .inr (0, [.int 0, .int 0, .ref q_1, .null, .null, .null])), (q_1, .inl (cI g, 13, .inl (fun _ => 0))), (q_2, .inl (cI g, 13, .inl (fun _ => 0)))] := hD
  refine va_putF (D := g.1) (ci := 0) (v := .ref q_2) (ty := .array .int) (C := RX0) (T := TX0) (N := 6) hx hb hts fw_X0 tyX0 tyX0_ok nmX0 hown hK hP hD hS 0 rfl rfl 3 (by decide) (hts _ q_417) (fun _ h9 => h9) rfl hnm rfl (by decide +kernel) rfl rfl (Nat.le_of_ble_eq_true rfl) dX0_init_17 (fun H locs hP hD hS => ?_)
  have hP : va_P g.1 classes [(h0, .inr (0, [.int 0, .int 0, .ref q_1, .ref q_2, .null, .null])), (q_1, .inl (cI g, 13, .inl (fun _ => 0))), (q_2, .inl (cI g, 13, .inl (fun _ => 0)))] H := hP
  have hD : va_D A [(h0, .inr (0, [.int 0, .int 0, .ref q_1, .ref q_2, .null, .null])), (q_1, .inl (cI g, 13, .inl (fun _ => 0))), (q_2, .inl (cI g, 13, .inl (fun _ => 0)))] := hD
  refine lv_aload_n hx hb dX0_init_20 rfl (lv_at hl 0 rfl) ?_
  refine lv_bipush (v := 13) hx hb dX0_init_21 (by decide) ?_
  refine va_newa (atype := .int) (ty := .int) (N' := 13) (a0 := (13, .inl (fun _ => 0))) hx hb (hts _ q_139) rfl hK hP hD hS hA (fun cA => rfl) (by decide) (by decide) (Nat.le_of_ble_eq_true rfl) (Nat.le_of_ble_eq_true rfl) (Nat.le_of_ble_eq_true rfl) dX0_init_23 (fun q_3 cA H hK1 hP hD hS => ?_)
  have e_q_3 := arrI hK1
  subst e_q_3
  have hP : va_P g.1 classes [(h0, .inr (0, [.int 0, .int 0, .ref q_1, .ref q_2, .null, .null])), (q_1, .inl (cI g, 13, .inl (fun _ => 0))), (q_2, .inl (cI g, 13, .inl (fun _ => 0))), (q_3, .inl (cI g, 13, .inl (fun _ => 0)))] H := hP
  have hD : va_D A [(h0, .inr (0, [.int 0, .int 0, .ref q_1, .ref q_2, .null, .null])), (q_1, .inl (cI g, 13, .inl (fun _ => 0))), (q_2, .inl (cI g, 13, .inl (fun _ => 0))), (q_3, .inl (cI g, 13, .inl (fun _ => 0)))] := hD
  refine va_putF (D := g.1) (ci := 0) (v := .ref q_3) (ty := .array .int) (C := RX0) (T := TX0) (N := 6) hx hb hts fw_X0 tyX0 tyX0_ok nmX0 hown hK hP hD hS 0 rfl rfl 4 (by decide) (hts _ q_418) (fun _ h9 => h9) rfl hnm rfl (by decide +kernel) rfl rfl (Nat.le_of_ble_eq_true rfl) dX0_init_25 (fun H locs hP hD hS => ?_)
  have hP : va_P g.1 classes [(h0, .inr (0, [.int 0, .int 0, .ref q_1, .ref q_2, .ref q_3, .null])), (q_1, .inl (cI g, 13, .inl (fun _ => 0))), (q_2, .inl (cI g, 13, .inl (fun _ => 0))), (q_3, .inl (cI g, 13, .inl (fun _ => 0)))] H := hP
  have hD : va_D A [(h0, .inr (0, [.int 0, .int 0, .ref q_1, .ref q_2, .ref q_3, .null])), (q_1, .inl (cI g, 13, .inl (fun _ => 0))), (q_2, .inl (cI g, 13, .inl (fun _ => 0))), (q_3, .inl (cI g, 13, .inl (fun _ => 0)))] := hD
  refine lv_aload_n hx hb dX0_init_28 rfl (lv_at hl 0 rfl) ?_
  refine lv_bipush (v := 13) hx hb dX0_init_29 (by decide) ?_
  refine va_newa (atype := .int) (ty := .int) (N' := 13) (a0 := (13, .inl (fun _ => 0))) hx hb (hts _ q_139) rfl hK hP hD hS hA (fun cA => rfl) (by decide) (by decide) (Nat.le_of_ble_eq_true rfl) (Nat.le_of_ble_eq_true rfl) (Nat.le_of_ble_eq_true rfl) dX0_init_31 (fun q_4 cA H hK1 hP hD hS => ?_)
  have e_q_4 := arrI hK1
  subst e_q_4
  have hP : va_P g.1 classes [(h0, .inr (0, [.int 0, .int 0, .ref q_1, .ref q_2, .ref q_3, .null])), (q_1, .inl (cI g, 13, .inl (fun _ => 0))), (q_2, .inl (cI g, 13, .inl (fun _ => 0))), (q_3, .inl (cI g, 13, .inl (fun _ => 0))), (q_4, .inl (cI g, 13, .inl (fun _ => 0)))] H := hP
  have hD : va_D A [(h0, .inr (0, [.int 0, .int 0, .ref q_1, .ref q_2, .ref q_3, .null])), (q_1, .inl (cI g, 13, .inl (fun _ => 0))), (q_2, .inl (cI g, 13, .inl (fun _ => 0))), (q_3, .inl (cI g, 13, .inl (fun _ => 0))), (q_4, .inl (cI g, 13, .inl (fun _ => 0)))] := hD
  refine va_putF (D := g.1) (ci := 0) (v := .ref q_4) (ty := .array .int) (C := RX0) (T := TX0) (N := 6) hx hb hts fw_X0 tyX0 tyX0_ok nmX0 hown hK hP hD hS 0 rfl rfl 5 (by decide) (hts _ q_419) (fun _ h9 => h9) rfl hnm rfl (by decide +kernel) rfl rfl (Nat.le_of_ble_eq_true rfl) dX0_init_33 (fun H locs hP hD hS => ?_)
  have hP : va_P g.1 classes [(h0, .inr (0, [.int 0, .int 0, .ref q_1, .ref q_2, .ref q_3, .ref q_4])), (q_1, .inl (cI g, 13, .inl (fun _ => 0))), (q_2, .inl (cI g, 13, .inl (fun _ => 0))), (q_3, .inl (cI g, 13, .inl (fun _ => 0))), (q_4, .inl (cI g, 13, .inl (fun _ => 0)))] H := hP
  have hD : va_D A [(h0, .inr (0, [.int 0, .int 0, .ref q_1, .ref q_2, .ref q_3, .ref q_4])), (q_1, .inl (cI g, 13, .inl (fun _ => 0))), (q_2, .inl (cI g, 13, .inl (fun _ => 0))), (q_3, .inl (cI g, 13, .inl (fun _ => 0))), (q_4, .inl (cI g, 13, .inl (fun _ => 0)))] := hD
  exact rV X hK hP hD hS dX0_init_36 (Nat.le_of_ble_eq_true rfl) (Nat.le_of_ble_eq_true rfl) ⟨q_1, q_2, q_3, q_4, rfl⟩
set_option maxHeartbeats 4000000 in
set_option maxRecDepth 100000 in
theorem c_X9_init (l : Launch) (g : GG) (h0 : Nat) : MV l g yX9_init cX9_init 1 1 12 5 580 [(h0, .inr (9, [.null, .null, .null, .null, .null, .int 0]))] [.ref h0] (fun ww_ => ∃ (q_1 : Nat) (q_2 : Nat) (q_3 : Nat) (q_4 : Nat) (q_5 : Nat), ww_ = [(h0, .inr (9, [.ref q_1, .ref q_2, .ref q_3, .ref q_4, .ref q_5, .int 0])), (q_1, .inl (cJ g, 4, .inr (.inl (fun _ => 0)))), (q_2, .inl (cI g, 128, .inl (fun _ => 0))), (q_3, .inl (cI g, 128, .inl (fun _ => 0))), (q_4, .inl (cI g, 64, .inl (fun _ => 0))), (q_5, .inl (cI g, 256, .inl (fun _ => 0)))]) := by
  refine met_of (fun A => va_Qv _ (bW g A) A) (by decide) (Nat.le_of_ble_eq_true rfl) ?_
  intro p e s m below meth c A ls X hK hP hD hA hZ hS hl
  have hx := X.1
  have hb := X.2.1
  have hml := X.2.2.1
  have hown := X.2.2.2.1
  have hts := X.2.2.2.2.1
  have hnm := X.2.2.2.2.2.2.2
  have hl : lv_has ls 1 [(0, .ref h0)] := hl
  refine lv_aload_n hx hb dX9_init_0 rfl (lv_at hl 0 rfl) ?_
  refine W.objInit hx hb hown (hts _ q_438) (hts _ q_112) (hts _ q_113) rfl (by rw [hml]; exact hl.1) rfl dX9_init_1 (Nat.le_of_ble_eq_true rfl) (Nat.le_of_ble_eq_true rfl) ?_
  refine W.eq (g2 := F0 m 4 ls []) rfl ?_
  refine lv_aload_n hx hb dX9_init_4 rfl (lv_at hl 0 rfl) ?_
  refine lv_iconst (v := 4) hx hb dX9_init_5 (by decide) ?_
  refine va_newa (atype := .long) (ty := .long) (N' := 4) (a0 := (4, .inr (.inl (fun _ => 0)))) hx hb (hts _ q_294) rfl hK hP hD hS hA (fun cA => rfl) (by decide) (by decide) (Nat.le_of_ble_eq_true rfl) (Nat.le_of_ble_eq_true rfl) (Nat.le_of_ble_eq_true rfl) dX9_init_6 (fun q_1 cA H hK1 hP hD hS => ?_)
  have e_q_1 := arrJ hK1
  subst e_q_1
  have hP : va_P g.1 classes [(h0, .inr (9, [.null, .null, .null, .null, .null, .int 0])), (q_1, .inl (cJ g, 4, .inr (.inl (fun _ => 0))))] H := hP
  have hD : va_D A [(h0, .inr (9, [.null, .null, .null, .null, .null, .int 0])), (q_1, .inl (cJ g, 4, .inr (.inl (fun _ => 0))))] := hD
  refine va_putF (D := g.1) (ci := 9) (v := .ref q_1) (ty := .array .long) (C := RX9) (T := TX9) (N := 6) hx hb hts fw_X9 tyX9 tyX9_ok nmX9 hown hK hP hD hS 0 rfl rfl 0 (by decide) (hts _ q_439) (fun _ h9 => h9) rfl hnm rfl (by decide +kernel) rfl rfl (Nat.le_of_ble_eq_true rfl) dX9_init_8 (fun H locs hP hD hS => ?_)
  have hP : va_P g.1 classes [(h0, .inr (9, [.ref q_1, .null, .null, .null, .null, .int 0])), (q_1, .inl (cJ g, 4, .inr (.inl (fun _ => 0))))] H := hP
  have hD : va_D A [(h0, .inr (9, [.ref q_1, .null, .null, .null, .null, .int 0])), (q_1, .inl (cJ g, 4, .inr (.inl (fun _ => 0))))] := hD
  refine lv_aload_n hx hb dX9_init_11 rfl (lv_at hl 0 rfl) ?_
  refine lv_sipush (v := 128) hx hb dX9_init_12 (by decide) ?_
  refine va_newa (atype := .int) (ty := .int) (N' := 128) (a0 := (128, .inl (fun _ => 0))) hx hb (hts _ q_139) rfl hK hP hD hS hA (fun cA => rfl) (by decide) (by decide) (Nat.le_of_ble_eq_true rfl) (Nat.le_of_ble_eq_true rfl) (Nat.le_of_ble_eq_true rfl) dX9_init_15 (fun q_2 cA H hK1 hP hD hS => ?_)
  have e_q_2 := arrI hK1
  subst e_q_2
  have hP : va_P g.1 classes [(h0, .inr (9, [.ref q_1, .null, .null, .null, .null, .int 0])), (q_1, .inl (cJ g, 4, .inr (.inl (fun _ => 0)))), (q_2, .inl (cI g, 128, .inl (fun _ => 0)))] H := hP
  have hD : va_D A [(h0, .inr (9, [.ref q_1, .null, .null, .null, .null, .int 0])), (q_1, .inl (cJ g, 4, .inr (.inl (fun _ => 0)))), (q_2, .inl (cI g, 128, .inl (fun _ => 0)))] := hD
  refine va_putF (D := g.1) (ci := 9) (v := .ref q_2) (ty := .array .int) (C := RX9) (T := TX9) (N := 6) hx hb hts fw_X9 tyX9 tyX9_ok nmX9 hown hK hP hD hS 0 rfl rfl 1 (by decide) (hts _ q_440) (fun _ h9 => h9) rfl hnm rfl (by decide +kernel) rfl rfl (Nat.le_of_ble_eq_true rfl) dX9_init_17 (fun H locs hP hD hS => ?_)
  have hP : va_P g.1 classes [(h0, .inr (9, [.ref q_1, .ref q_2, .null, .null, .null, .int 0])), (q_1, .inl (cJ g, 4, .inr (.inl (fun _ => 0)))), (q_2, .inl (cI g, 128, .inl (fun _ => 0)))] H := hP
  have hD : va_D A [(h0, .inr (9, [.ref q_1, .ref q_2, .null, .null, .null, .int 0])), (q_1, .inl (cJ g, 4, .inr (.inl (fun _ => 0)))), (q_2, .inl (cI g, 128, .inl (fun _ => 0)))] := hD
  refine lv_aload_n hx hb dX9_init_20 rfl (lv_at hl 0 rfl) ?_
  refine lv_sipush (v := 128) hx hb dX9_init_21 (by decide) ?_
  refine va_newa (atype := .int) (ty := .int) (N' := 128) (a0 := (128, .inl (fun _ => 0))) hx hb (hts _ q_139) rfl hK hP hD hS hA (fun cA => rfl) (by decide) (by decide) (Nat.le_of_ble_eq_true rfl) (Nat.le_of_ble_eq_true rfl) (Nat.le_of_ble_eq_true rfl) dX9_init_24 (fun q_3 cA H hK1 hP hD hS => ?_)
  have e_q_3 := arrI hK1
  subst e_q_3
  have hP : va_P g.1 classes [(h0, .inr (9, [.ref q_1, .ref q_2, .null, .null, .null, .int 0])), (q_1, .inl (cJ g, 4, .inr (.inl (fun _ => 0)))), (q_2, .inl (cI g, 128, .inl (fun _ => 0))), (q_3, .inl (cI g, 128, .inl (fun _ => 0)))] H := hP
  have hD : va_D A [(h0, .inr (9, [.ref q_1, .ref q_2, .null, .null, .null, .int 0])), (q_1, .inl (cJ g, 4, .inr (.inl (fun _ => 0)))), (q_2, .inl (cI g, 128, .inl (fun _ => 0))), (q_3, .inl (cI g, 128, .inl (fun _ => 0)))] := hD
  refine va_putF (D := g.1) (ci := 9) (v := .ref q_3) (ty := .array .int) (C := RX9) (T := TX9) (N := 6) hx hb hts fw_X9 tyX9 tyX9_ok nmX9 hown hK hP hD hS 0 rfl rfl 2 (by decide) (hts _ q_441) (fun _ h9 => h9) rfl hnm rfl (by decide +kernel) rfl rfl (Nat.le_of_ble_eq_true rfl) dX9_init_26 (fun H locs hP hD hS => ?_)
  have hP : va_P g.1 classes [(h0, .inr (9, [.ref q_1, .ref q_2, .ref q_3, .null, .null, .int 0])), (q_1, .inl (cJ g, 4, .inr (.inl (fun _ => 0)))), (q_2, .inl (cI g, 128, .inl (fun _ => 0))), (q_3, .inl (cI g, 128, .inl (fun _ => 0)))] H := hP
  have hD : va_D A [(h0, .inr (9, [.ref q_1, .ref q_2, .ref q_3, .null, .null, .int 0])), (q_1, .inl (cJ g, 4, .inr (.inl (fun _ => 0)))), (q_2, .inl (cI g, 128, .inl (fun _ => 0))), (q_3, .inl (cI g, 128, .inl (fun _ => 0)))] := hD
  refine lv_aload_n hx hb dX9_init_29 rfl (lv_at hl 0 rfl) ?_
  refine lv_bipush (v := 64) hx hb dX9_init_30 (by decide) ?_
  refine va_newa (atype := .int) (ty := .int) (N' := 64) (a0 := (64, .inl (fun _ => 0))) hx hb (hts _ q_139) rfl hK hP hD hS hA (fun cA => rfl) (by decide) (by decide) (Nat.le_of_ble_eq_true rfl) (Nat.le_of_ble_eq_true rfl) (Nat.le_of_ble_eq_true rfl) dX9_init_32 (fun q_4 cA H hK1 hP hD hS => ?_)
  have e_q_4 := arrI hK1
  subst e_q_4
  have hP : va_P g.1 classes [(h0, .inr (9, [.ref q_1, .ref q_2, .ref q_3, .null, .null, .int 0])), (q_1, .inl (cJ g, 4, .inr (.inl (fun _ => 0)))), (q_2, .inl (cI g, 128, .inl (fun _ => 0))), (q_3, .inl (cI g, 128, .inl (fun _ => 0))), (q_4, .inl (cI g, 64, .inl (fun _ => 0)))] H := hP
  have hD : va_D A [(h0, .inr (9, [.ref q_1, .ref q_2, .ref q_3, .null, .null, .int 0])), (q_1, .inl (cJ g, 4, .inr (.inl (fun _ => 0)))), (q_2, .inl (cI g, 128, .inl (fun _ => 0))), (q_3, .inl (cI g, 128, .inl (fun _ => 0))), (q_4, .inl (cI g, 64, .inl (fun _ => 0)))] := hD
  refine va_putF (D := g.1) (ci := 9) (v := .ref q_4) (ty := .array .int) (C := RX9) (T := TX9) (N := 6) hx hb hts fw_X9 tyX9 tyX9_ok nmX9 hown hK hP hD hS 0 rfl rfl 3 (by decide) (hts _ q_442) (fun _ h9 => h9) rfl hnm rfl (by decide +kernel) rfl rfl (Nat.le_of_ble_eq_true rfl) dX9_init_34 (fun H locs hP hD hS => ?_)
  have hP : va_P g.1 classes [(h0, .inr (9, [.ref q_1, .ref q_2, .ref q_3, .ref q_4, .null, .int 0])), (q_1, .inl (cJ g, 4, .inr (.inl (fun _ => 0)))), (q_2, .inl (cI g, 128, .inl (fun _ => 0))), (q_3, .inl (cI g, 128, .inl (fun _ => 0))), (q_4, .inl (cI g, 64, .inl (fun _ => 0)))] H := hP
  have hD : va_D A [(h0, .inr (9, [.ref q_1, .ref q_2, .ref q_3, .ref q_4, .null, .int 0])), (q_1, .inl (cJ g, 4, .inr (.inl (fun _ => 0)))), (q_2, .inl (cI g, 128, .inl (fun _ => 0))), (q_3, .inl (cI g, 128, .inl (fun _ => 0))), (q_4, .inl (cI g, 64, .inl (fun _ => 0)))] := hD
  refine lv_aload_n hx hb dX9_init_37 rfl (lv_at hl 0 rfl) ?_
  refine lv_sipush (v := 256) hx hb dX9_init_38 (by decide) ?_
  refine va_newa (atype := .int) (ty := .int) (N' := 256) (a0 := (256, .inl (fun _ => 0))) hx hb (hts _ q_139) rfl hK hP hD hS hA (fun cA => rfl) (by decide) (by decide) (Nat.le_of_ble_eq_true rfl) (Nat.le_of_ble_eq_true rfl) (Nat.le_of_ble_eq_true rfl) dX9_init_41 (fun q_5 cA H hK1 hP hD hS => ?_)
  have e_q_5 := arrI hK1
  subst e_q_5
  have hP : va_P g.1 classes [(h0, .inr (9, [.ref q_1, .ref q_2, .ref q_3, .ref q_4, .null, .int 0])), (q_1, .inl (cJ g, 4, .inr (.inl (fun _ => 0)))), (q_2, .inl (cI g, 128, .inl (fun _ => 0))), (q_3, .inl (cI g, 128, .inl (fun _ => 0))), (q_4, .inl (cI g, 64, .inl (fun _ => 0))), (q_5, .inl (cI g, 256, .inl (fun _ => 0)))] H := hP
  have hD : va_D A [(h0, .inr (9, [.ref q_1, .ref q_2, .ref q_3, .ref q_4, .null, .int 0])), (q_1, .inl (cJ g, 4, .inr (.inl (fun _ => 0)))), (q_2, .inl (cI g, 128, .inl (fun _ => 0))), (q_3, .inl (cI g, 128, .inl (fun _ => 0))), (q_4, .inl (cI g, 64, .inl (fun _ => 0))), (q_5, .inl (cI g, 256, .inl (fun _ => 0)))] := hD
  refine va_putF (D := g.1) (ci := 9) (v := .ref q_5) (ty := .array .int) (C := RX9) (T := TX9) (N := 6) hx hb hts fw_X9 tyX9 tyX9_ok nmX9 hown hK hP hD hS 0 rfl rfl 4 (by decide) (hts _ q_443) (fun _ h9 => h9) rfl hnm rfl (by decide +kernel) rfl rfl (Nat.le_of_ble_eq_true rfl) dX9_init_43 (fun H locs hP hD hS => ?_)
  have hP : va_P g.1 classes [(h0, .inr (9, [.ref q_1, .ref q_2, .ref q_3, .ref q_4, .ref q_5, .int 0])), (q_1, .inl (cJ g, 4, .inr (.inl (fun _ => 0)))), (q_2, .inl (cI g, 128, .inl (fun _ => 0))), (q_3, .inl (cI g, 128, .inl (fun _ => 0))), (q_4, .inl (cI g, 64, .inl (fun _ => 0))), (q_5, .inl (cI g, 256, .inl (fun _ => 0)))] H := hP
  have hD : va_D A [(h0, .inr (9, [.ref q_1, .ref q_2, .ref q_3, .ref q_4, .ref q_5, .int 0])), (q_1, .inl (cJ g, 4, .inr (.inl (fun _ => 0)))), (q_2, .inl (cI g, 128, .inl (fun _ => 0))), (q_3, .inl (cI g, 128, .inl (fun _ => 0))), (q_4, .inl (cI g, 64, .inl (fun _ => 0))), (q_5, .inl (cI g, 256, .inl (fun _ => 0)))] := hD
  exact rV X hK hP hD hS dX9_init_46 (Nat.le_of_ble_eq_true rfl) (Nat.le_of_ble_eq_true rfl) ⟨q_1, q_2, q_3, q_4, q_5, rfl⟩
