set_option maxRecDepth 200000 in
theorem w_412 : Cond.fieldLink "CityRoad$Acts" 24 "CityRoad$Acts" "number" "I" ∈ tb := tb_mem 412 (by decide +kernel) rfl
set_option maxRecDepth 200000 in
theorem w_417 : Cond.fieldLink "CityRoad$Acts" 15 "CityRoad$Acts" "latest" "[I" ∈ tb := tb_mem 417 (by decide +kernel) rfl
set_option maxRecDepth 200000 in
theorem w_416 : Cond.fieldLink "CityRoad$Acts" 11 "CityRoad$Acts" "ends" "[I" ∈ tb := tb_mem 416 (by decide +kernel) rfl
set_option maxRecDepth 200000 in
theorem w_472 : Cond.fieldLink "CityRoad" 465 "CityRoad" "asked" "I" ∈ tb := tb_mem 472 (by decide +kernel) rfl
set_option maxRecDepth 200000 in
theorem w_468 : Cond.fieldLink "CityRoad" 80 "CityRoad" "plan" "LCityRoad$Acts;" ∈ tb := tb_mem 468 (by decide +kernel) rfl
set_option maxRecDepth 200000 in
theorem w_1305 : Cond.code yX0_exists cX0_exists 2 (some .boolean) ∈ tb := tb_mem 1305 (by rfl) rfl
set_option maxRecDepth 200000 in
theorem w_101 : Cond.initialized "CityRoad$Acts" ∈ tb := tb_mem 101 (by decide +kernel) rfl
set_option maxRecDepth 200000 in
theorem w_1303 : Cond.instanceMethod yX0_exists ∈ tb := tb_mem 1303 (by decide +kernel) rfl
set_option maxRecDepth 200000 in
theorem w_1304 : Cond.selects "CityRoad$Acts" yX0_exists yX0_exists ∈ tb := tb_mem 1304 (by decide +kernel) rfl
set_option maxRecDepth 200000 in
theorem w_1302 : Cond.methodLink "CityRoad" 427 yX0_exists ∈ tb := tb_mem 1302 (by decide +kernel) rfl
set_option maxRecDepth 200000 in
theorem w_1309 : Cond.code yX0_laterBy cX0_laterBy 2 (some .int) ∈ tb := tb_mem 1309 (by rfl) rfl
set_option maxRecDepth 200000 in
theorem w_1307 : Cond.instanceMethod yX0_laterBy ∈ tb := tb_mem 1307 (by decide +kernel) rfl
set_option maxRecDepth 200000 in
theorem w_1308 : Cond.selects "CityRoad$Acts" yX0_laterBy yX0_laterBy ∈ tb := tb_mem 1308 (by decide +kernel) rfl
set_option maxRecDepth 200000 in
theorem w_1306 : Cond.methodLink "CityRoad" 428 yX0_laterBy ∈ tb := tb_mem 1306 (by decide +kernel) rfl
set_option maxRecDepth 200000 in
theorem w_554 : Cond.code yX11_tell cX11_tell 2 (some .int) ∈ tb := tb_mem 554 (by rfl) rfl
set_option maxRecDepth 200000 in
theorem w_89 : Cond.initialized "CityRoad" ∈ tb := tb_mem 89 (by decide +kernel) rfl
set_option maxRecDepth 200000 in
theorem w_553 : Cond.instanceMethod yX11_tell ∈ tb := tb_mem 553 (by decide +kernel) rfl
set_option maxRecDepth 200000 in
theorem w_1 : Cond.selects "CityRoad" yX11_tell yX11_tell ∈ tb := tb_mem 1 (by decide +kernel) rfl
set_option maxRecDepth 200000 in
theorem w_551 : Cond.methodLink "CityRoad" 117 yX11_tell ∈ tb := tb_mem 551 (by decide +kernel) rfl
set_option maxRecDepth 200000 in
theorem w_1313 : Cond.code yX0_endOf cX0_endOf 2 (some .int) ∈ tb := tb_mem 1313 (by rfl) rfl
set_option maxRecDepth 200000 in
theorem w_1311 : Cond.instanceMethod yX0_endOf ∈ tb := tb_mem 1311 (by decide +kernel) rfl
set_option maxRecDepth 200000 in
theorem w_1312 : Cond.selects "CityRoad$Acts" yX0_endOf yX0_endOf ∈ tb := tb_mem 1312 (by decide +kernel) rfl
set_option maxRecDepth 200000 in
theorem w_1310 : Cond.methodLink "CityRoad" 431 yX0_endOf ∈ tb := tb_mem 1310 (by decide +kernel) rfl
set_option maxRecDepth 200000 in
theorem w_126 : Cond.fieldLink "CityRoad$Shelf" 22 "CityRoad$Shelf" "rows" "I" ∈ tb := tb_mem 126 (by decide +kernel) rfl
set_option maxRecDepth 200000 in
theorem w_128 : Cond.fieldLink "CityRoad$Shelf" 9 "CityRoad$Shelf" "sizes" "[I" ∈ tb := tb_mem 128 (by decide +kernel) rfl
set_option maxRecDepth 200000 in
theorem w_475 : Cond.fieldLink "CityRoad" 477 "CityRoad" "finding" "I" ∈ tb := tb_mem 475 (by decide +kernel) rfl
set_option maxRecDepth 200000 in
theorem w_470 : Cond.fieldLink "CityRoad" 91 "CityRoad" "findingCounts" "[I" ∈ tb := tb_mem 470 (by decide +kernel) rfl
set_option maxRecDepth 200000 in
theorem w_129 : Cond.fieldLink "CityRoad$Shelf" 13 "CityRoad$Shelf" "places" "[I" ∈ tb := tb_mem 129 (by decide +kernel) rfl
set_option maxRecDepth 200000 in
theorem w_418 : Cond.fieldLink "CityRoad$Acts" 18 "CityRoad$Acts" "drawn" "[I" ∈ tb := tb_mem 418 (by decide +kernel) rfl
set_option maxRecDepth 200000 in
theorem w_600 : Cond.code yX8_at cX8_at 3 (some .int) ∈ tb := tb_mem 600 (by rfl) rfl
set_option maxRecDepth 200000 in
theorem w_90 : Cond.initialized "CityRoad$Shelf" ∈ tb := tb_mem 90 (by decide +kernel) rfl
set_option maxRecDepth 200000 in
theorem w_598 : Cond.instanceMethod yX8_at ∈ tb := tb_mem 598 (by decide +kernel) rfl
set_option maxRecDepth 200000 in
theorem w_599 : Cond.selects "CityRoad$Shelf" yX8_at yX8_at ∈ tb := tb_mem 599 (by decide +kernel) rfl
set_option maxRecDepth 200000 in
theorem w_1267 : Cond.methodLink "CityRoad$Acts" 34 yX8_at ∈ tb := tb_mem 1267 (by decide +kernel) rfl
set_option maxRecDepth 200000 in
theorem w_1279 : Cond.code yX0_isOpen cX0_isOpen 2 (some .boolean) ∈ tb := tb_mem 1279 (by rfl) rfl
set_option maxRecDepth 200000 in
theorem w_1278 : Cond.instanceMethod yX0_isOpen ∈ tb := tb_mem 1278 (by decide +kernel) rfl
set_option maxRecDepth 200000 in
theorem w_25 : Cond.selects "CityRoad$Acts" yX0_isOpen yX0_isOpen ∈ tb := tb_mem 25 (by decide +kernel) rfl
set_option maxRecDepth 200000 in
theorem w_1276 : Cond.methodLink "CityRoad$Acts" 60 yX0_isOpen ∈ tb := tb_mem 1276 (by decide +kernel) rfl
set_option maxRecDepth 200000 in
theorem w_1283 : Cond.code yX0_endAhead cX0_endAhead 2 (some .int) ∈ tb := tb_mem 1283 (by rfl) rfl
set_option maxRecDepth 200000 in
theorem w_1282 : Cond.instanceMethod yX0_endAhead ∈ tb := tb_mem 1282 (by decide +kernel) rfl
set_option maxRecDepth 200000 in
theorem w_26 : Cond.selects "CityRoad$Acts" yX0_endAhead yX0_endAhead ∈ tb := tb_mem 26 (by decide +kernel) rfl
set_option maxRecDepth 200000 in
theorem w_1280 : Cond.methodLink "CityRoad$Acts" 64 yX0_endAhead ∈ tb := tb_mem 1280 (by decide +kernel) rfl
set_option maxRecDepth 200000 in
theorem w_1284 : Cond.methodLink "CityRoad$Acts" 67 Lib.Math.max.name ∈ tb := tb_mem 1284 (by decide +kernel) rfl
set_option maxRecDepth 200000 in
theorem w_949 : Cond.static Lib.Math.max.name ∈ tb := tb_mem 949 (by decide +kernel) rfl
set_option maxRecDepth 200000 in
theorem w_91 : Cond.initialized "java/lang/Math" ∈ tb := tb_mem 91 (by decide +kernel) rfl
set_option maxRecDepth 200000 in
theorem w_950 : Cond.code Lib.Math.max.name Lib.Math.max.code 2 (some .int) ∈ tb := tb_mem 950 (by rfl) rfl
set_option maxRecDepth 200000 in
theorem w_419 : Cond.fieldLink "CityRoad$Acts" 21 "CityRoad$Acts" "order" "[I" ∈ tb := tb_mem 419 (by decide +kernel) rfl
set_option maxRecDepth 200000 in
theorem w_125 : Cond.code yJ7_fill_53178 cJ7_fill_53178 4 none ∈ tb := tb_mem 125 (by rfl) rfl
set_option maxRecDepth 200000 in
theorem w_92 : Cond.initialized "java/util/Arrays" ∈ tb := tb_mem 92 (by decide +kernel) rfl
set_option maxRecDepth 200000 in
theorem w_124 : Cond.static yJ7_fill_53178 ∈ tb := tb_mem 124 (by decide +kernel) rfl
set_option maxRecDepth 200000 in
theorem w_1275 : Cond.methodLink "CityRoad$Acts" 54 yJ7_fill_53178 ∈ tb := tb_mem 1275 (by decide +kernel) rfl
set_option maxRecDepth 200000 in
theorem w_414 : Cond.fieldLink "CityRoad$Acts" 72 "CityRoad$Acts" "end" "I" ∈ tb := tb_mem 414 (by decide +kernel) rfl
set_option maxRecDepth 200000 in
theorem w_1297 : Cond.methodLink "CityRoad$Acts" 79 Lib.Math.min.name ∈ tb := tb_mem 1297 (by decide +kernel) rfl
set_option maxRecDepth 200000 in
theorem w_121 : Cond.static Lib.Math.min.name ∈ tb := tb_mem 121 (by decide +kernel) rfl
set_option maxRecDepth 200000 in
theorem w_122 : Cond.code Lib.Math.min.name Lib.Math.min.code 2 (some .int) ∈ tb := tb_mem 122 (by rfl) rfl
set_option maxRecDepth 200000 in
theorem w_1296 : Cond.code yX0_holdBack cX0_holdBack 3 none ∈ tb := tb_mem 1296 (by rfl) rfl
set_option maxRecDepth 200000 in
theorem w_1295 : Cond.instanceMethod yX0_holdBack ∈ tb := tb_mem 1295 (by decide +kernel) rfl
set_option maxRecDepth 200000 in
theorem w_29 : Cond.selects "CityRoad$Acts" yX0_holdBack yX0_holdBack ∈ tb := tb_mem 29 (by decide +kernel) rfl
set_option maxRecDepth 200000 in
theorem w_1293 : Cond.methodLink "CityRoad$Acts" 75 yX0_holdBack ∈ tb := tb_mem 1293 (by decide +kernel) rfl
set_option maxRecDepth 200000 in
theorem w_1274 : Cond.code yX0_drawEnds cX0_drawEnds 11 (some .boolean) ∈ tb := tb_mem 1274 (by rfl) rfl
set_option maxRecDepth 200000 in
theorem w_1273 : Cond.instanceMethod yX0_drawEnds ∈ tb := tb_mem 1273 (by decide +kernel) rfl
set_option maxRecDepth 200000 in
theorem w_24 : Cond.selects "CityRoad$Acts" yX0_drawEnds yX0_drawEnds ∈ tb := tb_mem 24 (by decide +kernel) rfl
set_option maxRecDepth 200000 in
theorem w_1271 : Cond.methodLink "CityRoad$Acts" 42 yX0_drawEnds ∈ tb := tb_mem 1271 (by decide +kernel) rfl
set_option maxRecDepth 200000 in
theorem w_1288 : Cond.code yX0_keep cX0_keep 3 none ∈ tb := tb_mem 1288 (by rfl) rfl
set_option maxRecDepth 200000 in
theorem w_1287 : Cond.instanceMethod yX0_keep ∈ tb := tb_mem 1287 (by decide +kernel) rfl
set_option maxRecDepth 200000 in
theorem w_27 : Cond.selects "CityRoad$Acts" yX0_keep yX0_keep ∈ tb := tb_mem 27 (by decide +kernel) rfl
set_option maxRecDepth 200000 in
theorem w_1285 : Cond.methodLink "CityRoad$Acts" 46 yX0_keep ∈ tb := tb_mem 1285 (by decide +kernel) rfl
set_option maxRecDepth 200000 in
theorem w_1292 : Cond.code yX0_drawLatest cX0_drawLatest 6 none ∈ tb := tb_mem 1292 (by rfl) rfl
set_option maxRecDepth 200000 in
theorem w_1291 : Cond.instanceMethod yX0_drawLatest ∈ tb := tb_mem 1291 (by decide +kernel) rfl
set_option maxRecDepth 200000 in
theorem w_28 : Cond.selects "CityRoad$Acts" yX0_drawLatest yX0_drawLatest ∈ tb := tb_mem 28 (by decide +kernel) rfl
set_option maxRecDepth 200000 in
theorem w_1289 : Cond.methodLink "CityRoad$Acts" 50 yX0_drawLatest ∈ tb := tb_mem 1289 (by decide +kernel) rfl
set_option maxRecDepth 200000 in
theorem w_1270 : Cond.code yX0_isAhead cX0_isAhead 2 (some .boolean) ∈ tb := tb_mem 1270 (by rfl) rfl
set_option maxRecDepth 200000 in
theorem w_1269 : Cond.static yX0_isAhead ∈ tb := tb_mem 1269 (by decide +kernel) rfl
set_option maxRecDepth 200000 in
theorem w_1268 : Cond.methodLink "CityRoad$Acts" 38 yX0_isAhead ∈ tb := tb_mem 1268 (by decide +kernel) rfl
set_option maxRecDepth 200000 in
theorem w_596 : Cond.code yX8_sizeOf cX8_sizeOf 2 (some .int) ∈ tb := tb_mem 596 (by rfl) rfl
set_option maxRecDepth 200000 in
theorem w_594 : Cond.instanceMethod yX8_sizeOf ∈ tb := tb_mem 594 (by decide +kernel) rfl
set_option maxRecDepth 200000 in
theorem w_595 : Cond.selects "CityRoad$Shelf" yX8_sizeOf yX8_sizeOf ∈ tb := tb_mem 595 (by decide +kernel) rfl
set_option maxRecDepth 200000 in
theorem w_1266 : Cond.methodLink "CityRoad$Acts" 28 yX8_sizeOf ∈ tb := tb_mem 1266 (by decide +kernel) rfl
set_option maxRecDepth 200000 in
theorem w_524 : Cond.code yX11_found cX11_found 2 (some .int) ∈ tb := tb_mem 524 (by rfl) rfl
set_option maxRecDepth 200000 in
theorem w_523 : Cond.instanceMethod yX11_found ∈ tb := tb_mem 523 (by decide +kernel) rfl
set_option maxRecDepth 200000 in
theorem w_0 : Cond.selects "CityRoad" yX11_found yX11_found ∈ tb := tb_mem 0 (by decide +kernel) rfl
set_option maxRecDepth 200000 in
theorem w_521 : Cond.methodLink "CityRoad" 99 yX11_found ∈ tb := tb_mem 521 (by decide +kernel) rfl
set_option maxRecDepth 200000 in
theorem w_458 : Cond.fieldLink "CityRoad" 12 "CityRoad" "rows" "LCityRoad$Shelf;" ∈ tb := tb_mem 458 (by decide +kernel) rfl
set_option maxRecDepth 200000 in
theorem w_520 : Cond.code yX8_exists cX8_exists 2 (some .boolean) ∈ tb := tb_mem 520 (by rfl) rfl
set_option maxRecDepth 200000 in
theorem w_518 : Cond.instanceMethod yX8_exists ∈ tb := tb_mem 518 (by decide +kernel) rfl
set_option maxRecDepth 200000 in
theorem w_519 : Cond.selects "CityRoad$Shelf" yX8_exists yX8_exists ∈ tb := tb_mem 519 (by decide +kernel) rfl
set_option maxRecDepth 200000 in
theorem w_517 : Cond.methodLink "CityRoad" 95 yX8_exists ∈ tb := tb_mem 517 (by decide +kernel) rfl
set_option maxRecDepth 200000 in
theorem w_542 : Cond.code yX8_isThere cX8_isThere 2 (some .boolean) ∈ tb := tb_mem 542 (by rfl) rfl
set_option maxRecDepth 200000 in
theorem w_540 : Cond.instanceMethod yX8_isThere ∈ tb := tb_mem 540 (by decide +kernel) rfl
set_option maxRecDepth 200000 in
theorem w_541 : Cond.selects "CityRoad$Shelf" yX8_isThere yX8_isThere ∈ tb := tb_mem 541 (by decide +kernel) rfl
set_option maxRecDepth 200000 in
theorem w_539 : Cond.methodLink "CityRoad" 106 yX8_isThere ∈ tb := tb_mem 539 (by decide +kernel) rfl
set_option maxRecDepth 200000 in
theorem w_794 : Cond.methodLink "CityRoad" 219 yX8_sizeOf ∈ tb := tb_mem 794 (by decide +kernel) rfl
set_option maxRecDepth 200000 in
theorem w_471 : Cond.fieldLink "CityRoad" 136 "CityRoad" "today" "I" ∈ tb := tb_mem 471 (by decide +kernel) rfl
set_option maxRecDepth 200000 in
theorem w_1265 : Cond.code yX0_draw cX0_draw 7 (some .boolean) ∈ tb := tb_mem 1265 (by rfl) rfl
set_option maxRecDepth 200000 in
theorem w_1263 : Cond.instanceMethod yX0_draw ∈ tb := tb_mem 1263 (by decide +kernel) rfl
set_option maxRecDepth 200000 in
theorem w_1264 : Cond.selects "CityRoad$Acts" yX0_draw yX0_draw ∈ tb := tb_mem 1264 (by decide +kernel) rfl
set_option maxRecDepth 200000 in
theorem w_1262 : Cond.methodLink "CityRoad" 420 yX0_draw ∈ tb := tb_mem 1262 (by decide +kernel) rfl
set_option maxRecDepth 200000 in
theorem w_415 : Cond.fieldLink "CityRoad" 424 "CityRoad$Acts" "end" "I" ∈ tb := tb_mem 415 (by decide +kernel) rfl
set_option maxRecDepth 200000 in
theorem w_799 : Cond.methodLink "CityRoad$Shelf" 44 yX8_at ∈ tb := tb_mem 799 (by decide +kernel) rfl
set_option maxRecDepth 200000 in
theorem w_798 : Cond.code yX8_allWithin cX8_allWithin 5 (some .boolean) ∈ tb := tb_mem 798 (by rfl) rfl
set_option maxRecDepth 200000 in
theorem w_796 : Cond.instanceMethod yX8_allWithin ∈ tb := tb_mem 796 (by decide +kernel) rfl
set_option maxRecDepth 200000 in
theorem w_797 : Cond.selects "CityRoad$Shelf" yX8_allWithin yX8_allWithin ∈ tb := tb_mem 797 (by decide +kernel) rfl
set_option maxRecDepth 200000 in
theorem w_795 : Cond.methodLink "CityRoad" 222 yX8_allWithin ∈ tb := tb_mem 795 (by decide +kernel) rfl
set_option maxRecDepth 200000 in
theorem w_264 : Cond.fieldLink "CityRoad$Marks" 54 "CityRoad$Marks" "number" "I" ∈ tb := tb_mem 264 (by decide +kernel) rfl
set_option maxRecDepth 200000 in
theorem w_251 : Cond.fieldLink "CityRoad$Marks" 11 "CityRoad$Marks" "kinds" "[I" ∈ tb := tb_mem 251 (by decide +kernel) rfl
set_option maxRecDepth 200000 in
theorem w_256 : Cond.fieldLink "CityRoad$Marks" 29 "CityRoad$Marks" "sets" "[J" ∈ tb := tb_mem 256 (by decide +kernel) rfl
set_option maxRecDepth 200000 in
theorem w_257 : Cond.fieldLink "CityRoad$Marks" 33 "CityRoad$Marks" "costs" "[I" ∈ tb := tb_mem 257 (by decide +kernel) rfl
set_option maxRecDepth 200000 in
theorem w_172 : Cond.fieldLink "CityRoad$Buildings" 58 "CityRoad$Buildings" "number" "I" ∈ tb := tb_mem 172 (by decide +kernel) rfl
set_option maxRecDepth 200000 in
theorem w_160 : Cond.fieldLink "CityRoad$Buildings" 11 "CityRoad$Buildings" "cells" "[I" ∈ tb := tb_mem 160 (by decide +kernel) rfl
set_option maxRecDepth 200000 in
theorem w_840 : Cond.code yX3_has cX3_has 3 (some .boolean) ∈ tb := tb_mem 840 (by rfl) rfl
set_option maxRecDepth 200000 in
theorem w_93 : Cond.initialized "CityRoad$Ground" ∈ tb := tb_mem 93 (by decide +kernel) rfl
set_option maxRecDepth 200000 in
theorem w_839 : Cond.static yX3_has ∈ tb := tb_mem 839 (by decide +kernel) rfl
set_option maxRecDepth 200000 in
theorem w_1179 : Cond.methodLink "CityRoad$Buildings" 87 yX3_has ∈ tb := tb_mem 1179 (by decide +kernel) rfl
set_option maxRecDepth 200000 in
theorem w_163 : Cond.fieldLink "CityRoad$Buildings" 21 "CityRoad$Buildings" "dwellers" "[I" ∈ tb := tb_mem 163 (by decide +kernel) rfl
set_option maxRecDepth 200000 in
theorem w_146 : Cond.fieldLink "CityRoad$Ground" 11 "CityRoad$Ground" "sorts" "[I" ∈ tb := tb_mem 146 (by decide +kernel) rfl
set_option maxRecDepth 200000 in
theorem w_1225 : Cond.methodLink "CityRoad$Ground" 47 yX3_has ∈ tb := tb_mem 1225 (by decide +kernel) rfl
set_option maxRecDepth 200000 in
theorem w_235 : Cond.fieldLink "CityRoad$Rules" 21 "CityRoad$Rules" "number" "I" ∈ tb := tb_mem 235 (by decide +kernel) rfl
set_option maxRecDepth 200000 in
theorem w_234 : Cond.fieldLink "CityRoad$Rules" 18 "CityRoad$Rules" "values" "[I" ∈ tb := tb_mem 234 (by decide +kernel) rfl
set_option maxRecDepth 200000 in
theorem w_232 : Cond.fieldLink "CityRoad$Rules" 11 "CityRoad$Rules" "toldDays" "[I" ∈ tb := tb_mem 232 (by decide +kernel) rfl
set_option maxRecDepth 200000 in
theorem w_233 : Cond.fieldLink "CityRoad$Rules" 15 "CityRoad$Rules" "fromDays" "[I" ∈ tb := tb_mem 233 (by decide +kernel) rfl
set_option maxRecDepth 200000 in
theorem w_778 : Cond.code yX7_deciding cX7_deciding 6 (some .int) ∈ tb := tb_mem 778 (by rfl) rfl
set_option maxRecDepth 200000 in
theorem w_96 : Cond.initialized "CityRoad$Rules" ∈ tb := tb_mem 96 (by decide +kernel) rfl
set_option maxRecDepth 200000 in
theorem w_776 : Cond.instanceMethod yX7_deciding ∈ tb := tb_mem 776 (by decide +kernel) rfl
set_option maxRecDepth 200000 in
theorem w_777 : Cond.selects "CityRoad$Rules" yX7_deciding yX7_deciding ∈ tb := tb_mem 777 (by decide +kernel) rfl
set_option maxRecDepth 200000 in
theorem w_775 : Cond.methodLink "CityRoad$Rules" 63 yX7_deciding ∈ tb := tb_mem 775 (by decide +kernel) rfl
set_option maxRecDepth 200000 in
theorem w_779 : Cond.fieldLink "CityRoad$Rules" 67 "CityRoad$Rules" "DEFAULTS" "[I" ∈ tb := tb_mem 779 (by decide +kernel) rfl
set_option maxRecDepth 200000 in
theorem w_463 : Cond.fieldLink "CityRoad" 45 "CityRoad" "rules" "LCityRoad$Rules;" ∈ tb := tb_mem 463 (by decide +kernel) rfl
set_option maxRecDepth 200000 in
theorem w_774 : Cond.code yX7_valueFor cX7_valueFor 5 (some .int) ∈ tb := tb_mem 774 (by rfl) rfl
set_option maxRecDepth 200000 in
theorem w_772 : Cond.instanceMethod yX7_valueFor ∈ tb := tb_mem 772 (by decide +kernel) rfl
set_option maxRecDepth 200000 in
theorem w_773 : Cond.selects "CityRoad$Rules" yX7_valueFor yX7_valueFor ∈ tb := tb_mem 773 (by decide +kernel) rfl
set_option maxRecDepth 200000 in
theorem w_771 : Cond.methodLink "CityRoad" 212 yX7_valueFor ∈ tb := tb_mem 771 (by decide +kernel) rfl
set_option maxRecDepth 200000 in
theorem w_900 : Cond.constantLong "CityRoad$Ground" 28 (-72340172838076674) ∈ tb := tb_mem 900 (by decide +kernel) rfl
set_option maxRecDepth 200000 in
theorem w_901 : Cond.constantLong "CityRoad$Ground" 30 (9187201950435737471) ∈ tb := tb_mem 901 (by decide +kernel) rfl
set_option maxRecDepth 200000 in
theorem w_899 : Cond.code yX3_spreadAside cX3_spreadAside 2 (some .long) ∈ tb := tb_mem 899 (by rfl) rfl
set_option maxRecDepth 200000 in
theorem w_898 : Cond.static yX3_spreadAside ∈ tb := tb_mem 898 (by decide +kernel) rfl
set_option maxRecDepth 200000 in
theorem w_897 : Cond.methodLink "CityRoad$Ground" 24 yX3_spreadAside ∈ tb := tb_mem 897 (by decide +kernel) rfl
set_option maxRecDepth 200000 in
theorem w_896 : Cond.code yX3_spread cX3_spread 2 (some .long) ∈ tb := tb_mem 896 (by rfl) rfl
set_option maxRecDepth 200000 in
theorem w_895 : Cond.static yX3_spread ∈ tb := tb_mem 895 (by decide +kernel) rfl
set_option maxRecDepth 200000 in
theorem w_894 : Cond.methodLink "CityRoad" 258 yX3_spread ∈ tb := tb_mem 894 (by decide +kernel) rfl
set_option maxRecDepth 200000 in
theorem w_808 : Cond.methodLink "CityRoad" 504 yX8_at ∈ tb := tb_mem 808 (by decide +kernel) rfl
set_option maxRecDepth 200000 in
theorem w_1185 : Cond.constantLong "CityRoad" 387 (-1) ∈ tb := tb_mem 1185 (by decide +kernel) rfl
set_option maxRecDepth 200000 in
theorem w_812 : Cond.code yX11_inForce cX11_inForce 2 (some .int) ∈ tb := tb_mem 812 (by rfl) rfl
set_option maxRecDepth 200000 in
theorem w_811 : Cond.instanceMethod yX11_inForce ∈ tb := tb_mem 811 (by decide +kernel) rfl
set_option maxRecDepth 200000 in
theorem w_4 : Cond.selects "CityRoad" yX11_inForce yX11_inForce ∈ tb := tb_mem 4 (by decide +kernel) rfl
set_option maxRecDepth 200000 in
theorem w_809 : Cond.methodLink "CityRoad" 228 yX11_inForce ∈ tb := tb_mem 809 (by decide +kernel) rfl
set_option maxRecDepth 200000 in
theorem w_464 : Cond.fieldLink "CityRoad" 52 "CityRoad" "marks" "LCityRoad$Marks;" ∈ tb := tb_mem 464 (by decide +kernel) rfl
set_option maxRecDepth 200000 in
theorem w_893 : Cond.code yX4_cells cX4_cells 2 (some .long) ∈ tb := tb_mem 893 (by rfl) rfl
set_option maxRecDepth 200000 in
theorem w_97 : Cond.initialized "CityRoad$Marks" ∈ tb := tb_mem 97 (by decide +kernel) rfl
set_option maxRecDepth 200000 in
theorem w_891 : Cond.instanceMethod yX4_cells ∈ tb := tb_mem 891 (by decide +kernel) rfl
set_option maxRecDepth 200000 in
theorem w_892 : Cond.selects "CityRoad$Marks" yX4_cells yX4_cells ∈ tb := tb_mem 892 (by decide +kernel) rfl
set_option maxRecDepth 200000 in
theorem w_890 : Cond.methodLink "CityRoad" 254 yX4_cells ∈ tb := tb_mem 890 (by decide +kernel) rfl
set_option maxRecDepth 200000 in
theorem w_166 : Cond.fieldLink "CityRoad$Buildings" 30 "CityRoad$Buildings" "taken" "[Z" ∈ tb := tb_mem 166 (by decide +kernel) rfl
set_option maxRecDepth 200000 in
theorem w_161 : Cond.fieldLink "CityRoad$Buildings" 15 "CityRoad$Buildings" "uses" "[I" ∈ tb := tb_mem 161 (by decide +kernel) rfl
set_option maxRecDepth 200000 in
theorem w_714 : Cond.code yX1_stands cX1_stands 3 (some .boolean) ∈ tb := tb_mem 714 (by rfl) rfl
set_option maxRecDepth 200000 in
theorem w_94 : Cond.initialized "CityRoad$Buildings" ∈ tb := tb_mem 94 (by decide +kernel) rfl
set_option maxRecDepth 200000 in
theorem w_712 : Cond.instanceMethod yX1_stands ∈ tb := tb_mem 712 (by decide +kernel) rfl
set_option maxRecDepth 200000 in
theorem w_713 : Cond.selects "CityRoad$Buildings" yX1_stands yX1_stands ∈ tb := tb_mem 713 (by decide +kernel) rfl
set_option maxRecDepth 200000 in
theorem w_711 : Cond.methodLink "CityRoad$Buildings" 69 yX1_stands ∈ tb := tb_mem 711 (by decide +kernel) rfl
set_option maxRecDepth 200000 in
theorem w_1057 : Cond.code yX4_costOf cX4_costOf 2 (some .int) ∈ tb := tb_mem 1057 (by rfl) rfl
set_option maxRecDepth 200000 in
theorem w_1055 : Cond.instanceMethod yX4_costOf ∈ tb := tb_mem 1055 (by decide +kernel) rfl
set_option maxRecDepth 200000 in
theorem w_1056 : Cond.selects "CityRoad$Marks" yX4_costOf yX4_costOf ∈ tb := tb_mem 1056 (by decide +kernel) rfl
set_option maxRecDepth 200000 in
theorem w_1054 : Cond.methodLink "CityRoad" 334 yX4_costOf ∈ tb := tb_mem 1054 (by decide +kernel) rfl
set_option maxRecDepth 200000 in
theorem w_461 : Cond.fieldLink "CityRoad" 33 "CityRoad" "buildings" "LCityRoad$Buildings;" ∈ tb := tb_mem 461 (by decide +kernel) rfl
set_option maxRecDepth 200000 in
theorem w_1212 : Cond.code yX1_dwellersIn cX1_dwellersIn 5 (some .int) ∈ tb := tb_mem 1212 (by rfl) rfl
set_option maxRecDepth 200000 in
theorem w_1210 : Cond.instanceMethod yX1_dwellersIn ∈ tb := tb_mem 1210 (by decide +kernel) rfl
set_option maxRecDepth 200000 in
theorem w_1211 : Cond.selects "CityRoad$Buildings" yX1_dwellersIn yX1_dwellersIn ∈ tb := tb_mem 1211 (by decide +kernel) rfl
set_option maxRecDepth 200000 in
theorem w_1209 : Cond.methodLink "CityRoad" 402 yX1_dwellersIn ∈ tb := tb_mem 1209 (by decide +kernel) rfl
set_option maxRecDepth 200000 in
theorem w_460 : Cond.fieldLink "CityRoad" 26 "CityRoad" "ground" "LCityRoad$Ground;" ∈ tb := tb_mem 460 (by decide +kernel) rfl
set_option maxRecDepth 200000 in
theorem w_1224 : Cond.code yX3_parksIn cX3_parksIn 5 (some .int) ∈ tb := tb_mem 1224 (by rfl) rfl
set_option maxRecDepth 200000 in
theorem w_1222 : Cond.instanceMethod yX3_parksIn ∈ tb := tb_mem 1222 (by decide +kernel) rfl
set_option maxRecDepth 200000 in
theorem w_1223 : Cond.selects "CityRoad$Ground" yX3_parksIn yX3_parksIn ∈ tb := tb_mem 1223 (by decide +kernel) rfl
set_option maxRecDepth 200000 in
theorem w_1221 : Cond.methodLink "CityRoad" 408 yX3_parksIn ∈ tb := tb_mem 1221 (by decide +kernel) rfl
set_option maxRecDepth 200000 in
theorem w_1208 : Cond.code yX11_loudCells cX11_loudCells 11 (some .long) ∈ tb := tb_mem 1208 (by rfl) rfl
set_option maxRecDepth 200000 in
theorem w_1207 : Cond.instanceMethod yX11_loudCells ∈ tb := tb_mem 1207 (by decide +kernel) rfl
set_option maxRecDepth 200000 in
theorem w_21 : Cond.selects "CityRoad" yX11_loudCells yX11_loudCells ∈ tb := tb_mem 21 (by decide +kernel) rfl
set_option maxRecDepth 200000 in
theorem w_1205 : Cond.methodLink "CityRoad" 398 yX11_loudCells ∈ tb := tb_mem 1205 (by decide +kernel) rfl
set_option maxRecDepth 200000 in
theorem w_1216 : Cond.code yX1_housesIn cX1_housesIn 5 (some .int) ∈ tb := tb_mem 1216 (by rfl) rfl
set_option maxRecDepth 200000 in
theorem w_1214 : Cond.instanceMethod yX1_housesIn ∈ tb := tb_mem 1214 (by decide +kernel) rfl
set_option maxRecDepth 200000 in
theorem w_1215 : Cond.selects "CityRoad$Buildings" yX1_housesIn yX1_housesIn ∈ tb := tb_mem 1215 (by decide +kernel) rfl
set_option maxRecDepth 200000 in
theorem w_1213 : Cond.methodLink "CityRoad" 405 yX1_housesIn ∈ tb := tb_mem 1213 (by decide +kernel) rfl
set_option maxRecDepth 200000 in
theorem w_793 : Cond.code yX4_number cX4_number 1 (some .int) ∈ tb := tb_mem 793 (by rfl) rfl
set_option maxRecDepth 200000 in
theorem w_791 : Cond.instanceMethod yX4_number ∈ tb := tb_mem 791 (by decide +kernel) rfl
set_option maxRecDepth 200000 in
theorem w_792 : Cond.selects "CityRoad$Marks" yX4_number yX4_number ∈ tb := tb_mem 792 (by decide +kernel) rfl
set_option maxRecDepth 200000 in
theorem w_790 : Cond.methodLink "CityRoad" 218 yX4_number ∈ tb := tb_mem 790 (by decide +kernel) rfl
set_option maxRecDepth 200000 in
theorem w_982 : Cond.code yX4_kindOf cX4_kindOf 2 (some .int) ∈ tb := tb_mem 982 (by rfl) rfl
set_option maxRecDepth 200000 in
theorem w_980 : Cond.instanceMethod yX4_kindOf ∈ tb := tb_mem 980 (by decide +kernel) rfl
set_option maxRecDepth 200000 in
theorem w_981 : Cond.selects "CityRoad$Marks" yX4_kindOf yX4_kindOf ∈ tb := tb_mem 981 (by decide +kernel) rfl
set_option maxRecDepth 200000 in
theorem w_979 : Cond.methodLink "CityRoad" 302 yX4_kindOf ∈ tb := tb_mem 979 (by decide +kernel) rfl
set_option maxRecDepth 200000 in
theorem w_1380 : Cond.code yX11_weigh cX11_weigh 6 (some .int) ∈ tb := tb_mem 1380 (by rfl) rfl
set_option maxRecDepth 200000 in
theorem w_1379 : Cond.instanceMethod yX11_weigh ∈ tb := tb_mem 1379 (by decide +kernel) rfl
set_option maxRecDepth 200000 in
theorem w_36 : Cond.selects "CityRoad" yX11_weigh yX11_weigh ∈ tb := tb_mem 36 (by decide +kernel) rfl
set_option maxRecDepth 200000 in
theorem w_1377 : Cond.methodLink "CityRoad" 462 yX11_weigh ∈ tb := tb_mem 1377 (by decide +kernel) rfl
set_option maxRecDepth 200000 in
theorem w_1376 : Cond.code yX11_weighingFault cX11_weighingFault 3 (some .int) ∈ tb := tb_mem 1376 (by rfl) rfl
set_option maxRecDepth 200000 in
theorem w_1375 : Cond.instanceMethod yX11_weighingFault ∈ tb := tb_mem 1375 (by decide +kernel) rfl
set_option maxRecDepth 200000 in
theorem w_35 : Cond.selects "CityRoad" yX11_weighingFault yX11_weighingFault ∈ tb := tb_mem 35 (by decide +kernel) rfl
set_option maxRecDepth 200000 in
theorem w_1373 : Cond.methodLink "CityRoad" 459 yX11_weighingFault ∈ tb := tb_mem 1373 (by decide +kernel) rfl
set_option maxRecDepth 200000 in
theorem w_642 : Cond.constant "CityRoad$Buildings" 57 (100000) ∈ tb := tb_mem 642 (by decide +kernel) rfl
theorem gdX0_exists_17 : decode cX0_exists 17 = .ok (.ireturn, 1) := by decide +kernel
theorem gdX0_exists_16 : decode cX0_exists 16 = .ok (.iconst 0, 1) := by decide +kernel
theorem gdX0_exists_0 : decode cX0_exists 0 = .ok (.iload_n 1, 1) := by decide +kernel
theorem gdX0_exists_1 : decode cX0_exists 1 = .ok (.ifCond .lt 15, 3) := by decide +kernel
theorem gdX0_exists_4 : decode cX0_exists 4 = .ok (.iload_n 1, 1) := by decide +kernel
theorem gdX0_exists_5 : decode cX0_exists 5 = .ok (.aload_n 0, 1) := by decide +kernel
theorem gdX0_exists_6 : decode cX0_exists 6 = .ok (.getfield 24, 3) := by decide +kernel
theorem gdX0_exists_9 : decode cX0_exists 9 = .ok (.if_icmp .ge 7, 3) := by decide +kernel
theorem gdX0_exists_12 : decode cX0_exists 12 = .ok (.iconst 1, 1) := by decide +kernel
theorem gdX0_exists_13 : decode cX0_exists 13 = .ok (.goto 4, 3) := by decide +kernel
theorem gdX0_laterBy_0 : decode cX0_laterBy 0 = .ok (.aload_n 0, 1) := by decide +kernel
theorem gdX0_laterBy_1 : decode cX0_laterBy 1 = .ok (.getfield 15, 3) := by decide +kernel
theorem gdX0_laterBy_4 : decode cX0_laterBy 4 = .ok (.iload_n 1, 1) := by decide +kernel
theorem gdX0_laterBy_5 : decode cX0_laterBy 5 = .ok (.iaload, 1) := by decide +kernel
theorem gdX0_laterBy_6 : decode cX0_laterBy 6 = .ok (.aload_n 0, 1) := by decide +kernel
theorem gdX0_laterBy_7 : decode cX0_laterBy 7 = .ok (.getfield 11, 3) := by decide +kernel
theorem gdX0_laterBy_10 : decode cX0_laterBy 10 = .ok (.iload_n 1, 1) := by decide +kernel
theorem gdX0_laterBy_11 : decode cX0_laterBy 11 = .ok (.iaload, 1) := by decide +kernel
theorem gdX0_laterBy_12 : decode cX0_laterBy 12 = .ok (.isub, 1) := by decide +kernel
theorem gdX0_laterBy_13 : decode cX0_laterBy 13 = .ok (.ireturn, 1) := by decide +kernel
theorem gdX11_tell_0 : decode cX11_tell 0 = .ok (.aload_n 0, 1) := by decide +kernel
theorem gdX11_tell_1 : decode cX11_tell 1 = .ok (.iload_n 1, 1) := by decide +kernel
theorem gdX11_tell_2 : decode cX11_tell 2 = .ok (.putfield 465, 3) := by decide +kernel
theorem gdX11_tell_5 : decode cX11_tell 5 = .ok (.iconst 1, 1) := by decide +kernel
theorem gdX11_tell_6 : decode cX11_tell 6 = .ok (.ireturn, 1) := by decide +kernel
theorem gdX0_endOf_0 : decode cX0_endOf 0 = .ok (.aload_n 0, 1) := by decide +kernel
theorem gdX0_endOf_1 : decode cX0_endOf 1 = .ok (.getfield 11, 3) := by decide +kernel
theorem gdX0_endOf_4 : decode cX0_endOf 4 = .ok (.iload_n 1, 1) := by decide +kernel
theorem gdX0_endOf_5 : decode cX0_endOf 5 = .ok (.iaload, 1) := by decide +kernel
theorem gdX0_endOf_6 : decode cX0_endOf 6 = .ok (.ireturn, 1) := by decide +kernel
theorem gdX11_act_0 : decode cX11_act 0 = .ok (.aload_n 0, 1) := by decide +kernel
theorem gdX11_act_1 : decode cX11_act 1 = .ok (.getfield 80, 3) := by decide +kernel
theorem gdX11_act_4 : decode cX11_act 4 = .ok (.iload_n 1, 1) := by decide +kernel
theorem gdX11_act_5 : decode cX11_act 5 = .ok (.invokevirtual 427, 3) := by decide +kernel
theorem gdX11_act_8 : decode cX11_act 8 = .ok (.ifCond .ne 6, 3) := by decide +kernel
theorem gdX11_act_14 : decode cX11_act 14 = .ok (.aload_n 0, 1) := by decide +kernel
theorem gdX11_act_15 : decode cX11_act 15 = .ok (.aload_n 0, 1) := by decide +kernel
theorem gdX11_act_16 : decode cX11_act 16 = .ok (.getfield 80, 3) := by decide +kernel
theorem gdX11_act_19 : decode cX11_act 19 = .ok (.iload_n 1, 1) := by decide +kernel
theorem gdX11_act_20 : decode cX11_act 20 = .ok (.invokevirtual 428, 3) := by decide +kernel
theorem gdX11_act_23 : decode cX11_act 23 = .ok (.invokevirtual 117, 3) := by decide +kernel
theorem gdX11_act_26 : decode cX11_act 26 = .ok (.pop, 1) := by decide +kernel
theorem gdX11_act_27 : decode cX11_act 27 = .ok (.aload_n 0, 1) := by decide +kernel
theorem gdX11_act_28 : decode cX11_act 28 = .ok (.getfield 80, 3) := by decide +kernel
theorem gdX11_act_31 : decode cX11_act 31 = .ok (.iload_n 1, 1) := by decide +kernel
theorem gdX11_act_32 : decode cX11_act 32 = .ok (.invokevirtual 431, 3) := by decide +kernel
theorem gdX11_act_35 : decode cX11_act 35 = .ok (.ireturn, 1) := by decide +kernel
theorem gdX11_act_11 : decode cX11_act 11 = .ok (.bipush (-9), 2) := by decide +kernel
theorem gdX11_act_13 : decode cX11_act 13 = .ok (.ireturn, 1) := by decide +kernel
theorem gdX8_exists_17 : decode cX8_exists 17 = .ok (.ireturn, 1) := by decide +kernel
theorem gdX8_exists_16 : decode cX8_exists 16 = .ok (.iconst 0, 1) := by decide +kernel
theorem gdX8_exists_0 : decode cX8_exists 0 = .ok (.iload_n 1, 1) := by decide +kernel
theorem gdX8_exists_1 : decode cX8_exists 1 = .ok (.ifCond .lt 15, 3) := by decide +kernel
theorem gdX8_exists_4 : decode cX8_exists 4 = .ok (.iload_n 1, 1) := by decide +kernel
theorem gdX8_exists_5 : decode cX8_exists 5 = .ok (.aload_n 0, 1) := by decide +kernel
theorem gdX8_exists_6 : decode cX8_exists 6 = .ok (.getfield 22, 3) := by decide +kernel
theorem gdX8_exists_9 : decode cX8_exists 9 = .ok (.if_icmp .ge 7, 3) := by decide +kernel
theorem gdX8_exists_12 : decode cX8_exists 12 = .ok (.iconst 1, 1) := by decide +kernel
theorem gdX8_exists_13 : decode cX8_exists 13 = .ok (.goto 4, 3) := by decide +kernel
theorem gdX8_isThere_15 : decode cX8_isThere 15 = .ok (.ireturn, 1) := by decide +kernel
theorem gdX8_isThere_0 : decode cX8_isThere 0 = .ok (.aload_n 0, 1) := by decide +kernel
theorem gdX8_isThere_1 : decode cX8_isThere 1 = .ok (.getfield 9, 3) := by decide +kernel
theorem gdX8_isThere_4 : decode cX8_isThere 4 = .ok (.iload_n 1, 1) := by decide +kernel
theorem gdX8_isThere_5 : decode cX8_isThere 5 = .ok (.iaload, 1) := by decide +kernel
theorem gdX8_isThere_6 : decode cX8_isThere 6 = .ok (.iconst (-1), 1) := by decide +kernel
theorem gdX8_isThere_7 : decode cX8_isThere 7 = .ok (.if_icmp .eq 7, 3) := by decide +kernel
theorem gdX8_isThere_14 : decode cX8_isThere 14 = .ok (.iconst 0, 1) := by decide +kernel
theorem gdX8_isThere_10 : decode cX8_isThere 10 = .ok (.iconst 1, 1) := by decide +kernel
theorem gdX8_isThere_11 : decode cX8_isThere 11 = .ok (.goto 4, 3) := by decide +kernel
theorem gdX11_found_0 : decode cX11_found 0 = .ok (.aload_n 0, 1) := by decide +kernel
theorem gdX11_found_1 : decode cX11_found 1 = .ok (.iload_n 1, 1) := by decide +kernel
theorem gdX11_found_2 : decode cX11_found 2 = .ok (.putfield 477, 3) := by decide +kernel
theorem gdX11_found_5 : decode cX11_found 5 = .ok (.aload_n 0, 1) := by decide +kernel
theorem gdX11_found_6 : decode cX11_found 6 = .ok (.getfield 91, 3) := by decide +kernel
theorem gdX11_found_9 : decode cX11_found 9 = .ok (.iload_n 1, 1) := by decide +kernel
theorem gdX11_found_10 : decode cX11_found 10 = .ok (.dup2, 1) := by decide +kernel
theorem gdX11_found_11 : decode cX11_found 11 = .ok (.iaload, 1) := by decide +kernel
theorem gdX11_found_12 : decode cX11_found 12 = .ok (.iconst 1, 1) := by decide +kernel
theorem gdX11_found_13 : decode cX11_found 13 = .ok (.iadd, 1) := by decide +kernel
theorem gdX11_found_14 : decode cX11_found 14 = .ok (.iastore, 1) := by decide +kernel
theorem gdX11_found_15 : decode cX11_found 15 = .ok (.bipush (-3), 2) := by decide +kernel
theorem gdX11_found_17 : decode cX11_found 17 = .ok (.ireturn, 1) := by decide +kernel
theorem gdX8_sizeOf_0 : decode cX8_sizeOf 0 = .ok (.aload_n 0, 1) := by decide +kernel
theorem gdX8_sizeOf_1 : decode cX8_sizeOf 1 = .ok (.getfield 9, 3) := by decide +kernel
theorem gdX8_sizeOf_4 : decode cX8_sizeOf 4 = .ok (.iload_n 1, 1) := by decide +kernel
theorem gdX8_sizeOf_5 : decode cX8_sizeOf 5 = .ok (.iaload, 1) := by decide +kernel
theorem gdX8_sizeOf_6 : decode cX8_sizeOf 6 = .ok (.ireturn, 1) := by decide +kernel
theorem gdX8_at_0 : decode cX8_at 0 = .ok (.aload_n 0, 1) := by decide +kernel
theorem gdX8_at_1 : decode cX8_at 1 = .ok (.getfield 13, 3) := by decide +kernel
theorem gdX8_at_4 : decode cX8_at 4 = .ok (.iload_n 1, 1) := by decide +kernel
theorem gdX8_at_5 : decode cX8_at 5 = .ok (.bipush 40, 2) := by decide +kernel
theorem gdX8_at_7 : decode cX8_at 7 = .ok (.imul, 1) := by decide +kernel
theorem gdX8_at_8 : decode cX8_at 8 = .ok (.iload_n 2, 1) := by decide +kernel
theorem gdX8_at_9 : decode cX8_at 9 = .ok (.iadd, 1) := by decide +kernel
theorem gdX8_at_10 : decode cX8_at 10 = .ok (.iaload, 1) := by decide +kernel
theorem gdX8_at_11 : decode cX8_at 11 = .ok (.ireturn, 1) := by decide +kernel
theorem gdX0_isAhead_20 : decode cX0_isAhead 20 = .ok (.ireturn, 1) := by decide +kernel
theorem gdX0_isAhead_15 : decode cX0_isAhead 15 = .ok (.iconst 1, 1) := by decide +kernel
theorem gdX0_isAhead_16 : decode cX0_isAhead 16 = .ok (.goto 4, 3) := by decide +kernel
theorem gdX0_isAhead_19 : decode cX0_isAhead 19 = .ok (.iconst 0, 1) := by decide +kernel
theorem gdX0_isAhead_0 : decode cX0_isAhead 0 = .ok (.iload_n 0, 1) := by decide +kernel
theorem gdX0_isAhead_1 : decode cX0_isAhead 1 = .ok (.bipush (-9), 2) := by decide +kernel
theorem gdX0_isAhead_3 : decode cX0_isAhead 3 = .ok (.if_icmp .eq 12, 3) := by decide +kernel
theorem gdX0_isAhead_6 : decode cX0_isAhead 6 = .ok (.iload_n 0, 1) := by decide +kernel
theorem gdX0_isAhead_7 : decode cX0_isAhead 7 = .ok (.ifCond .lt 12, 3) := by decide +kernel
theorem gdX0_isAhead_10 : decode cX0_isAhead 10 = .ok (.iload_n 0, 1) := by decide +kernel
theorem gdX0_isAhead_11 : decode cX0_isAhead 11 = .ok (.iload_n 1, 1) := by decide +kernel
theorem gdX0_isAhead_12 : decode cX0_isAhead 12 = .ok (.if_icmp .ge 7, 3) := by decide +kernel
theorem gdJ7_fill_53178_20 : decode cJ7_fill_53178 20 = .ok (.return_, 1) := by decide +kernel
theorem gdJ7_fill_53178_5 : decode cJ7_fill_53178 5 = .ok (.iload_n 2, 1) := by decide +kernel
theorem gdJ7_fill_53178_6 : decode cJ7_fill_53178 6 = .ok (.iload_n 3, 1) := by decide +kernel
theorem gdJ7_fill_53178_7 : decode cJ7_fill_53178 7 = .ok (.if_icmp .ge 13, 3) := by decide +kernel
theorem gdJ7_fill_53178_10 : decode cJ7_fill_53178 10 = .ok (.aload_n 0, 1) := by decide +kernel
theorem gdJ7_fill_53178_11 : decode cJ7_fill_53178 11 = .ok (.iload_n 2, 1) := by decide +kernel
theorem gdJ7_fill_53178_12 : decode cJ7_fill_53178 12 = .ok (.iload_n 1, 1) := by decide +kernel
theorem gdJ7_fill_53178_13 : decode cJ7_fill_53178 13 = .ok (.iastore, 1) := by decide +kernel
theorem gdJ7_fill_53178_14 : decode cJ7_fill_53178 14 = .ok (.iinc 2 1, 3) := by decide +kernel
theorem gdJ7_fill_53178_17 : decode cJ7_fill_53178 17 = .ok (.goto (-12), 3) := by decide +kernel
theorem gdJ7_fill_53178_0 : decode cJ7_fill_53178 0 = .ok (.iconst 0, 1) := by decide +kernel
theorem gdJ7_fill_53178_1 : decode cJ7_fill_53178 1 = .ok (.istore_n 2, 1) := by decide +kernel
theorem gdJ7_fill_53178_2 : decode cJ7_fill_53178 2 = .ok (.aload_n 0, 1) := by decide +kernel
theorem gdJ7_fill_53178_3 : decode cJ7_fill_53178 3 = .ok (.arraylength, 1) := by decide +kernel
theorem gdJ7_fill_53178_4 : decode cJ7_fill_53178 4 = .ok (.istore_n 3, 1) := by decide +kernel
theorem gdX0_isOpen_22 : decode cX0_isOpen 22 = .ok (.ireturn, 1) := by decide +kernel
theorem gdX0_isOpen_21 : decode cX0_isOpen 21 = .ok (.iconst 0, 1) := by decide +kernel
theorem gdX0_isOpen_0 : decode cX0_isOpen 0 = .ok (.iload_n 1, 1) := by decide +kernel
theorem gdX0_isOpen_1 : decode cX0_isOpen 1 = .ok (.bipush (-9), 2) := by decide +kernel
theorem gdX0_isOpen_3 : decode cX0_isOpen 3 = .ok (.if_icmp .eq 18, 3) := by decide +kernel
theorem gdX0_isOpen_6 : decode cX0_isOpen 6 = .ok (.aload_n 0, 1) := by decide +kernel
theorem gdX0_isOpen_7 : decode cX0_isOpen 7 = .ok (.getfield 18, 3) := by decide +kernel
theorem gdX0_isOpen_10 : decode cX0_isOpen 10 = .ok (.iload_n 1, 1) := by decide +kernel
theorem gdX0_isOpen_11 : decode cX0_isOpen 11 = .ok (.iaload, 1) := by decide +kernel
theorem gdX0_isOpen_12 : decode cX0_isOpen 12 = .ok (.bipush (-9), 2) := by decide +kernel
theorem gdX0_isOpen_14 : decode cX0_isOpen 14 = .ok (.if_icmp .ne 7, 3) := by decide +kernel
theorem gdX0_isOpen_17 : decode cX0_isOpen 17 = .ok (.iconst 1, 1) := by decide +kernel
theorem gdX0_isOpen_18 : decode cX0_isOpen 18 = .ok (.goto 4, 3) := by decide +kernel
theorem gdX0_endAhead_16 : decode cX0_endAhead 16 = .ok (.ireturn, 1) := by decide +kernel
theorem gdX0_endAhead_0 : decode cX0_endAhead 0 = .ok (.iload_n 1, 1) := by decide +kernel
theorem gdX0_endAhead_1 : decode cX0_endAhead 1 = .ok (.bipush (-9), 2) := by decide +kernel
theorem gdX0_endAhead_3 : decode cX0_endAhead 3 = .ok (.if_icmp .ne 7, 3) := by decide +kernel
theorem gdX0_endAhead_10 : decode cX0_endAhead 10 = .ok (.aload_n 0, 1) := by decide +kernel
theorem gdX0_endAhead_11 : decode cX0_endAhead 11 = .ok (.getfield 18, 3) := by decide +kernel
theorem gdX0_endAhead_14 : decode cX0_endAhead 14 = .ok (.iload_n 1, 1) := by decide +kernel
theorem gdX0_endAhead_15 : decode cX0_endAhead 15 = .ok (.iaload, 1) := by decide +kernel
theorem gdX0_endAhead_6 : decode cX0_endAhead 6 = .ok (.iconst 0, 1) := by decide +kernel
theorem gdX0_endAhead_7 : decode cX0_endAhead 7 = .ok (.goto 9, 3) := by decide +kernel
theorem gdX0_drawEnds_171 : decode cX0_drawEnds 171 = .ok (.ireturn, 1) := by decide +kernel
theorem gdX0_drawEnds_160 : decode cX0_drawEnds 160 = .ok (.iload 5, 2) := by decide +kernel
theorem gdX0_drawEnds_162 : decode cX0_drawEnds 162 = .ok (.iload_n 3, 1) := by decide +kernel
theorem gdX0_drawEnds_163 : decode cX0_drawEnds 163 = .ok (.if_icmp .ne 7, 3) := by decide +kernel
theorem gdX0_drawEnds_170 : decode cX0_drawEnds 170 = .ok (.iconst 0, 1) := by decide +kernel
theorem gdX0_drawEnds_166 : decode cX0_drawEnds 166 = .ok (.iconst 1, 1) := by decide +kernel
theorem gdX0_drawEnds_167 : decode cX0_drawEnds 167 = .ok (.goto 4, 3) := by decide +kernel
theorem gdX0_drawEnds_154 : decode cX0_drawEnds 154 = .ok (.iinc 6 1, 3) := by decide +kernel
theorem gdX0_drawEnds_157 : decode cX0_drawEnds 157 = .ok (.goto (-142), 3) := by decide +kernel
theorem gdX0_drawEnds_148 : decode cX0_drawEnds 148 = .ok (.iinc 7 1, 3) := by decide +kernel
theorem gdX0_drawEnds_151 : decode cX0_drawEnds 151 = .ok (.goto (-121), 3) := by decide +kernel
theorem gdX0_drawEnds_30 : decode cX0_drawEnds 30 = .ok (.iload 7, 2) := by decide +kernel
theorem gdX0_drawEnds_32 : decode cX0_drawEnds 32 = .ok (.iload_n 3, 1) := by decide +kernel
theorem gdX0_drawEnds_33 : decode cX0_drawEnds 33 = .ok (.if_icmp .ge 121, 3) := by decide +kernel
theorem gdX0_drawEnds_36 : decode cX0_drawEnds 36 = .ok (.aload_n 1, 1) := by decide +kernel
theorem gdX0_drawEnds_37 : decode cX0_drawEnds 37 = .ok (.iload_n 2, 1) := by decide +kernel
theorem gdX0_drawEnds_38 : decode cX0_drawEnds 38 = .ok (.iconst 3, 1) := by decide +kernel
theorem gdX0_drawEnds_39 : decode cX0_drawEnds 39 = .ok (.iload 7, 2) := by decide +kernel
theorem gdX0_drawEnds_41 : decode cX0_drawEnds 41 = .ok (.imul, 1) := by decide +kernel
theorem gdX0_drawEnds_42 : decode cX0_drawEnds 42 = .ok (.iconst 1, 1) := by decide +kernel
theorem gdX0_drawEnds_43 : decode cX0_drawEnds 43 = .ok (.iadd, 1) := by decide +kernel
theorem gdX0_drawEnds_44 : decode cX0_drawEnds 44 = .ok (.invokevirtual 34, 3) := by decide +kernel
theorem gdX0_drawEnds_47 : decode cX0_drawEnds 47 = .ok (.istore 8, 2) := by decide +kernel
theorem gdX0_drawEnds_49 : decode cX0_drawEnds 49 = .ok (.aload_n 1, 1) := by decide +kernel
theorem gdX0_drawEnds_50 : decode cX0_drawEnds 50 = .ok (.iload_n 2, 1) := by decide +kernel
theorem gdX0_drawEnds_51 : decode cX0_drawEnds 51 = .ok (.iconst 3, 1) := by decide +kernel
theorem gdX0_drawEnds_52 : decode cX0_drawEnds 52 = .ok (.iload 7, 2) := by decide +kernel
theorem gdX0_drawEnds_54 : decode cX0_drawEnds 54 = .ok (.imul, 1) := by decide +kernel
theorem gdX0_drawEnds_55 : decode cX0_drawEnds 55 = .ok (.iconst 2, 1) := by decide +kernel
theorem gdX0_drawEnds_56 : decode cX0_drawEnds 56 = .ok (.iadd, 1) := by decide +kernel
theorem gdX0_drawEnds_57 : decode cX0_drawEnds 57 = .ok (.invokevirtual 34, 3) := by decide +kernel
theorem gdX0_drawEnds_60 : decode cX0_drawEnds 60 = .ok (.istore 9, 2) := by decide +kernel
theorem gdX0_drawEnds_62 : decode cX0_drawEnds 62 = .ok (.aload_n 0, 1) := by decide +kernel
theorem gdX0_drawEnds_63 : decode cX0_drawEnds 63 = .ok (.getfield 18, 3) := by decide +kernel
theorem gdX0_drawEnds_66 : decode cX0_drawEnds 66 = .ok (.iload 7, 2) := by decide +kernel
theorem gdX0_drawEnds_68 : decode cX0_drawEnds 68 = .ok (.iaload, 1) := by decide +kernel
theorem gdX0_drawEnds_69 : decode cX0_drawEnds 69 = .ok (.bipush (-9), 2) := by decide +kernel
theorem gdX0_drawEnds_71 : decode cX0_drawEnds 71 = .ok (.if_icmp .ne 77, 3) := by decide +kernel
theorem gdX0_drawEnds_74 : decode cX0_drawEnds 74 = .ok (.aload_n 0, 1) := by decide +kernel
theorem gdX0_drawEnds_75 : decode cX0_drawEnds 75 = .ok (.iload 8, 2) := by decide +kernel
theorem gdX0_drawEnds_77 : decode cX0_drawEnds 77 = .ok (.invokevirtual 60, 3) := by decide +kernel
theorem gdX0_drawEnds_80 : decode cX0_drawEnds 80 = .ok (.ifCond .ne 68, 3) := by decide +kernel
theorem gdX0_drawEnds_83 : decode cX0_drawEnds 83 = .ok (.aload_n 0, 1) := by decide +kernel
theorem gdX0_drawEnds_84 : decode cX0_drawEnds 84 = .ok (.iload 9, 2) := by decide +kernel
theorem gdX0_drawEnds_86 : decode cX0_drawEnds 86 = .ok (.invokevirtual 60, 3) := by decide +kernel
theorem gdX0_drawEnds_89 : decode cX0_drawEnds 89 = .ok (.ifCond .eq 6, 3) := by decide +kernel
theorem gdX0_drawEnds_95 : decode cX0_drawEnds 95 = .ok (.iload 4, 2) := by decide +kernel
theorem gdX0_drawEnds_97 : decode cX0_drawEnds 97 = .ok (.aload_n 0, 1) := by decide +kernel
theorem gdX0_drawEnds_98 : decode cX0_drawEnds 98 = .ok (.iload 8, 2) := by decide +kernel
theorem gdX0_drawEnds_100 : decode cX0_drawEnds 100 = .ok (.invokevirtual 64, 3) := by decide +kernel
theorem gdX0_drawEnds_103 : decode cX0_drawEnds 103 = .ok (.aload_n 0, 1) := by decide +kernel
theorem gdX0_drawEnds_104 : decode cX0_drawEnds 104 = .ok (.iload 9, 2) := by decide +kernel
theorem gdX0_drawEnds_106 : decode cX0_drawEnds 106 = .ok (.invokevirtual 64, 3) := by decide +kernel
theorem gdX0_drawEnds_109 : decode cX0_drawEnds 109 = .ok (.invokestatic 67, 3) := by decide +kernel
theorem gdX0_drawEnds_112 : decode cX0_drawEnds 112 = .ok (.invokestatic 67, 3) := by decide +kernel
theorem gdX0_drawEnds_115 : decode cX0_drawEnds 115 = .ok (.istore 10, 2) := by decide +kernel
theorem gdX0_drawEnds_117 : decode cX0_drawEnds 117 = .ok (.aload_n 0, 1) := by decide +kernel
theorem gdX0_drawEnds_118 : decode cX0_drawEnds 118 = .ok (.getfield 18, 3) := by decide +kernel
theorem gdX0_drawEnds_121 : decode cX0_drawEnds 121 = .ok (.iload 7, 2) := by decide +kernel
theorem gdX0_drawEnds_123 : decode cX0_drawEnds 123 = .ok (.iload 10, 2) := by decide +kernel
theorem gdX0_drawEnds_125 : decode cX0_drawEnds 125 = .ok (.aload_n 1, 1) := by decide +kernel
theorem gdX0_drawEnds_126 : decode cX0_drawEnds 126 = .ok (.iload_n 2, 1) := by decide +kernel
theorem gdX0_drawEnds_127 : decode cX0_drawEnds 127 = .ok (.iconst 3, 1) := by decide +kernel
theorem gdX0_drawEnds_128 : decode cX0_drawEnds 128 = .ok (.iload 7, 2) := by decide +kernel
theorem gdX0_drawEnds_130 : decode cX0_drawEnds 130 = .ok (.imul, 1) := by decide +kernel
theorem gdX0_drawEnds_131 : decode cX0_drawEnds 131 = .ok (.invokevirtual 34, 3) := by decide +kernel
theorem gdX0_drawEnds_134 : decode cX0_drawEnds 134 = .ok (.iadd, 1) := by decide +kernel
theorem gdX0_drawEnds_135 : decode cX0_drawEnds 135 = .ok (.iastore, 1) := by decide +kernel
theorem gdX0_drawEnds_136 : decode cX0_drawEnds 136 = .ok (.aload_n 0, 1) := by decide +kernel
theorem gdX0_drawEnds_137 : decode cX0_drawEnds 137 = .ok (.getfield 21, 3) := by decide +kernel
theorem gdX0_drawEnds_140 : decode cX0_drawEnds 140 = .ok (.iload 5, 2) := by decide +kernel
theorem gdX0_drawEnds_142 : decode cX0_drawEnds 142 = .ok (.iload 7, 2) := by decide +kernel
theorem gdX0_drawEnds_144 : decode cX0_drawEnds 144 = .ok (.iastore, 1) := by decide +kernel
theorem gdX0_drawEnds_145 : decode cX0_drawEnds 145 = .ok (.iinc 5 1, 3) := by decide +kernel
theorem gdX0_drawEnds_92 : decode cX0_drawEnds 92 = .ok (.goto 56, 3) := by decide +kernel
theorem gdX0_drawEnds_15 : decode cX0_drawEnds 15 = .ok (.iload 6, 2) := by decide +kernel
theorem gdX0_drawEnds_17 : decode cX0_drawEnds 17 = .ok (.iload_n 3, 1) := by decide +kernel
theorem gdX0_drawEnds_18 : decode cX0_drawEnds 18 = .ok (.if_icmp .ge 142, 3) := by decide +kernel
theorem gdX0_drawEnds_21 : decode cX0_drawEnds 21 = .ok (.iload 5, 2) := by decide +kernel
theorem gdX0_drawEnds_23 : decode cX0_drawEnds 23 = .ok (.iload_n 3, 1) := by decide +kernel
theorem gdX0_drawEnds_24 : decode cX0_drawEnds 24 = .ok (.if_icmp .ge 136, 3) := by decide +kernel
theorem gdX0_drawEnds_27 : decode cX0_drawEnds 27 = .ok (.iconst 0, 1) := by decide +kernel
theorem gdX0_drawEnds_28 : decode cX0_drawEnds 28 = .ok (.istore 7, 2) := by decide +kernel
theorem gdX0_drawEnds_0 : decode cX0_drawEnds 0 = .ok (.aload_n 0, 1) := by decide +kernel
theorem gdX0_drawEnds_1 : decode cX0_drawEnds 1 = .ok (.getfield 18, 3) := by decide +kernel
theorem gdX0_drawEnds_4 : decode cX0_drawEnds 4 = .ok (.bipush (-9), 2) := by decide +kernel
theorem gdX0_drawEnds_6 : decode cX0_drawEnds 6 = .ok (.invokestatic 54, 3) := by decide +kernel
theorem gdX0_drawEnds_9 : decode cX0_drawEnds 9 = .ok (.iconst 0, 1) := by decide +kernel
theorem gdX0_drawEnds_10 : decode cX0_drawEnds 10 = .ok (.istore 5, 2) := by decide +kernel
theorem gdX0_drawEnds_12 : decode cX0_drawEnds 12 = .ok (.iconst 0, 1) := by decide +kernel
theorem gdX0_drawEnds_13 : decode cX0_drawEnds 13 = .ok (.istore 6, 2) := by decide +kernel
theorem gdX0_keep_75 : decode cX0_keep 75 = .ok (.return_, 1) := by decide +kernel
theorem gdX0_keep_54 : decode cX0_keep 54 = .ok (.iload_n 2, 1) := by decide +kernel
theorem gdX0_keep_55 : decode cX0_keep 55 = .ok (.iload_n 1, 1) := by decide +kernel
theorem gdX0_keep_56 : decode cX0_keep 56 = .ok (.if_icmp .ge 19, 3) := by decide +kernel
theorem gdX0_keep_59 : decode cX0_keep 59 = .ok (.aload_n 0, 1) := by decide +kernel
theorem gdX0_keep_60 : decode cX0_keep 60 = .ok (.getfield 15, 3) := by decide +kernel
theorem gdX0_keep_63 : decode cX0_keep 63 = .ok (.iload_n 2, 1) := by decide +kernel
theorem gdX0_keep_64 : decode cX0_keep 64 = .ok (.aload_n 0, 1) := by decide +kernel
theorem gdX0_keep_65 : decode cX0_keep 65 = .ok (.getfield 72, 3) := by decide +kernel
theorem gdX0_keep_68 : decode cX0_keep 68 = .ok (.iastore, 1) := by decide +kernel
theorem gdX0_keep_69 : decode cX0_keep 69 = .ok (.iinc 2 1, 3) := by decide +kernel
theorem gdX0_keep_72 : decode cX0_keep 72 = .ok (.goto (-18), 3) := by decide +kernel
theorem gdX0_keep_52 : decode cX0_keep 52 = .ok (.iconst 0, 1) := by decide +kernel
theorem gdX0_keep_53 : decode cX0_keep 53 = .ok (.istore_n 2, 1) := by decide +kernel
theorem gdX0_keep_12 : decode cX0_keep 12 = .ok (.iload_n 2, 1) := by decide +kernel
theorem gdX0_keep_13 : decode cX0_keep 13 = .ok (.iload_n 1, 1) := by decide +kernel
theorem gdX0_keep_14 : decode cX0_keep 14 = .ok (.if_icmp .ge 38, 3) := by decide +kernel
theorem gdX0_keep_17 : decode cX0_keep 17 = .ok (.aload_n 0, 1) := by decide +kernel
theorem gdX0_keep_18 : decode cX0_keep 18 = .ok (.getfield 11, 3) := by decide +kernel
theorem gdX0_keep_21 : decode cX0_keep 21 = .ok (.iload_n 2, 1) := by decide +kernel
theorem gdX0_keep_22 : decode cX0_keep 22 = .ok (.aload_n 0, 1) := by decide +kernel
theorem gdX0_keep_23 : decode cX0_keep 23 = .ok (.getfield 18, 3) := by decide +kernel
theorem gdX0_keep_26 : decode cX0_keep 26 = .ok (.iload_n 2, 1) := by decide +kernel
theorem gdX0_keep_27 : decode cX0_keep 27 = .ok (.iaload, 1) := by decide +kernel
theorem gdX0_keep_28 : decode cX0_keep 28 = .ok (.iastore, 1) := by decide +kernel
theorem gdX0_keep_29 : decode cX0_keep 29 = .ok (.aload_n 0, 1) := by decide +kernel
theorem gdX0_keep_30 : decode cX0_keep 30 = .ok (.aload_n 0, 1) := by decide +kernel
theorem gdX0_keep_31 : decode cX0_keep 31 = .ok (.getfield 72, 3) := by decide +kernel
theorem gdX0_keep_34 : decode cX0_keep 34 = .ok (.aload_n 0, 1) := by decide +kernel
theorem gdX0_keep_35 : decode cX0_keep 35 = .ok (.getfield 18, 3) := by decide +kernel
theorem gdX0_keep_38 : decode cX0_keep 38 = .ok (.iload_n 2, 1) := by decide +kernel
theorem gdX0_keep_39 : decode cX0_keep 39 = .ok (.iaload, 1) := by decide +kernel
theorem gdX0_keep_40 : decode cX0_keep 40 = .ok (.invokestatic 67, 3) := by decide +kernel
theorem gdX0_keep_43 : decode cX0_keep 43 = .ok (.putfield 72, 3) := by decide +kernel
theorem gdX0_keep_46 : decode cX0_keep 46 = .ok (.iinc 2 1, 3) := by decide +kernel
theorem gdX0_keep_49 : decode cX0_keep 49 = .ok (.goto (-37), 3) := by decide +kernel
theorem gdX0_keep_0 : decode cX0_keep 0 = .ok (.aload_n 0, 1) := by decide +kernel
theorem gdX0_keep_1 : decode cX0_keep 1 = .ok (.iload_n 1, 1) := by decide +kernel
theorem gdX0_keep_2 : decode cX0_keep 2 = .ok (.putfield 24, 3) := by decide +kernel
theorem gdX0_keep_5 : decode cX0_keep 5 = .ok (.aload_n 0, 1) := by decide +kernel
theorem gdX0_keep_6 : decode cX0_keep 6 = .ok (.iconst 0, 1) := by decide +kernel
theorem gdX0_keep_7 : decode cX0_keep 7 = .ok (.putfield 72, 3) := by decide +kernel
theorem gdX0_keep_10 : decode cX0_keep 10 = .ok (.iconst 0, 1) := by decide +kernel
theorem gdX0_keep_11 : decode cX0_keep 11 = .ok (.istore_n 2, 1) := by decide +kernel
theorem gdX0_holdBack_22 : decode cX0_holdBack 22 = .ok (.return_, 1) := by decide +kernel
theorem gdX0_holdBack_0 : decode cX0_holdBack 0 = .ok (.iload_n 1, 1) := by decide +kernel
theorem gdX0_holdBack_1 : decode cX0_holdBack 1 = .ok (.bipush (-9), 2) := by decide +kernel
theorem gdX0_holdBack_3 : decode cX0_holdBack 3 = .ok (.if_icmp .eq 19, 3) := by decide +kernel
theorem gdX0_holdBack_6 : decode cX0_holdBack 6 = .ok (.aload_n 0, 1) := by decide +kernel
theorem gdX0_holdBack_7 : decode cX0_holdBack 7 = .ok (.getfield 15, 3) := by decide +kernel
theorem gdX0_holdBack_10 : decode cX0_holdBack 10 = .ok (.iload_n 1, 1) := by decide +kernel
theorem gdX0_holdBack_11 : decode cX0_holdBack 11 = .ok (.aload_n 0, 1) := by decide +kernel
theorem gdX0_holdBack_12 : decode cX0_holdBack 12 = .ok (.getfield 15, 3) := by decide +kernel
theorem gdX0_holdBack_15 : decode cX0_holdBack 15 = .ok (.iload_n 1, 1) := by decide +kernel
theorem gdX0_holdBack_16 : decode cX0_holdBack 16 = .ok (.iaload, 1) := by decide +kernel
theorem gdX0_holdBack_17 : decode cX0_holdBack 17 = .ok (.iload_n 2, 1) := by decide +kernel
theorem gdX0_holdBack_18 : decode cX0_holdBack 18 = .ok (.invokestatic 79, 3) := by decide +kernel
theorem gdX0_holdBack_21 : decode cX0_holdBack 21 = .ok (.iastore, 1) := by decide +kernel
theorem gdX0_drawLatest_78 : decode cX0_drawLatest 78 = .ok (.return_, 1) := by decide +kernel
theorem gdX0_drawLatest_7 : decode cX0_drawLatest 7 = .ok (.iload_n 3, 1) := by decide +kernel
theorem gdX0_drawLatest_8 : decode cX0_drawLatest 8 = .ok (.ifCond .lt 70, 3) := by decide +kernel
theorem gdX0_drawLatest_11 : decode cX0_drawLatest 11 = .ok (.aload_n 0, 1) := by decide +kernel
theorem gdX0_drawLatest_12 : decode cX0_drawLatest 12 = .ok (.getfield 21, 3) := by decide +kernel
theorem gdX0_drawLatest_15 : decode cX0_drawLatest 15 = .ok (.iload_n 3, 1) := by decide +kernel
theorem gdX0_drawLatest_16 : decode cX0_drawLatest 16 = .ok (.iaload, 1) := by decide +kernel
theorem gdX0_drawLatest_17 : decode cX0_drawLatest 17 = .ok (.istore 4, 2) := by decide +kernel
theorem gdX0_drawLatest_19 : decode cX0_drawLatest 19 = .ok (.aload_n 0, 1) := by decide +kernel
theorem gdX0_drawLatest_20 : decode cX0_drawLatest 20 = .ok (.getfield 15, 3) := by decide +kernel
theorem gdX0_drawLatest_23 : decode cX0_drawLatest 23 = .ok (.iload 4, 2) := by decide +kernel
theorem gdX0_drawLatest_25 : decode cX0_drawLatest 25 = .ok (.iaload, 1) := by decide +kernel
theorem gdX0_drawLatest_26 : decode cX0_drawLatest 26 = .ok (.aload_n 1, 1) := by decide +kernel
theorem gdX0_drawLatest_27 : decode cX0_drawLatest 27 = .ok (.iload_n 2, 1) := by decide +kernel
theorem gdX0_drawLatest_28 : decode cX0_drawLatest 28 = .ok (.iconst 3, 1) := by decide +kernel
theorem gdX0_drawLatest_29 : decode cX0_drawLatest 29 = .ok (.iload 4, 2) := by decide +kernel
theorem gdX0_drawLatest_31 : decode cX0_drawLatest 31 = .ok (.imul, 1) := by decide +kernel
theorem gdX0_drawLatest_32 : decode cX0_drawLatest 32 = .ok (.invokevirtual 34, 3) := by decide +kernel
theorem gdX0_drawLatest_35 : decode cX0_drawLatest 35 = .ok (.isub, 1) := by decide +kernel
theorem gdX0_drawLatest_36 : decode cX0_drawLatest 36 = .ok (.istore 5, 2) := by decide +kernel
theorem gdX0_drawLatest_38 : decode cX0_drawLatest 38 = .ok (.aload_n 0, 1) := by decide +kernel
theorem gdX0_drawLatest_39 : decode cX0_drawLatest 39 = .ok (.aload_n 1, 1) := by decide +kernel
theorem gdX0_drawLatest_40 : decode cX0_drawLatest 40 = .ok (.iload_n 2, 1) := by decide +kernel
theorem gdX0_drawLatest_41 : decode cX0_drawLatest 41 = .ok (.iconst 3, 1) := by decide +kernel
theorem gdX0_drawLatest_42 : decode cX0_drawLatest 42 = .ok (.iload 4, 2) := by decide +kernel
theorem gdX0_drawLatest_44 : decode cX0_drawLatest 44 = .ok (.imul, 1) := by decide +kernel
theorem gdX0_drawLatest_45 : decode cX0_drawLatest 45 = .ok (.iconst 1, 1) := by decide +kernel
theorem gdX0_drawLatest_46 : decode cX0_drawLatest 46 = .ok (.iadd, 1) := by decide +kernel
theorem gdX0_drawLatest_47 : decode cX0_drawLatest 47 = .ok (.invokevirtual 34, 3) := by decide +kernel
theorem gdX0_drawLatest_50 : decode cX0_drawLatest 50 = .ok (.iload 5, 2) := by decide +kernel
theorem gdX0_drawLatest_52 : decode cX0_drawLatest 52 = .ok (.invokevirtual 75, 3) := by decide +kernel
theorem gdX0_drawLatest_55 : decode cX0_drawLatest 55 = .ok (.aload_n 0, 1) := by decide +kernel
theorem gdX0_drawLatest_56 : decode cX0_drawLatest 56 = .ok (.aload_n 1, 1) := by decide +kernel
theorem gdX0_drawLatest_57 : decode cX0_drawLatest 57 = .ok (.iload_n 2, 1) := by decide +kernel
theorem gdX0_drawLatest_58 : decode cX0_drawLatest 58 = .ok (.iconst 3, 1) := by decide +kernel
theorem gdX0_drawLatest_59 : decode cX0_drawLatest 59 = .ok (.iload 4, 2) := by decide +kernel
theorem gdX0_drawLatest_61 : decode cX0_drawLatest 61 = .ok (.imul, 1) := by decide +kernel
theorem gdX0_drawLatest_62 : decode cX0_drawLatest 62 = .ok (.iconst 2, 1) := by decide +kernel
theorem gdX0_drawLatest_63 : decode cX0_drawLatest 63 = .ok (.iadd, 1) := by decide +kernel
theorem gdX0_drawLatest_64 : decode cX0_drawLatest 64 = .ok (.invokevirtual 34, 3) := by decide +kernel
theorem gdX0_drawLatest_67 : decode cX0_drawLatest 67 = .ok (.iload 5, 2) := by decide +kernel
theorem gdX0_drawLatest_69 : decode cX0_drawLatest 69 = .ok (.invokevirtual 75, 3) := by decide +kernel
theorem gdX0_drawLatest_72 : decode cX0_drawLatest 72 = .ok (.iinc 3 (-1), 3) := by decide +kernel
theorem gdX0_drawLatest_75 : decode cX0_drawLatest 75 = .ok (.goto (-68), 3) := by decide +kernel
theorem gdX0_drawLatest_0 : decode cX0_drawLatest 0 = .ok (.aload_n 0, 1) := by decide +kernel
theorem gdX0_drawLatest_1 : decode cX0_drawLatest 1 = .ok (.getfield 24, 3) := by decide +kernel
theorem gdX0_drawLatest_4 : decode cX0_drawLatest 4 = .ok (.iconst 1, 1) := by decide +kernel
theorem gdX0_drawLatest_5 : decode cX0_drawLatest 5 = .ok (.isub, 1) := by decide +kernel
theorem gdX0_drawLatest_6 : decode cX0_drawLatest 6 = .ok (.istore_n 3, 1) := by decide +kernel
theorem gdX0_draw_43 : decode cX0_draw 43 = .ok (.iconst 0, 1) := by decide +kernel
theorem gdX0_draw_44 : decode cX0_draw 44 = .ok (.ireturn, 1) := by decide +kernel
theorem gdX0_draw_83 : decode cX0_draw 83 = .ok (.iconst 0, 1) := by decide +kernel
theorem gdX0_draw_84 : decode cX0_draw 84 = .ok (.ireturn, 1) := by decide +kernel
theorem gdX0_draw_91 : decode cX0_draw 91 = .ok (.aload_n 0, 1) := by decide +kernel
theorem gdX0_draw_92 : decode cX0_draw 92 = .ok (.aload_n 1, 1) := by decide +kernel
theorem gdX0_draw_93 : decode cX0_draw 93 = .ok (.iload_n 2, 1) := by decide +kernel
theorem gdX0_draw_94 : decode cX0_draw 94 = .ok (.iload 4, 2) := by decide +kernel
theorem gdX0_draw_96 : decode cX0_draw 96 = .ok (.iload_n 3, 1) := by decide +kernel
theorem gdX0_draw_97 : decode cX0_draw 97 = .ok (.invokevirtual 42, 3) := by decide +kernel
theorem gdX0_draw_100 : decode cX0_draw 100 = .ok (.ifCond .ne 5, 3) := by decide +kernel
theorem gdX0_draw_105 : decode cX0_draw 105 = .ok (.aload_n 0, 1) := by decide +kernel
theorem gdX0_draw_106 : decode cX0_draw 106 = .ok (.iload 4, 2) := by decide +kernel
theorem gdX0_draw_108 : decode cX0_draw 108 = .ok (.invokevirtual 46, 3) := by decide +kernel
theorem gdX0_draw_111 : decode cX0_draw 111 = .ok (.aload_n 0, 1) := by decide +kernel
theorem gdX0_draw_112 : decode cX0_draw 112 = .ok (.aload_n 1, 1) := by decide +kernel
theorem gdX0_draw_113 : decode cX0_draw 113 = .ok (.iload_n 2, 1) := by decide +kernel
theorem gdX0_draw_114 : decode cX0_draw 114 = .ok (.invokevirtual 50, 3) := by decide +kernel
theorem gdX0_draw_117 : decode cX0_draw 117 = .ok (.iconst 1, 1) := by decide +kernel
theorem gdX0_draw_118 : decode cX0_draw 118 = .ok (.ireturn, 1) := by decide +kernel
theorem gdX0_draw_103 : decode cX0_draw 103 = .ok (.iconst 0, 1) := by decide +kernel
theorem gdX0_draw_104 : decode cX0_draw 104 = .ok (.ireturn, 1) := by decide +kernel
theorem gdX0_draw_12 : decode cX0_draw 12 = .ok (.iload 5, 2) := by decide +kernel
theorem gdX0_draw_14 : decode cX0_draw 14 = .ok (.iload 4, 2) := by decide +kernel
theorem gdX0_draw_16 : decode cX0_draw 16 = .ok (.if_icmp .ge 75, 3) := by decide +kernel
theorem gdX0_draw_19 : decode cX0_draw 19 = .ok (.aload_n 1, 1) := by decide +kernel
theorem gdX0_draw_20 : decode cX0_draw 20 = .ok (.iload_n 2, 1) := by decide +kernel
theorem gdX0_draw_21 : decode cX0_draw 21 = .ok (.iconst 3, 1) := by decide +kernel
theorem gdX0_draw_22 : decode cX0_draw 22 = .ok (.iload 5, 2) := by decide +kernel
theorem gdX0_draw_24 : decode cX0_draw 24 = .ok (.imul, 1) := by decide +kernel
theorem gdX0_draw_25 : decode cX0_draw 25 = .ok (.invokevirtual 34, 3) := by decide +kernel
theorem gdX0_draw_28 : decode cX0_draw 28 = .ok (.istore 6, 2) := by decide +kernel
theorem gdX0_draw_30 : decode cX0_draw 30 = .ok (.iload 6, 2) := by decide +kernel
theorem gdX0_draw_32 : decode cX0_draw 32 = .ok (.ifCond .lt 11, 3) := by decide +kernel
theorem gdX0_draw_35 : decode cX0_draw 35 = .ok (.iload 6, 2) := by decide +kernel
theorem gdX0_draw_37 : decode cX0_draw 37 = .ok (.sipush 200, 3) := by decide +kernel
theorem gdX0_draw_40 : decode cX0_draw 40 = .ok (.if_icmp .le 5, 3) := by decide +kernel
theorem gdX0_draw_45 : decode cX0_draw 45 = .ok (.aload_n 1, 1) := by decide +kernel
theorem gdX0_draw_46 : decode cX0_draw 46 = .ok (.iload_n 2, 1) := by decide +kernel
theorem gdX0_draw_47 : decode cX0_draw 47 = .ok (.iconst 3, 1) := by decide +kernel
theorem gdX0_draw_48 : decode cX0_draw 48 = .ok (.iload 5, 2) := by decide +kernel
theorem gdX0_draw_50 : decode cX0_draw 50 = .ok (.imul, 1) := by decide +kernel
theorem gdX0_draw_51 : decode cX0_draw 51 = .ok (.iconst 1, 1) := by decide +kernel
theorem gdX0_draw_52 : decode cX0_draw 52 = .ok (.iadd, 1) := by decide +kernel
theorem gdX0_draw_53 : decode cX0_draw 53 = .ok (.invokevirtual 34, 3) := by decide +kernel
theorem gdX0_draw_56 : decode cX0_draw 56 = .ok (.iload 4, 2) := by decide +kernel
theorem gdX0_draw_58 : decode cX0_draw 58 = .ok (.invokestatic 38, 3) := by decide +kernel
theorem gdX0_draw_61 : decode cX0_draw 61 = .ok (.ifCond .eq 22, 3) := by decide +kernel
theorem gdX0_draw_64 : decode cX0_draw 64 = .ok (.aload_n 1, 1) := by decide +kernel
theorem gdX0_draw_65 : decode cX0_draw 65 = .ok (.iload_n 2, 1) := by decide +kernel
theorem gdX0_draw_66 : decode cX0_draw 66 = .ok (.iconst 3, 1) := by decide +kernel
theorem gdX0_draw_67 : decode cX0_draw 67 = .ok (.iload 5, 2) := by decide +kernel
theorem gdX0_draw_69 : decode cX0_draw 69 = .ok (.imul, 1) := by decide +kernel
theorem gdX0_draw_70 : decode cX0_draw 70 = .ok (.iconst 2, 1) := by decide +kernel
theorem gdX0_draw_71 : decode cX0_draw 71 = .ok (.iadd, 1) := by decide +kernel
theorem gdX0_draw_72 : decode cX0_draw 72 = .ok (.invokevirtual 34, 3) := by decide +kernel
theorem gdX0_draw_75 : decode cX0_draw 75 = .ok (.iload 4, 2) := by decide +kernel
theorem gdX0_draw_77 : decode cX0_draw 77 = .ok (.invokestatic 38, 3) := by decide +kernel
theorem gdX0_draw_80 : decode cX0_draw 80 = .ok (.ifCond .ne 5, 3) := by decide +kernel
theorem gdX0_draw_85 : decode cX0_draw 85 = .ok (.iinc 5 1, 3) := by decide +kernel
theorem gdX0_draw_88 : decode cX0_draw 88 = .ok (.goto (-76), 3) := by decide +kernel
theorem gdX0_draw_0 : decode cX0_draw 0 = .ok (.aload_n 1, 1) := by decide +kernel
theorem gdX0_draw_1 : decode cX0_draw 1 = .ok (.iload_n 2, 1) := by decide +kernel
theorem gdX0_draw_2 : decode cX0_draw 2 = .ok (.invokevirtual 28, 3) := by decide +kernel
theorem gdX0_draw_5 : decode cX0_draw 5 = .ok (.iconst 3, 1) := by decide +kernel
theorem gdX0_draw_6 : decode cX0_draw 6 = .ok (.idiv, 1) := by decide +kernel
theorem gdX0_draw_7 : decode cX0_draw 7 = .ok (.istore 4, 2) := by decide +kernel
theorem gdX0_draw_9 : decode cX0_draw 9 = .ok (.iconst 0, 1) := by decide +kernel
theorem gdX0_draw_10 : decode cX0_draw 10 = .ok (.istore 5, 2) := by decide +kernel
theorem gdX11_acts_56 : decode cX11_acts 56 = .ok (.aload_n 0, 1) := by decide +kernel
theorem gdX11_acts_57 : decode cX11_acts 57 = .ok (.iconst 5, 1) := by decide +kernel
theorem gdX11_acts_58 : decode cX11_acts 58 = .ok (.invokevirtual 99, 3) := by decide +kernel
theorem gdX11_acts_61 : decode cX11_acts 61 = .ok (.ireturn, 1) := by decide +kernel
theorem gdX11_acts_0 : decode cX11_acts 0 = .ok (.aload_n 0, 1) := by decide +kernel
theorem gdX11_acts_1 : decode cX11_acts 1 = .ok (.getfield 12, 3) := by decide +kernel
theorem gdX11_acts_4 : decode cX11_acts 4 = .ok (.iload_n 1, 1) := by decide +kernel
theorem gdX11_acts_5 : decode cX11_acts 5 = .ok (.invokevirtual 95, 3) := by decide +kernel
theorem gdX11_acts_8 : decode cX11_acts 8 = .ok (.ifCond .ne 5, 3) := by decide +kernel
theorem gdX11_acts_13 : decode cX11_acts 13 = .ok (.aload_n 0, 1) := by decide +kernel
theorem gdX11_acts_14 : decode cX11_acts 14 = .ok (.getfield 12, 3) := by decide +kernel
theorem gdX11_acts_17 : decode cX11_acts 17 = .ok (.iload_n 1, 1) := by decide +kernel
theorem gdX11_acts_18 : decode cX11_acts 18 = .ok (.invokevirtual 106, 3) := by decide +kernel
theorem gdX11_acts_21 : decode cX11_acts 21 = .ok (.ifCond .ne 9, 3) := by decide +kernel
theorem gdX11_acts_30 : decode cX11_acts 30 = .ok (.aload_n 0, 1) := by decide +kernel
theorem gdX11_acts_31 : decode cX11_acts 31 = .ok (.getfield 12, 3) := by decide +kernel
theorem gdX11_acts_34 : decode cX11_acts 34 = .ok (.iload_n 1, 1) := by decide +kernel
theorem gdX11_acts_35 : decode cX11_acts 35 = .ok (.invokevirtual 219, 3) := by decide +kernel
theorem gdX11_acts_38 : decode cX11_acts 38 = .ok (.istore_n 2, 1) := by decide +kernel
theorem gdX11_acts_39 : decode cX11_acts 39 = .ok (.iload_n 2, 1) := by decide +kernel
theorem gdX11_acts_40 : decode cX11_acts 40 = .ok (.iconst 3, 1) := by decide +kernel
theorem gdX11_acts_41 : decode cX11_acts 41 = .ok (.irem, 1) := by decide +kernel
theorem gdX11_acts_42 : decode cX11_acts 42 = .ok (.ifCond .ne 14, 3) := by decide +kernel
theorem gdX11_acts_45 : decode cX11_acts 45 = .ok (.iload_n 2, 1) := by decide +kernel
theorem gdX11_acts_46 : decode cX11_acts 46 = .ok (.iconst 3, 1) := by decide +kernel
theorem gdX11_acts_47 : decode cX11_acts 47 = .ok (.if_icmp .lt 9, 3) := by decide +kernel
theorem gdX11_acts_50 : decode cX11_acts 50 = .ok (.iload_n 2, 1) := by decide +kernel
theorem gdX11_acts_51 : decode cX11_acts 51 = .ok (.bipush 39, 2) := by decide +kernel
theorem gdX11_acts_53 : decode cX11_acts 53 = .ok (.if_icmp .le 9, 3) := by decide +kernel
theorem gdX11_acts_62 : decode cX11_acts 62 = .ok (.aload_n 0, 1) := by decide +kernel
theorem gdX11_acts_63 : decode cX11_acts 63 = .ok (.getfield 80, 3) := by decide +kernel
theorem gdX11_acts_66 : decode cX11_acts 66 = .ok (.aload_n 0, 1) := by decide +kernel
theorem gdX11_acts_67 : decode cX11_acts 67 = .ok (.getfield 12, 3) := by decide +kernel
theorem gdX11_acts_70 : decode cX11_acts 70 = .ok (.iload_n 1, 1) := by decide +kernel
theorem gdX11_acts_71 : decode cX11_acts 71 = .ok (.aload_n 0, 1) := by decide +kernel
theorem gdX11_acts_72 : decode cX11_acts 72 = .ok (.getfield 136, 3) := by decide +kernel
theorem gdX11_acts_75 : decode cX11_acts 75 = .ok (.invokevirtual 420, 3) := by decide +kernel
theorem gdX11_acts_78 : decode cX11_acts 78 = .ok (.ifCond .ne 9, 3) := by decide +kernel
theorem gdX11_acts_87 : decode cX11_acts 87 = .ok (.aload_n 0, 1) := by decide +kernel
theorem gdX11_acts_88 : decode cX11_acts 88 = .ok (.getfield 80, 3) := by decide +kernel
theorem gdX11_acts_91 : decode cX11_acts 91 = .ok (.getfield 424, 3) := by decide +kernel
theorem gdX11_acts_94 : decode cX11_acts 94 = .ok (.ireturn, 1) := by decide +kernel
theorem gdX11_acts_81 : decode cX11_acts 81 = .ok (.aload_n 0, 1) := by decide +kernel
theorem gdX11_acts_82 : decode cX11_acts 82 = .ok (.iconst 3, 1) := by decide +kernel
theorem gdX11_acts_83 : decode cX11_acts 83 = .ok (.invokevirtual 99, 3) := by decide +kernel
theorem gdX11_acts_86 : decode cX11_acts 86 = .ok (.ireturn, 1) := by decide +kernel
theorem gdX11_acts_24 : decode cX11_acts 24 = .ok (.aload_n 0, 1) := by decide +kernel
theorem gdX11_acts_25 : decode cX11_acts 25 = .ok (.iconst 1, 1) := by decide +kernel
theorem gdX11_acts_26 : decode cX11_acts 26 = .ok (.invokevirtual 99, 3) := by decide +kernel
theorem gdX11_acts_29 : decode cX11_acts 29 = .ok (.ireturn, 1) := by decide +kernel
theorem gdX11_acts_11 : decode cX11_acts 11 = .ok (.iconst (-1), 1) := by decide +kernel
theorem gdX11_acts_12 : decode cX11_acts 12 = .ok (.ireturn, 1) := by decide +kernel
theorem gdX11_asked_0 : decode cX11_asked 0 = .ok (.aload_n 0, 1) := by decide +kernel
theorem gdX11_asked_1 : decode cX11_asked 1 = .ok (.getfield 465, 3) := by decide +kernel
theorem gdX11_asked_4 : decode cX11_asked 4 = .ok (.ireturn, 1) := by decide +kernel
theorem gdX8_allWithin_36 : decode cX8_allWithin 36 = .ok (.iconst 0, 1) := by decide +kernel
theorem gdX8_allWithin_37 : decode cX8_allWithin 37 = .ok (.ireturn, 1) := by decide +kernel
theorem gdX8_allWithin_44 : decode cX8_allWithin 44 = .ok (.iconst 1, 1) := by decide +kernel
theorem gdX8_allWithin_45 : decode cX8_allWithin 45 = .ok (.ireturn, 1) := by decide +kernel
theorem gdX8_allWithin_3 : decode cX8_allWithin 3 = .ok (.iload 4, 2) := by decide +kernel
theorem gdX8_allWithin_5 : decode cX8_allWithin 5 = .ok (.aload_n 0, 1) := by decide +kernel
theorem gdX8_allWithin_6 : decode cX8_allWithin 6 = .ok (.getfield 9, 3) := by decide +kernel
theorem gdX8_allWithin_9 : decode cX8_allWithin 9 = .ok (.iload_n 1, 1) := by decide +kernel
theorem gdX8_allWithin_10 : decode cX8_allWithin 10 = .ok (.iaload, 1) := by decide +kernel
theorem gdX8_allWithin_11 : decode cX8_allWithin 11 = .ok (.if_icmp .ge 33, 3) := by decide +kernel
theorem gdX8_allWithin_14 : decode cX8_allWithin 14 = .ok (.aload_n 0, 1) := by decide +kernel
theorem gdX8_allWithin_15 : decode cX8_allWithin 15 = .ok (.iload_n 1, 1) := by decide +kernel
theorem gdX8_allWithin_16 : decode cX8_allWithin 16 = .ok (.iload 4, 2) := by decide +kernel
theorem gdX8_allWithin_18 : decode cX8_allWithin 18 = .ok (.invokevirtual 44, 3) := by decide +kernel
theorem gdX8_allWithin_21 : decode cX8_allWithin 21 = .ok (.iload_n 2, 1) := by decide +kernel
theorem gdX8_allWithin_22 : decode cX8_allWithin 22 = .ok (.if_icmp .lt 14, 3) := by decide +kernel
theorem gdX8_allWithin_25 : decode cX8_allWithin 25 = .ok (.aload_n 0, 1) := by decide +kernel
theorem gdX8_allWithin_26 : decode cX8_allWithin 26 = .ok (.iload_n 1, 1) := by decide +kernel
theorem gdX8_allWithin_27 : decode cX8_allWithin 27 = .ok (.iload 4, 2) := by decide +kernel
theorem gdX8_allWithin_29 : decode cX8_allWithin 29 = .ok (.invokevirtual 44, 3) := by decide +kernel
theorem gdX8_allWithin_32 : decode cX8_allWithin 32 = .ok (.iload_n 3, 1) := by decide +kernel
theorem gdX8_allWithin_33 : decode cX8_allWithin 33 = .ok (.if_icmp .le 5, 3) := by decide +kernel
theorem gdX8_allWithin_38 : decode cX8_allWithin 38 = .ok (.iinc 4 1, 3) := by decide +kernel
theorem gdX8_allWithin_41 : decode cX8_allWithin 41 = .ok (.goto (-38), 3) := by decide +kernel
theorem gdX8_allWithin_0 : decode cX8_allWithin 0 = .ok (.iconst 0, 1) := by decide +kernel
theorem gdX8_allWithin_1 : decode cX8_allWithin 1 = .ok (.istore 4, 2) := by decide +kernel
theorem gdX11_weighingFault_22 : decode cX11_weighingFault 22 = .ok (.iconst 1, 1) := by decide +kernel
theorem gdX11_weighingFault_23 : decode cX11_weighingFault 23 = .ok (.ireturn, 1) := by decide +kernel
theorem gdX11_weighingFault_0 : decode cX11_weighingFault 0 = .ok (.aload_n 0, 1) := by decide +kernel
theorem gdX11_weighingFault_1 : decode cX11_weighingFault 1 = .ok (.getfield 12, 3) := by decide +kernel
theorem gdX11_weighingFault_4 : decode cX11_weighingFault 4 = .ok (.iload_n 1, 1) := by decide +kernel
theorem gdX11_weighingFault_5 : decode cX11_weighingFault 5 = .ok (.invokevirtual 106, 3) := by decide +kernel
theorem gdX11_weighingFault_8 : decode cX11_weighingFault 8 = .ok (.ifCond .eq 14, 3) := by decide +kernel
theorem gdX11_weighingFault_11 : decode cX11_weighingFault 11 = .ok (.aload_n 0, 1) := by decide +kernel
theorem gdX11_weighingFault_12 : decode cX11_weighingFault 12 = .ok (.getfield 12, 3) := by decide +kernel
theorem gdX11_weighingFault_15 : decode cX11_weighingFault 15 = .ok (.iload_n 2, 1) := by decide +kernel
theorem gdX11_weighingFault_16 : decode cX11_weighingFault 16 = .ok (.invokevirtual 106, 3) := by decide +kernel
theorem gdX11_weighingFault_19 : decode cX11_weighingFault 19 = .ok (.ifCond .ne 5, 3) := by decide +kernel
theorem gdX11_weighingFault_24 : decode cX11_weighingFault 24 = .ok (.aload_n 0, 1) := by decide +kernel
theorem gdX11_weighingFault_25 : decode cX11_weighingFault 25 = .ok (.getfield 12, 3) := by decide +kernel
theorem gdX11_weighingFault_28 : decode cX11_weighingFault 28 = .ok (.iload_n 1, 1) := by decide +kernel
theorem gdX11_weighingFault_29 : decode cX11_weighingFault 29 = .ok (.invokevirtual 219, 3) := by decide +kernel
theorem gdX11_weighingFault_32 : decode cX11_weighingFault 32 = .ok (.iconst 4, 1) := by decide +kernel
theorem gdX11_weighingFault_33 : decode cX11_weighingFault 33 = .ok (.if_icmp .eq 5, 3) := by decide +kernel
theorem gdX11_weighingFault_38 : decode cX11_weighingFault 38 = .ok (.aload_n 0, 1) := by decide +kernel
theorem gdX11_weighingFault_39 : decode cX11_weighingFault 39 = .ok (.getfield 12, 3) := by decide +kernel
theorem gdX11_weighingFault_42 : decode cX11_weighingFault 42 = .ok (.iload_n 1, 1) := by decide +kernel
theorem gdX11_weighingFault_43 : decode cX11_weighingFault 43 = .ok (.iconst 0, 1) := by decide +kernel
theorem gdX11_weighingFault_44 : decode cX11_weighingFault 44 = .ok (.bipush 100, 2) := by decide +kernel
theorem gdX11_weighingFault_46 : decode cX11_weighingFault 46 = .ok (.invokevirtual 222, 3) := by decide +kernel
theorem gdX11_weighingFault_49 : decode cX11_weighingFault 49 = .ok (.ifCond .ne 5, 3) := by decide +kernel
theorem gdX11_weighingFault_54 : decode cX11_weighingFault 54 = .ok (.iconst 0, 1) := by decide +kernel
theorem gdX11_weighingFault_55 : decode cX11_weighingFault 55 = .ok (.ireturn, 1) := by decide +kernel
theorem gdX11_weighingFault_52 : decode cX11_weighingFault 52 = .ok (.iconst 3, 1) := by decide +kernel
theorem gdX11_weighingFault_53 : decode cX11_weighingFault 53 = .ok (.ireturn, 1) := by decide +kernel
theorem gdX11_weighingFault_36 : decode cX11_weighingFault 36 = .ok (.iconst 5, 1) := by decide +kernel
theorem gdX11_weighingFault_37 : decode cX11_weighingFault 37 = .ok (.ireturn, 1) := by decide +kernel
theorem gdX4_number_0 : decode cX4_number 0 = .ok (.aload_n 0, 1) := by decide +kernel
theorem gdX4_number_1 : decode cX4_number 1 = .ok (.getfield 54, 3) := by decide +kernel
theorem gdX4_number_4 : decode cX4_number 4 = .ok (.ireturn, 1) := by decide +kernel
theorem gdX4_kindOf_0 : decode cX4_kindOf 0 = .ok (.aload_n 0, 1) := by decide +kernel
theorem gdX4_kindOf_1 : decode cX4_kindOf 1 = .ok (.getfield 11, 3) := by decide +kernel
theorem gdX4_kindOf_4 : decode cX4_kindOf 4 = .ok (.iload_n 1, 1) := by decide +kernel
theorem gdX4_kindOf_5 : decode cX4_kindOf 5 = .ok (.iaload, 1) := by decide +kernel
theorem gdX4_kindOf_6 : decode cX4_kindOf 6 = .ok (.ireturn, 1) := by decide +kernel
theorem gdX4_cells_0 : decode cX4_cells 0 = .ok (.aload_n 0, 1) := by decide +kernel
theorem gdX4_cells_1 : decode cX4_cells 1 = .ok (.getfield 29, 3) := by decide +kernel
theorem gdX4_cells_4 : decode cX4_cells 4 = .ok (.iload_n 1, 1) := by decide +kernel
theorem gdX4_cells_5 : decode cX4_cells 5 = .ok (.laload, 1) := by decide +kernel
theorem gdX4_cells_6 : decode cX4_cells 6 = .ok (.lreturn, 1) := by decide +kernel
theorem gdX4_costOf_0 : decode cX4_costOf 0 = .ok (.aload_n 0, 1) := by decide +kernel
theorem gdX4_costOf_1 : decode cX4_costOf 1 = .ok (.getfield 33, 3) := by decide +kernel
theorem gdX4_costOf_4 : decode cX4_costOf 4 = .ok (.iload_n 1, 1) := by decide +kernel
theorem gdX4_costOf_5 : decode cX4_costOf 5 = .ok (.iaload, 1) := by decide +kernel
theorem gdX4_costOf_6 : decode cX4_costOf 6 = .ok (.ireturn, 1) := by decide +kernel
theorem gdX3_has_15 : decode cX3_has 15 = .ok (.ireturn, 1) := by decide +kernel
theorem gdX3_has_0 : decode cX3_has 0 = .ok (.lload_n 0, 1) := by decide +kernel
theorem gdX3_has_1 : decode cX3_has 1 = .ok (.iload_n 2, 1) := by decide +kernel
theorem gdX3_has_2 : decode cX3_has 2 = .ok (.lushr, 1) := by decide +kernel
theorem gdX3_has_3 : decode cX3_has 3 = .ok (.lconst 1, 1) := by decide +kernel
theorem gdX3_has_4 : decode cX3_has 4 = .ok (.land, 1) := by decide +kernel
theorem gdX3_has_5 : decode cX3_has 5 = .ok (.lconst 1, 1) := by decide +kernel
theorem gdX3_has_6 : decode cX3_has 6 = .ok (.lcmp, 1) := by decide +kernel
theorem gdX3_has_7 : decode cX3_has 7 = .ok (.ifCond .ne 7, 3) := by decide +kernel
theorem gdX3_has_14 : decode cX3_has 14 = .ok (.iconst 0, 1) := by decide +kernel
theorem gdX3_has_10 : decode cX3_has 10 = .ok (.iconst 1, 1) := by decide +kernel
theorem gdX3_has_11 : decode cX3_has 11 = .ok (.goto 4, 3) := by decide +kernel
theorem gdX1_dwellersIn_44 : decode cX1_dwellersIn 44 = .ok (.iload_n 3, 1) := by decide +kernel
theorem gdX1_dwellersIn_45 : decode cX1_dwellersIn 45 = .ok (.ireturn, 1) := by decide +kernel
theorem gdX1_dwellersIn_38 : decode cX1_dwellersIn 38 = .ok (.iinc 4 1, 3) := by decide +kernel
theorem gdX1_dwellersIn_41 : decode cX1_dwellersIn 41 = .ok (.goto (-36), 3) := by decide +kernel
theorem gdX1_dwellersIn_5 : decode cX1_dwellersIn 5 = .ok (.iload 4, 2) := by decide +kernel
theorem gdX1_dwellersIn_7 : decode cX1_dwellersIn 7 = .ok (.aload_n 0, 1) := by decide +kernel
theorem gdX1_dwellersIn_8 : decode cX1_dwellersIn 8 = .ok (.getfield 58, 3) := by decide +kernel
theorem gdX1_dwellersIn_11 : decode cX1_dwellersIn 11 = .ok (.if_icmp .ge 33, 3) := by decide +kernel
theorem gdX1_dwellersIn_14 : decode cX1_dwellersIn 14 = .ok (.lload_n 1, 1) := by decide +kernel
theorem gdX1_dwellersIn_15 : decode cX1_dwellersIn 15 = .ok (.aload_n 0, 1) := by decide +kernel
theorem gdX1_dwellersIn_16 : decode cX1_dwellersIn 16 = .ok (.getfield 11, 3) := by decide +kernel
theorem gdX1_dwellersIn_19 : decode cX1_dwellersIn 19 = .ok (.iload 4, 2) := by decide +kernel
theorem gdX1_dwellersIn_21 : decode cX1_dwellersIn 21 = .ok (.iaload, 1) := by decide +kernel
theorem gdX1_dwellersIn_22 : decode cX1_dwellersIn 22 = .ok (.invokestatic 87, 3) := by decide +kernel
theorem gdX1_dwellersIn_25 : decode cX1_dwellersIn 25 = .ok (.ifCond .eq 13, 3) := by decide +kernel
theorem gdX1_dwellersIn_28 : decode cX1_dwellersIn 28 = .ok (.iload_n 3, 1) := by decide +kernel
theorem gdX1_dwellersIn_29 : decode cX1_dwellersIn 29 = .ok (.aload_n 0, 1) := by decide +kernel
theorem gdX1_dwellersIn_30 : decode cX1_dwellersIn 30 = .ok (.getfield 21, 3) := by decide +kernel
theorem gdX1_dwellersIn_33 : decode cX1_dwellersIn 33 = .ok (.iload 4, 2) := by decide +kernel
theorem gdX1_dwellersIn_35 : decode cX1_dwellersIn 35 = .ok (.iaload, 1) := by decide +kernel
theorem gdX1_dwellersIn_36 : decode cX1_dwellersIn 36 = .ok (.iadd, 1) := by decide +kernel
theorem gdX1_dwellersIn_37 : decode cX1_dwellersIn 37 = .ok (.istore_n 3, 1) := by decide +kernel
theorem gdX1_dwellersIn_0 : decode cX1_dwellersIn 0 = .ok (.iconst 0, 1) := by decide +kernel
theorem gdX1_dwellersIn_1 : decode cX1_dwellersIn 1 = .ok (.istore_n 3, 1) := by decide +kernel
theorem gdX1_dwellersIn_2 : decode cX1_dwellersIn 2 = .ok (.iconst 0, 1) := by decide +kernel
theorem gdX1_dwellersIn_3 : decode cX1_dwellersIn 3 = .ok (.istore 4, 2) := by decide +kernel
theorem gdX3_parksIn_41 : decode cX3_parksIn 41 = .ok (.iload_n 3, 1) := by decide +kernel
theorem gdX3_parksIn_42 : decode cX3_parksIn 42 = .ok (.ireturn, 1) := by decide +kernel
theorem gdX3_parksIn_35 : decode cX3_parksIn 35 = .ok (.iinc 4 1, 3) := by decide +kernel
theorem gdX3_parksIn_38 : decode cX3_parksIn 38 = .ok (.goto (-33), 3) := by decide +kernel
theorem gdX3_parksIn_5 : decode cX3_parksIn 5 = .ok (.iload 4, 2) := by decide +kernel
theorem gdX3_parksIn_7 : decode cX3_parksIn 7 = .ok (.bipush 64, 2) := by decide +kernel
theorem gdX3_parksIn_9 : decode cX3_parksIn 9 = .ok (.if_icmp .ge 32, 3) := by decide +kernel
theorem gdX3_parksIn_12 : decode cX3_parksIn 12 = .ok (.aload_n 0, 1) := by decide +kernel
theorem gdX3_parksIn_13 : decode cX3_parksIn 13 = .ok (.getfield 11, 3) := by decide +kernel
theorem gdX3_parksIn_16 : decode cX3_parksIn 16 = .ok (.iload 4, 2) := by decide +kernel
theorem gdX3_parksIn_18 : decode cX3_parksIn 18 = .ok (.iaload, 1) := by decide +kernel
theorem gdX3_parksIn_19 : decode cX3_parksIn 19 = .ok (.iconst 2, 1) := by decide +kernel
theorem gdX3_parksIn_20 : decode cX3_parksIn 20 = .ok (.if_icmp .ne 15, 3) := by decide +kernel
theorem gdX3_parksIn_23 : decode cX3_parksIn 23 = .ok (.lload_n 1, 1) := by decide +kernel
theorem gdX3_parksIn_24 : decode cX3_parksIn 24 = .ok (.iload 4, 2) := by decide +kernel
theorem gdX3_parksIn_26 : decode cX3_parksIn 26 = .ok (.invokestatic 47, 3) := by decide +kernel
theorem gdX3_parksIn_29 : decode cX3_parksIn 29 = .ok (.ifCond .eq 6, 3) := by decide +kernel
theorem gdX3_parksIn_32 : decode cX3_parksIn 32 = .ok (.iinc 3 1, 3) := by decide +kernel
theorem gdX3_parksIn_0 : decode cX3_parksIn 0 = .ok (.iconst 0, 1) := by decide +kernel
theorem gdX3_parksIn_1 : decode cX3_parksIn 1 = .ok (.istore_n 3, 1) := by decide +kernel
theorem gdX3_parksIn_2 : decode cX3_parksIn 2 = .ok (.iconst 0, 1) := by decide +kernel
theorem gdX3_parksIn_3 : decode cX3_parksIn 3 = .ok (.istore 4, 2) := by decide +kernel
theorem gdX7_deciding_94 : decode cX7_deciding 94 = .ok (.iload 4, 2) := by decide +kernel
theorem gdX7_deciding_96 : decode cX7_deciding 96 = .ok (.ireturn, 1) := by decide +kernel
theorem gdX7_deciding_88 : decode cX7_deciding 88 = .ok (.iinc 5 1, 3) := by decide +kernel
theorem gdX7_deciding_91 : decode cX7_deciding 91 = .ok (.goto (-84), 3) := by decide +kernel
theorem gdX7_deciding_84 : decode cX7_deciding 84 = .ok (.iload 5, 2) := by decide +kernel
theorem gdX7_deciding_86 : decode cX7_deciding 86 = .ok (.istore 4, 2) := by decide +kernel
theorem gdX7_deciding_7 : decode cX7_deciding 7 = .ok (.iload 5, 2) := by decide +kernel
theorem gdX7_deciding_9 : decode cX7_deciding 9 = .ok (.aload_n 0, 1) := by decide +kernel
theorem gdX7_deciding_10 : decode cX7_deciding 10 = .ok (.getfield 21, 3) := by decide +kernel
theorem gdX7_deciding_13 : decode cX7_deciding 13 = .ok (.if_icmp .ge 81, 3) := by decide +kernel
theorem gdX7_deciding_16 : decode cX7_deciding 16 = .ok (.aload_n 0, 1) := by decide +kernel
theorem gdX7_deciding_17 : decode cX7_deciding 17 = .ok (.getfield 18, 3) := by decide +kernel
theorem gdX7_deciding_20 : decode cX7_deciding 20 = .ok (.iload 5, 2) := by decide +kernel
theorem gdX7_deciding_22 : decode cX7_deciding 22 = .ok (.bipush 8, 2) := by decide +kernel
theorem gdX7_deciding_24 : decode cX7_deciding 24 = .ok (.imul, 1) := by decide +kernel
theorem gdX7_deciding_25 : decode cX7_deciding 25 = .ok (.iload_n 1, 1) := by decide +kernel
theorem gdX7_deciding_26 : decode cX7_deciding 26 = .ok (.iadd, 1) := by decide +kernel
theorem gdX7_deciding_27 : decode cX7_deciding 27 = .ok (.iaload, 1) := by decide +kernel
theorem gdX7_deciding_28 : decode cX7_deciding 28 = .ok (.iconst (-1), 1) := by decide +kernel
theorem gdX7_deciding_29 : decode cX7_deciding 29 = .ok (.if_icmp .ne 6, 3) := by decide +kernel
theorem gdX7_deciding_35 : decode cX7_deciding 35 = .ok (.aload_n 0, 1) := by decide +kernel
theorem gdX7_deciding_36 : decode cX7_deciding 36 = .ok (.getfield 11, 3) := by decide +kernel
theorem gdX7_deciding_39 : decode cX7_deciding 39 = .ok (.iload 5, 2) := by decide +kernel
theorem gdX7_deciding_41 : decode cX7_deciding 41 = .ok (.iaload, 1) := by decide +kernel
theorem gdX7_deciding_42 : decode cX7_deciding 42 = .ok (.iload_n 3, 1) := by decide +kernel
theorem gdX7_deciding_43 : decode cX7_deciding 43 = .ok (.if_icmp .gt 45, 3) := by decide +kernel
theorem gdX7_deciding_46 : decode cX7_deciding 46 = .ok (.aload_n 0, 1) := by decide +kernel
theorem gdX7_deciding_47 : decode cX7_deciding 47 = .ok (.getfield 15, 3) := by decide +kernel
theorem gdX7_deciding_50 : decode cX7_deciding 50 = .ok (.iload 5, 2) := by decide +kernel
theorem gdX7_deciding_52 : decode cX7_deciding 52 = .ok (.iaload, 1) := by decide +kernel
theorem gdX7_deciding_53 : decode cX7_deciding 53 = .ok (.iload_n 2, 1) := by decide +kernel
theorem gdX7_deciding_54 : decode cX7_deciding 54 = .ok (.if_icmp .le 6, 3) := by decide +kernel
theorem gdX7_deciding_60 : decode cX7_deciding 60 = .ok (.iload 4, 2) := by decide +kernel
theorem gdX7_deciding_62 : decode cX7_deciding 62 = .ok (.bipush (-9), 2) := by decide +kernel
theorem gdX7_deciding_64 : decode cX7_deciding 64 = .ok (.if_icmp .eq 20, 3) := by decide +kernel
theorem gdX7_deciding_67 : decode cX7_deciding 67 = .ok (.aload_n 0, 1) := by decide +kernel
theorem gdX7_deciding_68 : decode cX7_deciding 68 = .ok (.getfield 15, 3) := by decide +kernel
theorem gdX7_deciding_71 : decode cX7_deciding 71 = .ok (.iload 5, 2) := by decide +kernel
theorem gdX7_deciding_73 : decode cX7_deciding 73 = .ok (.iaload, 1) := by decide +kernel
theorem gdX7_deciding_74 : decode cX7_deciding 74 = .ok (.aload_n 0, 1) := by decide +kernel
theorem gdX7_deciding_75 : decode cX7_deciding 75 = .ok (.getfield 15, 3) := by decide +kernel
theorem gdX7_deciding_78 : decode cX7_deciding 78 = .ok (.iload 4, 2) := by decide +kernel
theorem gdX7_deciding_80 : decode cX7_deciding 80 = .ok (.iaload, 1) := by decide +kernel
theorem gdX7_deciding_81 : decode cX7_deciding 81 = .ok (.if_icmp .lt 7, 3) := by decide +kernel
theorem gdX7_deciding_57 : decode cX7_deciding 57 = .ok (.goto 31, 3) := by decide +kernel
theorem gdX7_deciding_32 : decode cX7_deciding 32 = .ok (.goto 56, 3) := by decide +kernel
theorem gdX7_deciding_0 : decode cX7_deciding 0 = .ok (.bipush (-9), 2) := by decide +kernel
theorem gdX7_deciding_2 : decode cX7_deciding 2 = .ok (.istore 4, 2) := by decide +kernel
theorem gdX7_deciding_4 : decode cX7_deciding 4 = .ok (.iconst 0, 1) := by decide +kernel
theorem gdX7_deciding_5 : decode cX7_deciding 5 = .ok (.istore 5, 2) := by decide +kernel
theorem gdX7_valueFor_36 : decode cX7_valueFor 36 = .ok (.ireturn, 1) := by decide +kernel
theorem gdX7_valueFor_0 : decode cX7_valueFor 0 = .ok (.aload_n 0, 1) := by decide +kernel
theorem gdX7_valueFor_1 : decode cX7_valueFor 1 = .ok (.iload_n 1, 1) := by decide +kernel
theorem gdX7_valueFor_2 : decode cX7_valueFor 2 = .ok (.iload_n 2, 1) := by decide +kernel
theorem gdX7_valueFor_3 : decode cX7_valueFor 3 = .ok (.iload_n 3, 1) := by decide +kernel
theorem gdX7_valueFor_4 : decode cX7_valueFor 4 = .ok (.invokevirtual 63, 3) := by decide +kernel
theorem gdX7_valueFor_7 : decode cX7_valueFor 7 = .ok (.istore 4, 2) := by decide +kernel
theorem gdX7_valueFor_9 : decode cX7_valueFor 9 = .ok (.iload 4, 2) := by decide +kernel
theorem gdX7_valueFor_11 : decode cX7_valueFor 11 = .ok (.bipush (-9), 2) := by decide +kernel
theorem gdX7_valueFor_13 : decode cX7_valueFor 13 = .ok (.if_icmp .ne 11, 3) := by decide +kernel
theorem gdX7_valueFor_24 : decode cX7_valueFor 24 = .ok (.aload_n 0, 1) := by decide +kernel
theorem gdX7_valueFor_25 : decode cX7_valueFor 25 = .ok (.getfield 18, 3) := by decide +kernel
theorem gdX7_valueFor_28 : decode cX7_valueFor 28 = .ok (.iload 4, 2) := by decide +kernel
theorem gdX7_valueFor_30 : decode cX7_valueFor 30 = .ok (.bipush 8, 2) := by decide +kernel
theorem gdX7_valueFor_32 : decode cX7_valueFor 32 = .ok (.imul, 1) := by decide +kernel
theorem gdX7_valueFor_33 : decode cX7_valueFor 33 = .ok (.iload_n 1, 1) := by decide +kernel
theorem gdX7_valueFor_34 : decode cX7_valueFor 34 = .ok (.iadd, 1) := by decide +kernel
theorem gdX7_valueFor_35 : decode cX7_valueFor 35 = .ok (.iaload, 1) := by decide +kernel
theorem gdX7_valueFor_16 : decode cX7_valueFor 16 = .ok (.getstatic 67, 3) := by decide +kernel
theorem gdX7_valueFor_19 : decode cX7_valueFor 19 = .ok (.iload_n 1, 1) := by decide +kernel
theorem gdX7_valueFor_20 : decode cX7_valueFor 20 = .ok (.iaload, 1) := by decide +kernel
theorem gdX7_valueFor_21 : decode cX7_valueFor 21 = .ok (.goto 15, 3) := by decide +kernel
theorem gdX11_inForce_0 : decode cX11_inForce 0 = .ok (.aload_n 0, 1) := by decide +kernel
theorem gdX11_inForce_1 : decode cX11_inForce 1 = .ok (.getfield 45, 3) := by decide +kernel
theorem gdX11_inForce_4 : decode cX11_inForce 4 = .ok (.iload_n 1, 1) := by decide +kernel
theorem gdX11_inForce_5 : decode cX11_inForce 5 = .ok (.aload_n 0, 1) := by decide +kernel
theorem gdX11_inForce_6 : decode cX11_inForce 6 = .ok (.getfield 136, 3) := by decide +kernel
theorem gdX11_inForce_9 : decode cX11_inForce 9 = .ok (.aload_n 0, 1) := by decide +kernel
theorem gdX11_inForce_10 : decode cX11_inForce 10 = .ok (.getfield 136, 3) := by decide +kernel
theorem gdX11_inForce_13 : decode cX11_inForce 13 = .ok (.invokevirtual 212, 3) := by decide +kernel
theorem gdX11_inForce_16 : decode cX11_inForce 16 = .ok (.ireturn, 1) := by decide +kernel
theorem gdX3_spreadAside_0 : decode cX3_spreadAside 0 = .ok (.lload_n 0, 1) := by decide +kernel
theorem gdX3_spreadAside_1 : decode cX3_spreadAside 1 = .ok (.lload_n 0, 1) := by decide +kernel
theorem gdX3_spreadAside_2 : decode cX3_spreadAside 2 = .ok (.ldc2_w 28, 3) := by decide +kernel
theorem gdX3_spreadAside_5 : decode cX3_spreadAside 5 = .ok (.land, 1) := by decide +kernel
theorem gdX3_spreadAside_6 : decode cX3_spreadAside 6 = .ok (.iconst 1, 1) := by decide +kernel
theorem gdX3_spreadAside_7 : decode cX3_spreadAside 7 = .ok (.lushr, 1) := by decide +kernel
theorem gdX3_spreadAside_8 : decode cX3_spreadAside 8 = .ok (.lor, 1) := by decide +kernel
theorem gdX3_spreadAside_9 : decode cX3_spreadAside 9 = .ok (.lload_n 0, 1) := by decide +kernel
theorem gdX3_spreadAside_10 : decode cX3_spreadAside 10 = .ok (.ldc2_w 30, 3) := by decide +kernel
theorem gdX3_spreadAside_13 : decode cX3_spreadAside 13 = .ok (.land, 1) := by decide +kernel
theorem gdX3_spreadAside_14 : decode cX3_spreadAside 14 = .ok (.iconst 1, 1) := by decide +kernel
theorem gdX3_spreadAside_15 : decode cX3_spreadAside 15 = .ok (.lshl, 1) := by decide +kernel
theorem gdX3_spreadAside_16 : decode cX3_spreadAside 16 = .ok (.lor, 1) := by decide +kernel
theorem gdX3_spreadAside_17 : decode cX3_spreadAside 17 = .ok (.lreturn, 1) := by decide +kernel
theorem gdX3_spread_0 : decode cX3_spread 0 = .ok (.lload_n 0, 1) := by decide +kernel
theorem gdX3_spread_1 : decode cX3_spread 1 = .ok (.invokestatic 24, 3) := by decide +kernel
theorem gdX3_spread_4 : decode cX3_spread 4 = .ok (.lload_n 0, 1) := by decide +kernel
theorem gdX3_spread_5 : decode cX3_spread 5 = .ok (.bipush 8, 2) := by decide +kernel
theorem gdX3_spread_7 : decode cX3_spread 7 = .ok (.lushr, 1) := by decide +kernel
theorem gdX3_spread_8 : decode cX3_spread 8 = .ok (.lor, 1) := by decide +kernel
theorem gdX3_spread_9 : decode cX3_spread 9 = .ok (.lload_n 0, 1) := by decide +kernel
theorem gdX3_spread_10 : decode cX3_spread 10 = .ok (.bipush 8, 2) := by decide +kernel
theorem gdX3_spread_12 : decode cX3_spread 12 = .ok (.lshl, 1) := by decide +kernel
theorem gdX3_spread_13 : decode cX3_spread 13 = .ok (.lor, 1) := by decide +kernel
theorem gdX3_spread_14 : decode cX3_spread 14 = .ok (.lreturn, 1) := by decide +kernel
theorem gdX11_loudCells_90 : decode cX11_loudCells 90 = .ok (.lload 4, 2) := by decide +kernel
theorem gdX11_loudCells_92 : decode cX11_loudCells 92 = .ok (.lreturn, 1) := by decide +kernel
theorem gdX11_loudCells_73 : decode cX11_loudCells 73 = .ok (.lload 8, 2) := by decide +kernel
theorem gdX11_loudCells_75 : decode cX11_loudCells 75 = .ok (.lstore 6, 2) := by decide +kernel
theorem gdX11_loudCells_77 : decode cX11_loudCells 77 = .ok (.lload 8, 2) := by decide +kernel
theorem gdX11_loudCells_79 : decode cX11_loudCells 79 = .ok (.invokestatic 258, 3) := by decide +kernel
theorem gdX11_loudCells_82 : decode cX11_loudCells 82 = .ok (.lstore 8, 2) := by decide +kernel
theorem gdX11_loudCells_84 : decode cX11_loudCells 84 = .ok (.iinc 10 1, 3) := by decide +kernel
theorem gdX11_loudCells_87 : decode cX11_loudCells 87 = .ok (.goto (-62), 3) := by decide +kernel
theorem gdX11_loudCells_25 : decode cX11_loudCells 25 = .ok (.iload 10, 2) := by decide +kernel
theorem gdX11_loudCells_27 : decode cX11_loudCells 27 = .ok (.aload_n 0, 1) := by decide +kernel
theorem gdX11_loudCells_28 : decode cX11_loudCells 28 = .ok (.getfield 12, 3) := by decide +kernel
theorem gdX11_loudCells_31 : decode cX11_loudCells 31 = .ok (.iload_n 2, 1) := by decide +kernel
theorem gdX11_loudCells_32 : decode cX11_loudCells 32 = .ok (.invokevirtual 219, 3) := by decide +kernel
theorem gdX11_loudCells_35 : decode cX11_loudCells 35 = .ok (.if_icmp .ge 55, 3) := by decide +kernel
theorem gdX11_loudCells_38 : decode cX11_loudCells 38 = .ok (.iload 10, 2) := by decide +kernel
theorem gdX11_loudCells_40 : decode cX11_loudCells 40 = .ok (.bipush 14, 2) := by decide +kernel
theorem gdX11_loudCells_42 : decode cX11_loudCells 42 = .ok (.if_icmp .gt 48, 3) := by decide +kernel
theorem gdX11_loudCells_45 : decode cX11_loudCells 45 = .ok (.aload_n 0, 1) := by decide +kernel
theorem gdX11_loudCells_46 : decode cX11_loudCells 46 = .ok (.getfield 12, 3) := by decide +kernel
theorem gdX11_loudCells_49 : decode cX11_loudCells 49 = .ok (.iload_n 2, 1) := by decide +kernel
theorem gdX11_loudCells_50 : decode cX11_loudCells 50 = .ok (.iload 10, 2) := by decide +kernel
theorem gdX11_loudCells_52 : decode cX11_loudCells 52 = .ok (.invokevirtual 504, 3) := by decide +kernel
theorem gdX11_loudCells_55 : decode cX11_loudCells 55 = .ok (.iload_n 3, 1) := by decide +kernel
theorem gdX11_loudCells_56 : decode cX11_loudCells 56 = .ok (.if_icmp .le 17, 3) := by decide +kernel
theorem gdX11_loudCells_59 : decode cX11_loudCells 59 = .ok (.lload 4, 2) := by decide +kernel
theorem gdX11_loudCells_61 : decode cX11_loudCells 61 = .ok (.lload 8, 2) := by decide +kernel
theorem gdX11_loudCells_63 : decode cX11_loudCells 63 = .ok (.lload 6, 2) := by decide +kernel
theorem gdX11_loudCells_65 : decode cX11_loudCells 65 = .ok (.ldc2_w 387, 3) := by decide +kernel
theorem gdX11_loudCells_68 : decode cX11_loudCells 68 = .ok (.lxor, 1) := by decide +kernel
theorem gdX11_loudCells_69 : decode cX11_loudCells 69 = .ok (.land, 1) := by decide +kernel
theorem gdX11_loudCells_70 : decode cX11_loudCells 70 = .ok (.lor, 1) := by decide +kernel
theorem gdX11_loudCells_71 : decode cX11_loudCells 71 = .ok (.lstore 4, 2) := by decide +kernel
theorem gdX11_loudCells_0 : decode cX11_loudCells 0 = .ok (.aload_n 0, 1) := by decide +kernel
theorem gdX11_loudCells_1 : decode cX11_loudCells 1 = .ok (.iconst 5, 1) := by decide +kernel
theorem gdX11_loudCells_2 : decode cX11_loudCells 2 = .ok (.invokevirtual 228, 3) := by decide +kernel
theorem gdX11_loudCells_5 : decode cX11_loudCells 5 = .ok (.istore_n 3, 1) := by decide +kernel
theorem gdX11_loudCells_6 : decode cX11_loudCells 6 = .ok (.lconst 0, 1) := by decide +kernel
theorem gdX11_loudCells_7 : decode cX11_loudCells 7 = .ok (.lstore 4, 2) := by decide +kernel
theorem gdX11_loudCells_9 : decode cX11_loudCells 9 = .ok (.lconst 0, 1) := by decide +kernel
theorem gdX11_loudCells_10 : decode cX11_loudCells 10 = .ok (.lstore 6, 2) := by decide +kernel
theorem gdX11_loudCells_12 : decode cX11_loudCells 12 = .ok (.aload_n 0, 1) := by decide +kernel
theorem gdX11_loudCells_13 : decode cX11_loudCells 13 = .ok (.getfield 52, 3) := by decide +kernel
theorem gdX11_loudCells_16 : decode cX11_loudCells 16 = .ok (.iload_n 1, 1) := by decide +kernel
theorem gdX11_loudCells_17 : decode cX11_loudCells 17 = .ok (.invokevirtual 254, 3) := by decide +kernel
theorem gdX11_loudCells_20 : decode cX11_loudCells 20 = .ok (.lstore 8, 2) := by decide +kernel
theorem gdX11_loudCells_22 : decode cX11_loudCells 22 = .ok (.iconst 0, 1) := by decide +kernel
theorem gdX11_loudCells_23 : decode cX11_loudCells 23 = .ok (.istore 10, 2) := by decide +kernel
theorem gdX1_stands_24 : decode cX1_stands 24 = .ok (.ireturn, 1) := by decide +kernel
theorem gdX1_stands_23 : decode cX1_stands 23 = .ok (.iconst 0, 1) := by decide +kernel
theorem gdX1_stands_0 : decode cX1_stands 0 = .ok (.aload_n 0, 1) := by decide +kernel
theorem gdX1_stands_1 : decode cX1_stands 1 = .ok (.getfield 30, 3) := by decide +kernel
theorem gdX1_stands_4 : decode cX1_stands 4 = .ok (.iload_n 1, 1) := by decide +kernel
theorem gdX1_stands_5 : decode cX1_stands 5 = .ok (.baload, 1) := by decide +kernel
theorem gdX1_stands_6 : decode cX1_stands 6 = .ok (.ifCond .ne 17, 3) := by decide +kernel
theorem gdX1_stands_9 : decode cX1_stands 9 = .ok (.aload_n 0, 1) := by decide +kernel
theorem gdX1_stands_10 : decode cX1_stands 10 = .ok (.getfield 15, 3) := by decide +kernel
theorem gdX1_stands_13 : decode cX1_stands 13 = .ok (.iload_n 1, 1) := by decide +kernel
theorem gdX1_stands_14 : decode cX1_stands 14 = .ok (.iaload, 1) := by decide +kernel
theorem gdX1_stands_15 : decode cX1_stands 15 = .ok (.iload_n 2, 1) := by decide +kernel
theorem gdX1_stands_16 : decode cX1_stands 16 = .ok (.if_icmp .ne 7, 3) := by decide +kernel
theorem gdX1_stands_19 : decode cX1_stands 19 = .ok (.iconst 1, 1) := by decide +kernel
theorem gdX1_stands_20 : decode cX1_stands 20 = .ok (.goto 4, 3) := by decide +kernel
theorem gdX1_housesIn_47 : decode cX1_housesIn 47 = .ok (.iload_n 3, 1) := by decide +kernel
theorem gdX1_housesIn_48 : decode cX1_housesIn 48 = .ok (.ireturn, 1) := by decide +kernel
theorem gdX1_housesIn_41 : decode cX1_housesIn 41 = .ok (.iinc 4 1, 3) := by decide +kernel
theorem gdX1_housesIn_44 : decode cX1_housesIn 44 = .ok (.goto (-39), 3) := by decide +kernel
theorem gdX1_housesIn_5 : decode cX1_housesIn 5 = .ok (.iload 4, 2) := by decide +kernel
theorem gdX1_housesIn_7 : decode cX1_housesIn 7 = .ok (.aload_n 0, 1) := by decide +kernel
theorem gdX1_housesIn_8 : decode cX1_housesIn 8 = .ok (.getfield 58, 3) := by decide +kernel
theorem gdX1_housesIn_11 : decode cX1_housesIn 11 = .ok (.if_icmp .ge 36, 3) := by decide +kernel
theorem gdX1_housesIn_14 : decode cX1_housesIn 14 = .ok (.aload_n 0, 1) := by decide +kernel
theorem gdX1_housesIn_15 : decode cX1_housesIn 15 = .ok (.iload 4, 2) := by decide +kernel
theorem gdX1_housesIn_17 : decode cX1_housesIn 17 = .ok (.iconst 0, 1) := by decide +kernel
theorem gdX1_housesIn_18 : decode cX1_housesIn 18 = .ok (.invokevirtual 69, 3) := by decide +kernel
theorem gdX1_housesIn_21 : decode cX1_housesIn 21 = .ok (.ifCond .eq 20, 3) := by decide +kernel
theorem gdX1_housesIn_24 : decode cX1_housesIn 24 = .ok (.lload_n 1, 1) := by decide +kernel
theorem gdX1_housesIn_25 : decode cX1_housesIn 25 = .ok (.aload_n 0, 1) := by decide +kernel
theorem gdX1_housesIn_26 : decode cX1_housesIn 26 = .ok (.getfield 11, 3) := by decide +kernel
theorem gdX1_housesIn_29 : decode cX1_housesIn 29 = .ok (.iload 4, 2) := by decide +kernel
theorem gdX1_housesIn_31 : decode cX1_housesIn 31 = .ok (.iaload, 1) := by decide +kernel
theorem gdX1_housesIn_32 : decode cX1_housesIn 32 = .ok (.invokestatic 87, 3) := by decide +kernel
theorem gdX1_housesIn_35 : decode cX1_housesIn 35 = .ok (.ifCond .eq 6, 3) := by decide +kernel
theorem gdX1_housesIn_38 : decode cX1_housesIn 38 = .ok (.iinc 3 1, 3) := by decide +kernel
theorem gdX1_housesIn_0 : decode cX1_housesIn 0 = .ok (.iconst 0, 1) := by decide +kernel
theorem gdX1_housesIn_1 : decode cX1_housesIn 1 = .ok (.istore_n 3, 1) := by decide +kernel
theorem gdX1_housesIn_2 : decode cX1_housesIn 2 = .ok (.iconst 0, 1) := by decide +kernel
theorem gdX1_housesIn_3 : decode cX1_housesIn 3 = .ok (.istore 4, 2) := by decide +kernel
theorem gdX11_weigh_0 : decode cX11_weigh 0 = .ok (.aload_n 0, 1) := by decide +kernel
theorem gdX11_weigh_1 : decode cX11_weigh 1 = .ok (.getfield 52, 3) := by decide +kernel
theorem gdX11_weigh_4 : decode cX11_weigh 4 = .ok (.iload_n 1, 1) := by decide +kernel
theorem gdX11_weigh_5 : decode cX11_weigh 5 = .ok (.invokevirtual 254, 3) := by decide +kernel
theorem gdX11_weigh_8 : decode cX11_weigh 8 = .ok (.lstore 4, 2) := by decide +kernel
theorem gdX11_weigh_10 : decode cX11_weigh 10 = .ok (.aload_n 0, 1) := by decide +kernel
theorem gdX11_weigh_11 : decode cX11_weigh 11 = .ok (.getfield 12, 3) := by decide +kernel
theorem gdX11_weigh_14 : decode cX11_weigh 14 = .ok (.iload_n 2, 1) := by decide +kernel
theorem gdX11_weigh_15 : decode cX11_weigh 15 = .ok (.iconst 0, 1) := by decide +kernel
theorem gdX11_weigh_16 : decode cX11_weigh 16 = .ok (.invokevirtual 504, 3) := by decide +kernel
theorem gdX11_weigh_19 : decode cX11_weigh 19 = .ok (.aload_n 0, 1) := by decide +kernel
theorem gdX11_weigh_20 : decode cX11_weigh 20 = .ok (.getfield 52, 3) := by decide +kernel
theorem gdX11_weigh_23 : decode cX11_weigh 23 = .ok (.iload_n 1, 1) := by decide +kernel
theorem gdX11_weigh_24 : decode cX11_weigh 24 = .ok (.invokevirtual 334, 3) := by decide +kernel
theorem gdX11_weigh_27 : decode cX11_weigh 27 = .ok (.imul, 1) := by decide +kernel
theorem gdX11_weigh_28 : decode cX11_weigh 28 = .ok (.aload_n 0, 1) := by decide +kernel
theorem gdX11_weigh_29 : decode cX11_weigh 29 = .ok (.getfield 12, 3) := by decide +kernel
theorem gdX11_weigh_32 : decode cX11_weigh 32 = .ok (.iload_n 2, 1) := by decide +kernel
theorem gdX11_weigh_33 : decode cX11_weigh 33 = .ok (.iconst 1, 1) := by decide +kernel
theorem gdX11_weigh_34 : decode cX11_weigh 34 = .ok (.invokevirtual 504, 3) := by decide +kernel
theorem gdX11_weigh_37 : decode cX11_weigh 37 = .ok (.aload_n 0, 1) := by decide +kernel
theorem gdX11_weigh_38 : decode cX11_weigh 38 = .ok (.getfield 33, 3) := by decide +kernel
theorem gdX11_weigh_41 : decode cX11_weigh 41 = .ok (.lload 4, 2) := by decide +kernel
theorem gdX11_weigh_43 : decode cX11_weigh 43 = .ok (.invokevirtual 402, 3) := by decide +kernel
theorem gdX11_weigh_46 : decode cX11_weigh 46 = .ok (.imul, 1) := by decide +kernel
theorem gdX11_weigh_47 : decode cX11_weigh 47 = .ok (.iadd, 1) := by decide +kernel
theorem gdX11_weigh_48 : decode cX11_weigh 48 = .ok (.aload_n 0, 1) := by decide +kernel
theorem gdX11_weigh_49 : decode cX11_weigh 49 = .ok (.getfield 12, 3) := by decide +kernel
theorem gdX11_weigh_52 : decode cX11_weigh 52 = .ok (.iload_n 2, 1) := by decide +kernel
theorem gdX11_weigh_53 : decode cX11_weigh 53 = .ok (.iconst 2, 1) := by decide +kernel
theorem gdX11_weigh_54 : decode cX11_weigh 54 = .ok (.invokevirtual 504, 3) := by decide +kernel
theorem gdX11_weigh_57 : decode cX11_weigh 57 = .ok (.aload_n 0, 1) := by decide +kernel
theorem gdX11_weigh_58 : decode cX11_weigh 58 = .ok (.getfield 26, 3) := by decide +kernel
theorem gdX11_weigh_61 : decode cX11_weigh 61 = .ok (.lload 4, 2) := by decide +kernel
theorem gdX11_weigh_63 : decode cX11_weigh 63 = .ok (.invokevirtual 408, 3) := by decide +kernel
theorem gdX11_weigh_66 : decode cX11_weigh 66 = .ok (.imul, 1) := by decide +kernel
theorem gdX11_weigh_67 : decode cX11_weigh 67 = .ok (.iadd, 1) := by decide +kernel
theorem gdX11_weigh_68 : decode cX11_weigh 68 = .ok (.aload_n 0, 1) := by decide +kernel
theorem gdX11_weigh_69 : decode cX11_weigh 69 = .ok (.getfield 12, 3) := by decide +kernel
theorem gdX11_weigh_72 : decode cX11_weigh 72 = .ok (.iload_n 2, 1) := by decide +kernel
theorem gdX11_weigh_73 : decode cX11_weigh 73 = .ok (.iconst 3, 1) := by decide +kernel
theorem gdX11_weigh_74 : decode cX11_weigh 74 = .ok (.invokevirtual 504, 3) := by decide +kernel
theorem gdX11_weigh_77 : decode cX11_weigh 77 = .ok (.aload_n 0, 1) := by decide +kernel
theorem gdX11_weigh_78 : decode cX11_weigh 78 = .ok (.getfield 33, 3) := by decide +kernel
theorem gdX11_weigh_81 : decode cX11_weigh 81 = .ok (.aload_n 0, 1) := by decide +kernel
theorem gdX11_weigh_82 : decode cX11_weigh 82 = .ok (.iload_n 1, 1) := by decide +kernel
theorem gdX11_weigh_83 : decode cX11_weigh 83 = .ok (.iload_n 3, 1) := by decide +kernel
theorem gdX11_weigh_84 : decode cX11_weigh 84 = .ok (.invokevirtual 398, 3) := by decide +kernel
theorem gdX11_weigh_87 : decode cX11_weigh 87 = .ok (.invokevirtual 405, 3) := by decide +kernel
theorem gdX11_weigh_90 : decode cX11_weigh 90 = .ok (.imul, 1) := by decide +kernel
theorem gdX11_weigh_91 : decode cX11_weigh 91 = .ok (.iadd, 1) := by decide +kernel
theorem gdX11_weigh_92 : decode cX11_weigh 92 = .ok (.ireturn, 1) := by decide +kernel
theorem gdX11_best_22 : decode cX11_best 22 = .ok (.iconst (-1), 1) := by decide +kernel
theorem gdX11_best_23 : decode cX11_best 23 = .ok (.ireturn, 1) := by decide +kernel
theorem gdX11_best_134 : decode cX11_best 134 = .ok (.iload 4, 2) := by decide +kernel
theorem gdX11_best_136 : decode cX11_best 136 = .ok (.ireturn, 1) := by decide +kernel
theorem gdX11_best_120 : decode cX11_best 120 = .ok (.iload 4, 2) := by decide +kernel
theorem gdX11_best_122 : decode cX11_best 122 = .ok (.bipush (-9), 2) := by decide +kernel
theorem gdX11_best_124 : decode cX11_best 124 = .ok (.if_icmp .eq 10, 3) := by decide +kernel
theorem gdX11_best_127 : decode cX11_best 127 = .ok (.aload_n 0, 1) := by decide +kernel
theorem gdX11_best_128 : decode cX11_best 128 = .ok (.iload 5, 2) := by decide +kernel
theorem gdX11_best_130 : decode cX11_best 130 = .ok (.invokevirtual 117, 3) := by decide +kernel
theorem gdX11_best_133 : decode cX11_best 133 = .ok (.pop, 1) := by decide +kernel
theorem gdX11_best_114 : decode cX11_best 114 = .ok (.iinc 6 1, 3) := by decide +kernel
theorem gdX11_best_117 : decode cX11_best 117 = .ok (.goto (-66), 3) := by decide +kernel
theorem gdX11_best_106 : decode cX11_best 106 = .ok (.iload 6, 2) := by decide +kernel
theorem gdX11_best_108 : decode cX11_best 108 = .ok (.istore 4, 2) := by decide +kernel
theorem gdX11_best_110 : decode cX11_best 110 = .ok (.iload 7, 2) := by decide +kernel
theorem gdX11_best_112 : decode cX11_best 112 = .ok (.istore 5, 2) := by decide +kernel
theorem gdX11_best_51 : decode cX11_best 51 = .ok (.iload 6, 2) := by decide +kernel
theorem gdX11_best_53 : decode cX11_best 53 = .ok (.aload_n 0, 1) := by decide +kernel
theorem gdX11_best_54 : decode cX11_best 54 = .ok (.getfield 52, 3) := by decide +kernel
theorem gdX11_best_57 : decode cX11_best 57 = .ok (.invokevirtual 218, 3) := by decide +kernel
theorem gdX11_best_60 : decode cX11_best 60 = .ok (.if_icmp .ge 60, 3) := by decide +kernel
theorem gdX11_best_63 : decode cX11_best 63 = .ok (.aload_n 0, 1) := by decide +kernel
theorem gdX11_best_64 : decode cX11_best 64 = .ok (.getfield 52, 3) := by decide +kernel
theorem gdX11_best_67 : decode cX11_best 67 = .ok (.iload 6, 2) := by decide +kernel
theorem gdX11_best_69 : decode cX11_best 69 = .ok (.invokevirtual 302, 3) := by decide +kernel
theorem gdX11_best_72 : decode cX11_best 72 = .ok (.iconst 1, 1) := by decide +kernel
theorem gdX11_best_73 : decode cX11_best 73 = .ok (.if_icmp .eq 6, 3) := by decide +kernel
theorem gdX11_best_79 : decode cX11_best 79 = .ok (.aload_n 0, 1) := by decide +kernel
theorem gdX11_best_80 : decode cX11_best 80 = .ok (.iload 6, 2) := by decide +kernel
theorem gdX11_best_82 : decode cX11_best 82 = .ok (.iload_n 1, 1) := by decide +kernel
theorem gdX11_best_83 : decode cX11_best 83 = .ok (.iload_n 2, 1) := by decide +kernel
theorem gdX11_best_84 : decode cX11_best 84 = .ok (.invokevirtual 462, 3) := by decide +kernel
theorem gdX11_best_87 : decode cX11_best 87 = .ok (.istore 7, 2) := by decide +kernel
theorem gdX11_best_89 : decode cX11_best 89 = .ok (.iload 4, 2) := by decide +kernel
theorem gdX11_best_91 : decode cX11_best 91 = .ok (.bipush (-9), 2) := by decide +kernel
theorem gdX11_best_93 : decode cX11_best 93 = .ok (.if_icmp .eq 13, 3) := by decide +kernel
theorem gdX11_best_96 : decode cX11_best 96 = .ok (.iload 7, 2) := by decide +kernel
theorem gdX11_best_98 : decode cX11_best 98 = .ok (.iload 5, 2) := by decide +kernel
theorem gdX11_best_100 : decode cX11_best 100 = .ok (.if_icmp .lt 6, 3) := by decide +kernel
theorem gdX11_best_103 : decode cX11_best 103 = .ok (.goto 11, 3) := by decide +kernel
theorem gdX11_best_76 : decode cX11_best 76 = .ok (.goto 38, 3) := by decide +kernel
theorem gdX11_best_0 : decode cX11_best 0 = .ok (.aload_n 0, 1) := by decide +kernel
theorem gdX11_best_1 : decode cX11_best 1 = .ok (.getfield 12, 3) := by decide +kernel
theorem gdX11_best_4 : decode cX11_best 4 = .ok (.iload_n 1, 1) := by decide +kernel
theorem gdX11_best_5 : decode cX11_best 5 = .ok (.invokevirtual 95, 3) := by decide +kernel
theorem gdX11_best_8 : decode cX11_best 8 = .ok (.ifCond .eq 14, 3) := by decide +kernel
theorem gdX11_best_11 : decode cX11_best 11 = .ok (.aload_n 0, 1) := by decide +kernel
theorem gdX11_best_12 : decode cX11_best 12 = .ok (.getfield 12, 3) := by decide +kernel
theorem gdX11_best_15 : decode cX11_best 15 = .ok (.iload_n 2, 1) := by decide +kernel
theorem gdX11_best_16 : decode cX11_best 16 = .ok (.invokevirtual 95, 3) := by decide +kernel
theorem gdX11_best_19 : decode cX11_best 19 = .ok (.ifCond .ne 5, 3) := by decide +kernel
theorem gdX11_best_24 : decode cX11_best 24 = .ok (.aload_n 0, 1) := by decide +kernel
theorem gdX11_best_25 : decode cX11_best 25 = .ok (.iload_n 1, 1) := by decide +kernel
theorem gdX11_best_26 : decode cX11_best 26 = .ok (.iload_n 2, 1) := by decide +kernel
theorem gdX11_best_27 : decode cX11_best 27 = .ok (.invokevirtual 459, 3) := by decide +kernel
theorem gdX11_best_30 : decode cX11_best 30 = .ok (.istore_n 3, 1) := by decide +kernel
theorem gdX11_best_31 : decode cX11_best 31 = .ok (.iload_n 3, 1) := by decide +kernel
theorem gdX11_best_32 : decode cX11_best 32 = .ok (.ifCond .eq 9, 3) := by decide +kernel
theorem gdX11_best_41 : decode cX11_best 41 = .ok (.bipush (-9), 2) := by decide +kernel
theorem gdX11_best_43 : decode cX11_best 43 = .ok (.istore 4, 2) := by decide +kernel
theorem gdX11_best_45 : decode cX11_best 45 = .ok (.iconst 0, 1) := by decide +kernel
theorem gdX11_best_46 : decode cX11_best 46 = .ok (.istore 5, 2) := by decide +kernel
theorem gdX11_best_48 : decode cX11_best 48 = .ok (.iconst 0, 1) := by decide +kernel
theorem gdX11_best_49 : decode cX11_best 49 = .ok (.istore 6, 2) := by decide +kernel
theorem gdX11_best_35 : decode cX11_best 35 = .ok (.aload_n 0, 1) := by decide +kernel
theorem gdX11_best_36 : decode cX11_best 36 = .ok (.iload_n 3, 1) := by decide +kernel
theorem gdX11_best_37 : decode cX11_best 37 = .ok (.invokevirtual 99, 3) := by decide +kernel
theorem gdX11_best_40 : decode cX11_best 40 = .ok (.ireturn, 1) := by decide +kernel
theorem gdX3_isCell_15 : decode cX3_isCell 15 = .ok (.ireturn, 1) := by decide +kernel
theorem gdX3_isCell_14 : decode cX3_isCell 14 = .ok (.iconst 0, 1) := by decide +kernel
theorem gdX3_isCell_0 : decode cX3_isCell 0 = .ok (.iload_n 0, 1) := by decide +kernel
theorem gdX3_isCell_1 : decode cX3_isCell 1 = .ok (.ifCond .lt 13, 3) := by decide +kernel
theorem gdX3_isCell_4 : decode cX3_isCell 4 = .ok (.iload_n 0, 1) := by decide +kernel
theorem gdX3_isCell_5 : decode cX3_isCell 5 = .ok (.bipush 64, 2) := by decide +kernel
theorem gdX3_isCell_7 : decode cX3_isCell 7 = .ok (.if_icmp .ge 7, 3) := by decide +kernel
theorem gdX3_isCell_10 : decode cX3_isCell 10 = .ok (.iconst 1, 1) := by decide +kernel
theorem gdX3_isCell_11 : decode cX3_isCell 11 = .ok (.goto 4, 3) := by decide +kernel
theorem gdX1_isUse_14 : decode cX1_isUse 14 = .ok (.ireturn, 1) := by decide +kernel
theorem gdX1_isUse_13 : decode cX1_isUse 13 = .ok (.iconst 0, 1) := by decide +kernel
theorem gdX1_isUse_0 : decode cX1_isUse 0 = .ok (.iload_n 0, 1) := by decide +kernel
theorem gdX1_isUse_1 : decode cX1_isUse 1 = .ok (.ifCond .lt 12, 3) := by decide +kernel
theorem gdX1_isUse_4 : decode cX1_isUse 4 = .ok (.iload_n 0, 1) := by decide +kernel
theorem gdX1_isUse_5 : decode cX1_isUse 5 = .ok (.iconst 2, 1) := by decide +kernel
theorem gdX1_isUse_6 : decode cX1_isUse 6 = .ok (.if_icmp .gt 7, 3) := by decide +kernel
theorem gdX1_isUse_9 : decode cX1_isUse 9 = .ok (.iconst 1, 1) := by decide +kernel
theorem gdX1_isUse_10 : decode cX1_isUse 10 = .ok (.goto 4, 3) := by decide +kernel
theorem gdX1_isWorth_16 : decode cX1_isWorth 16 = .ok (.ireturn, 1) := by decide +kernel
theorem gdX1_isWorth_15 : decode cX1_isWorth 15 = .ok (.iconst 0, 1) := by decide +kernel
theorem gdX1_isWorth_0 : decode cX1_isWorth 0 = .ok (.iload_n 0, 1) := by decide +kernel
theorem gdX1_isWorth_1 : decode cX1_isWorth 1 = .ok (.iconst 1, 1) := by decide +kernel
theorem gdX1_isWorth_2 : decode cX1_isWorth 2 = .ok (.if_icmp .lt 13, 3) := by decide +kernel
theorem gdX1_isWorth_5 : decode cX1_isWorth 5 = .ok (.iload_n 0, 1) := by decide +kernel
theorem gdX1_isWorth_6 : decode cX1_isWorth 6 = .ok (.ldc 57, 2) := by decide +kernel
theorem gdX1_isWorth_8 : decode cX1_isWorth 8 = .ok (.if_icmp .gt 7, 3) := by decide +kernel
theorem gdX1_isWorth_11 : decode cX1_isWorth 11 = .ok (.iconst 1, 1) := by decide +kernel
theorem gdX1_isWorth_12 : decode cX1_isWorth 12 = .ok (.goto 4, 3) := by decide +kernel
theorem gdX1_number_0 : decode cX1_number 0 = .ok (.aload_n 0, 1) := by decide +kernel
theorem gdX1_number_1 : decode cX1_number 1 = .ok (.getfield 58, 3) := by decide +kernel
theorem gdX1_number_4 : decode cX1_number 4 = .ok (.ireturn, 1) := by decide +kernel
theorem okm_X0_exists : okM yX0_exists cX0_exists 2 (some .boolean) 1 := ⟨w_1305, w_101, by decide +kernel, by decide +kernel, by decide +kernel⟩
theorem okw_X0_exists : okV yX0_exists := ⟨w_1303, w_1304⟩
theorem okm_X0_laterBy : okM yX0_laterBy cX0_laterBy 2 (some .int) 1 := ⟨w_1309, w_101, by decide +kernel, by decide +kernel, by decide +kernel⟩
theorem okw_X0_laterBy : okV yX0_laterBy := ⟨w_1307, w_1308⟩
theorem okm_X11_tell : okM yX11_tell cX11_tell 2 (some .int) 1 := ⟨w_554, w_89, by decide +kernel, by decide +kernel, by decide +kernel⟩
theorem okw_X11_tell : okV yX11_tell := ⟨w_553, w_1⟩
theorem okm_X0_endOf : okM yX0_endOf cX0_endOf 2 (some .int) 1 := ⟨w_1313, w_101, by decide +kernel, by decide +kernel, by decide +kernel⟩
theorem okw_X0_endOf : okV yX0_endOf := ⟨w_1311, w_1312⟩
theorem okm_X8_at : okM yX8_at cX8_at 3 (some .int) 2 := ⟨w_600, w_90, by decide +kernel, by decide +kernel, by decide +kernel⟩
theorem okw_X8_at : okV yX8_at := ⟨w_598, w_599⟩
theorem okm_X0_isOpen : okM yX0_isOpen cX0_isOpen 2 (some .boolean) 1 := ⟨w_1279, w_101, by decide +kernel, by decide +kernel, by decide +kernel⟩
theorem okw_X0_isOpen : okV yX0_isOpen := ⟨w_1278, w_25⟩
theorem okm_X0_endAhead : okM yX0_endAhead cX0_endAhead 2 (some .int) 1 := ⟨w_1283, w_101, by decide +kernel, by decide +kernel, by decide +kernel⟩
theorem okw_X0_endAhead : okV yX0_endAhead := ⟨w_1282, w_26⟩
theorem okm_J7_fill_53178 : okM yJ7_fill_53178 cJ7_fill_53178 4 none 2 := ⟨w_125, w_92, by decide +kernel, by decide +kernel, by decide +kernel⟩
theorem okm_X0_holdBack : okM yX0_holdBack cX0_holdBack 3 none 2 := ⟨w_1296, w_101, by decide +kernel, by decide +kernel, by decide +kernel⟩
theorem okw_X0_holdBack : okV yX0_holdBack := ⟨w_1295, w_29⟩
theorem okm_X0_drawEnds : okM yX0_drawEnds cX0_drawEnds 11 (some .boolean) 4 := ⟨w_1274, w_101, by decide +kernel, by decide +kernel, by decide +kernel⟩
theorem okw_X0_drawEnds : okV yX0_drawEnds := ⟨w_1273, w_24⟩
theorem okm_X0_keep : okM yX0_keep cX0_keep 3 none 1 := ⟨w_1288, w_101, by decide +kernel, by decide +kernel, by decide +kernel⟩
theorem okw_X0_keep : okV yX0_keep := ⟨w_1287, w_27⟩
theorem okm_X0_drawLatest : okM yX0_drawLatest cX0_drawLatest 6 none 2 := ⟨w_1292, w_101, by decide +kernel, by decide +kernel, by decide +kernel⟩
theorem okw_X0_drawLatest : okV yX0_drawLatest := ⟨w_1291, w_28⟩
theorem okm_X0_isAhead : okM yX0_isAhead cX0_isAhead 2 (some .boolean) 2 := ⟨w_1270, w_101, by decide +kernel, by decide +kernel, by decide +kernel⟩
theorem okm_X8_sizeOf : okM yX8_sizeOf cX8_sizeOf 2 (some .int) 1 := ⟨w_596, w_90, by decide +kernel, by decide +kernel, by decide +kernel⟩
theorem okw_X8_sizeOf : okV yX8_sizeOf := ⟨w_594, w_595⟩
theorem okm_X11_found : okM yX11_found cX11_found 2 (some .int) 1 := ⟨w_524, w_89, by decide +kernel, by decide +kernel, by decide +kernel⟩
theorem okw_X11_found : okV yX11_found := ⟨w_523, w_0⟩
theorem okm_X8_exists : okM yX8_exists cX8_exists 2 (some .boolean) 1 := ⟨w_520, w_90, by decide +kernel, by decide +kernel, by decide +kernel⟩
theorem okw_X8_exists : okV yX8_exists := ⟨w_518, w_519⟩
theorem okm_X8_isThere : okM yX8_isThere cX8_isThere 2 (some .boolean) 1 := ⟨w_542, w_90, by decide +kernel, by decide +kernel, by decide +kernel⟩
theorem okw_X8_isThere : okV yX8_isThere := ⟨w_540, w_541⟩
theorem okm_X0_draw : okM yX0_draw cX0_draw 7 (some .boolean) 3 := ⟨w_1265, w_101, by decide +kernel, by decide +kernel, by decide +kernel⟩
theorem okw_X0_draw : okV yX0_draw := ⟨w_1263, w_1264⟩
theorem okm_X8_allWithin : okM yX8_allWithin cX8_allWithin 5 (some .boolean) 3 := ⟨w_798, w_90, by decide +kernel, by decide +kernel, by decide +kernel⟩
theorem okw_X8_allWithin : okV yX8_allWithin := ⟨w_796, w_797⟩
theorem okm_X3_has : okM yX3_has cX3_has 3 (some .boolean) 2 := ⟨w_840, w_93, by decide +kernel, by decide +kernel, by decide +kernel⟩
theorem okm_X7_deciding : okM yX7_deciding cX7_deciding 6 (some .int) 3 := ⟨w_778, w_96, by decide +kernel, by decide +kernel, by decide +kernel⟩
theorem okw_X7_deciding : okV yX7_deciding := ⟨w_776, w_777⟩
theorem okm_X7_valueFor : okM yX7_valueFor cX7_valueFor 5 (some .int) 3 := ⟨w_774, w_96, by decide +kernel, by decide +kernel, by decide +kernel⟩
theorem okw_X7_valueFor : okV yX7_valueFor := ⟨w_772, w_773⟩
theorem okm_X3_spreadAside : okM yX3_spreadAside cX3_spreadAside 2 (some .long) 1 := ⟨w_899, w_93, by decide +kernel, by decide +kernel, by decide +kernel⟩
theorem okm_X3_spread : okM yX3_spread cX3_spread 2 (some .long) 1 := ⟨w_896, w_93, by decide +kernel, by decide +kernel, by decide +kernel⟩
theorem okm_X11_inForce : okM yX11_inForce cX11_inForce 2 (some .int) 1 := ⟨w_812, w_89, by decide +kernel, by decide +kernel, by decide +kernel⟩
theorem okw_X11_inForce : okV yX11_inForce := ⟨w_811, w_4⟩
theorem okm_X4_cells : okM yX4_cells cX4_cells 2 (some .long) 1 := ⟨w_893, w_97, by decide +kernel, by decide +kernel, by decide +kernel⟩
theorem okw_X4_cells : okV yX4_cells := ⟨w_891, w_892⟩
theorem okm_X1_stands : okM yX1_stands cX1_stands 3 (some .boolean) 2 := ⟨w_714, w_94, by decide +kernel, by decide +kernel, by decide +kernel⟩
theorem okw_X1_stands : okV yX1_stands := ⟨w_712, w_713⟩
theorem okm_X4_costOf : okM yX4_costOf cX4_costOf 2 (some .int) 1 := ⟨w_1057, w_97, by decide +kernel, by decide +kernel, by decide +kernel⟩
theorem okw_X4_costOf : okV yX4_costOf := ⟨w_1055, w_1056⟩
theorem okm_X1_dwellersIn : okM yX1_dwellersIn cX1_dwellersIn 5 (some .int) 1 := ⟨w_1212, w_94, by decide +kernel, by decide +kernel, by decide +kernel⟩
theorem okw_X1_dwellersIn : okV yX1_dwellersIn := ⟨w_1210, w_1211⟩
theorem okm_X3_parksIn : okM yX3_parksIn cX3_parksIn 5 (some .int) 1 := ⟨w_1224, w_93, by decide +kernel, by decide +kernel, by decide +kernel⟩
theorem okw_X3_parksIn : okV yX3_parksIn := ⟨w_1222, w_1223⟩
theorem okm_X11_loudCells : okM yX11_loudCells cX11_loudCells 11 (some .long) 2 := ⟨w_1208, w_89, by decide +kernel, by decide +kernel, by decide +kernel⟩
theorem okw_X11_loudCells : okV yX11_loudCells := ⟨w_1207, w_21⟩
theorem okm_X1_housesIn : okM yX1_housesIn cX1_housesIn 5 (some .int) 1 := ⟨w_1216, w_94, by decide +kernel, by decide +kernel, by decide +kernel⟩
theorem okw_X1_housesIn : okV yX1_housesIn := ⟨w_1214, w_1215⟩
theorem okm_X4_number : okM yX4_number cX4_number 1 (some .int) 0 := ⟨w_793, w_97, by decide +kernel, by decide +kernel, by decide +kernel⟩
theorem okw_X4_number : okV yX4_number := ⟨w_791, w_792⟩
theorem okm_X4_kindOf : okM yX4_kindOf cX4_kindOf 2 (some .int) 1 := ⟨w_982, w_97, by decide +kernel, by decide +kernel, by decide +kernel⟩
theorem okw_X4_kindOf : okV yX4_kindOf := ⟨w_980, w_981⟩
theorem okm_X11_weigh : okM yX11_weigh cX11_weigh 6 (some .int) 3 := ⟨w_1380, w_89, by decide +kernel, by decide +kernel, by decide +kernel⟩
theorem okw_X11_weigh : okV yX11_weigh := ⟨w_1379, w_36⟩
theorem okm_X11_weighingFault : okM yX11_weighingFault cX11_weighingFault 3 (some .int) 2 := ⟨w_1376, w_89, by decide +kernel, by decide +kernel, by decide +kernel⟩
theorem okw_X11_weighingFault : okV yX11_weighingFault := ⟨w_1375, w_35⟩
set_option maxHeartbeats 4000000 in
set_option maxRecDepth 100000 in
theorem c_X0_exists (l : Launch) (g : GG) (ad : Nat → Nat) (o : OO) (x1 : Int) (v : Int) (h : s_X0_exists o x1 = some v) : CI l g yX0_exists cX0_exists 2 (some .boolean) 0 0 (wC g ad o) [.ref (ad 66), iv x1] v (wC g ad o) := by
  refine met_I (by decide) (Nat.le_of_ble_eq_true rfl) ?_
  intro X E hQ
  show Go X 0 (wC g ad o) [(0, .ref (ad 66)), (1, iv x1)] []
  have j17 : ∀ (y0 : Int), b_X0_exists_17 o y0 = some v → Go X 17 (wC g ad o) [] [iv y0] := by
    intro y0 h
    unfold b_X0_exists_17 at h
    obtain ⟨hz, h⟩ := qZ_of h
    exact g_zret E hQ hz (Option.some.inj h) rfl gdX0_exists_17
  have j16 : b_X0_exists_16 o = some v → Go X 16 (wC g ad o) [] [] := by
    intro h
    unfold b_X0_exists_16 at h
    refine g_iconst E gdX0_exists_16 ?_
    exact j17 0 h
  unfold s_X0_exists at h
  refine g_iload_n E gdX0_exists_0 rfl 1 rfl ?_
  refine g_if_lt E 16 gdX0_exists_1 (by decide) h (fun h => ?_) (fun h => ?_)
  ·
    refine g_sub E [] rfl ?_
    exact j16  h
  ·
    refine g_iload_n E gdX0_exists_4 rfl 1 rfl ?_
    refine g_aload_n E gdX0_exists_5 rfl 0 rfl ?_
    refine g_get (T := TX0) E fw_X0 66 (wC_66 g ad o) rfl 0 (by decide) w_412 rfl rfl gdX0_exists_6 ?_
    refine g_icmp_ge E 16 gdX0_exists_9 (by decide) h (fun h => ?_) (fun h => ?_)
    ·
      refine g_sub E [] rfl ?_
      exact j16  h
    ·
      refine g_iconst E gdX0_exists_12 ?_
      refine g_goto E 17 gdX0_exists_13 (by decide) ?_
      refine g_sub E [] rfl ?_
      exact j17 1 h
set_option maxHeartbeats 4000000 in
set_option maxRecDepth 100000 in
theorem c_X0_laterBy (l : Launch) (g : GG) (ad : Nat → Nat) (o : OO) (x1 : Int) (v : Int) (h : s_X0_laterBy o x1 = some v) : CI l g yX0_laterBy cX0_laterBy 2 (some .int) 0 0 (wC g ad o) [.ref (ad 66), iv x1] v (wC g ad o) := by
  refine met_I (by decide) (Nat.le_of_ble_eq_true rfl) ?_
  intro X E hQ
  show Go X 0 (wC g ad o) [(0, .ref (ad 66)), (1, iv x1)] []
  unfold s_X0_laterBy at h
  refine g_aload_n E gdX0_laterBy_0 rfl 0 rfl ?_
  refine g_get (T := TX0) E fw_X0 66 (wC_66 g ad o) rfl 3 (by decide) w_417 rfl rfl gdX0_laterBy_1 ?_
  refine g_iload_n E gdX0_laterBy_4 rfl 1 rfl ?_
  obtain ⟨hi1, h⟩ := qIn_of h
  refine g_iald E 68 (wC_68 g ad o) (by decide) hi1 gdX0_laterBy_5 ?_
  obtain ⟨n2, e_n2, h⟩ := qNm_of h
  refine g_nmi e_n2 ?_
  refine g_aload_n E gdX0_laterBy_6 rfl 0 rfl ?_
  refine g_get (T := TX0) E fw_X0 66 (wC_66 g ad o) rfl 2 (by decide) w_416 rfl rfl gdX0_laterBy_7 ?_
  refine g_iload_n E gdX0_laterBy_10 rfl 1 rfl ?_
  obtain ⟨hi3, h⟩ := qIn_of h
  refine g_iald E 67 (wC_67 g ad o) (by decide) hi3 gdX0_laterBy_11 ?_
  obtain ⟨n4, e_n4, h⟩ := qNm_of h
  refine g_nmi e_n4 ?_
  refine g_isub E gdX0_laterBy_12 ?_
  exact g_iret E hQ (Option.some.inj h) rfl gdX0_laterBy_13
set_option maxHeartbeats 4000000 in
set_option maxRecDepth 100000 in
theorem c_X11_tell (l : Launch) (g : GG) (ad : Nat → Nat) (o : OO) (x1 : Int) (v : Int × OO) (h : s_X11_tell o x1 = some v) : CI l g yX11_tell cX11_tell 2 (some .int) 0 0 (wC g ad o) [.ref (ad 0), iv x1] v.1 (wC g ad v.2) := by
  refine met_I (by decide) (Nat.le_of_ble_eq_true rfl) ?_
  intro X E hQ
  show Go X 0 (wC g ad o) [(0, .ref (ad 0)), (1, iv x1)] []
  unfold s_X11_tell at h
  refine g_aload_n E gdX11_tell_0 rfl 0 rfl ?_
  refine g_iload_n E gdX11_tell_1 rfl 1 rfl ?_
  obtain ⟨o1, e_o1, h⟩ := qNm_of h
  refine g_puti (T := TX11) (ws' := wC g ad o1) E fw_X11 tyX11 tyX11_ok nmX11 0 (wC_0 g ad o) rfl 14 (by decide) w_472 rfl rfl (by decide +kernel) (Nat.le_of_ble_eq_true rfl) (by rw [e_o1]; exact wC_p0_14 g ad o _) gdX11_tell_2 ?_
  refine g_iconst E gdX11_tell_5 ?_
  exact g_iret E hQ (by rw [← Option.some.inj h]) (by rw [← Option.some.inj h]) gdX11_tell_6
set_option maxHeartbeats 4000000 in
set_option maxRecDepth 100000 in
theorem c_X0_endOf (l : Launch) (g : GG) (ad : Nat → Nat) (o : OO) (x1 : Int) (v : Int) (h : s_X0_endOf o x1 = some v) : CI l g yX0_endOf cX0_endOf 2 (some .int) 0 0 (wC g ad o) [.ref (ad 66), iv x1] v (wC g ad o) := by
  refine met_I (by decide) (Nat.le_of_ble_eq_true rfl) ?_
  intro X E hQ
  show Go X 0 (wC g ad o) [(0, .ref (ad 66)), (1, iv x1)] []
  unfold s_X0_endOf at h
  refine g_aload_n E gdX0_endOf_0 rfl 0 rfl ?_
  refine g_get (T := TX0) E fw_X0 66 (wC_66 g ad o) rfl 2 (by decide) w_416 rfl rfl gdX0_endOf_1 ?_
  refine g_iload_n E gdX0_endOf_4 rfl 1 rfl ?_
  obtain ⟨hi1, h⟩ := qIn_of h
  refine g_iald E 67 (wC_67 g ad o) (by decide) hi1 gdX0_endOf_5 ?_
  obtain ⟨n2, e_n2, h⟩ := qNm_of h
  refine g_nmi e_n2 ?_
  exact g_iret E hQ (Option.some.inj h) rfl gdX0_endOf_6
set_option maxHeartbeats 4000000 in
set_option maxRecDepth 100000 in
theorem c_X11_act (l : Launch) (g : GG) (ad : Nat → Nat) (o : OO) (x1 : Int) (v : Int × OO) (h : s_X11_act o x1 = some v) : CI l g yX11_act cX11_act 2 (some .int) 1 21 (wC g ad o) [.ref (ad 0), iv x1] v.1 (wC g ad v.2) := by
  refine met_I (by decide) (Nat.le_of_ble_eq_true rfl) ?_
  intro X E hQ
  show Go X 0 (wC g ad o) [(0, .ref (ad 0)), (1, iv x1)] []
  unfold s_X11_act at h
  refine g_aload_n E gdX11_act_0 rfl 0 rfl ?_
  refine g_get (T := TX11) E fw_X11 0 (wC_0 g ad o) rfl 10 (by decide) w_468 rfl rfl gdX11_act_1 ?_
  refine g_iload_n E gdX11_act_4 rfl 1 rfl ?_
  obtain ⟨r1, hc2, h⟩ := qB_of h
  refine g_Vi (r := r1) (As := [iv x1]) (rest := []) (w := wC g ad o) E (c_X0_exists l g ad o x1 r1 hc2) okm_X0_exists okw_X0_exists w_1302 rfl (wC_66 g ad o) rfl rfl (Nat.le_of_ble_eq_true rfl) ⟨Nat.le_of_ble_eq_true rfl, Nat.le_of_ble_eq_true rfl⟩ gdX11_act_5 ?_
  refine g_if_ne E 14 gdX11_act_8 (by decide) h (fun h => ?_) (fun h => ?_)
  ·
    refine g_aload_n E gdX11_act_14 rfl 0 rfl ?_
    refine g_aload_n E gdX11_act_15 rfl 0 rfl ?_
    refine g_get (T := TX11) E fw_X11 0 (wC_0 g ad o) rfl 10 (by decide) w_468 rfl rfl gdX11_act_16 ?_
    refine g_iload_n E gdX11_act_19 rfl 1 rfl ?_
    obtain ⟨r3, hc4, h⟩ := qB_of h
    refine g_Vi (r := r3) (As := [iv x1]) (rest := [.ref (ad 0)]) (w := wC g ad o) E (c_X0_laterBy l g ad o x1 r3 hc4) okm_X0_laterBy okw_X0_laterBy w_1306 rfl (wC_66 g ad o) rfl rfl (Nat.le_of_ble_eq_true rfl) ⟨Nat.le_of_ble_eq_true rfl, Nat.le_of_ble_eq_true rfl⟩ gdX11_act_20 ?_
    obtain ⟨r5, o7, hc6, h⟩ := qB2_of h
    refine g_Vi (r := r5) (As := [iv r3]) (rest := []) (w := wC g ad o7) E (c_X11_tell l g ad o r3 (r5, o7) hc6) okm_X11_tell okw_X11_tell w_551 rfl (wC_0 g ad o) rfl rfl (Nat.le_of_ble_eq_true rfl) ⟨Nat.le_of_ble_eq_true rfl, Nat.le_of_ble_eq_true rfl⟩ gdX11_act_23 ?_
    refine g_pop E gdX11_act_26 rfl ?_
    refine g_aload_n E gdX11_act_27 rfl 0 rfl ?_
    refine g_get (T := TX11) E fw_X11 0 (wC_0 g ad o7) rfl 10 (by decide) w_468 rfl rfl gdX11_act_28 ?_
    refine g_iload_n E gdX11_act_31 rfl 1 rfl ?_
    obtain ⟨r8, hc9, h⟩ := qB_of h
    refine g_Vi (r := r8) (As := [iv x1]) (rest := []) (w := wC g ad o7) E (c_X0_endOf l g ad o7 x1 r8 hc9) okm_X0_endOf okw_X0_endOf w_1310 rfl (wC_66 g ad o7) rfl rfl (Nat.le_of_ble_eq_true rfl) ⟨Nat.le_of_ble_eq_true rfl, Nat.le_of_ble_eq_true rfl⟩ gdX11_act_32 ?_
    exact g_iret E hQ (by rw [← Option.some.inj h]) (by rw [← Option.some.inj h]) gdX11_act_35
  ·
    refine g_bipush E gdX11_act_11 (by decide) ?_
    exact g_iret E hQ (by rw [← Option.some.inj h]) (by rw [← Option.some.inj h]) gdX11_act_13
set_option maxHeartbeats 4000000 in
set_option maxRecDepth 100000 in
theorem c_X8_exists (l : Launch) (g : GG) (ad : Nat → Nat) (o : OO) (x1 : Int) (v : Int) (h : s_X8_exists o x1 = some v) : CI l g yX8_exists cX8_exists 2 (some .boolean) 0 0 (wC g ad o) [.ref (ad 1), iv x1] v (wC g ad o) := by
  refine met_I (by decide) (Nat.le_of_ble_eq_true rfl) ?_
  intro X E hQ
  show Go X 0 (wC g ad o) [(0, .ref (ad 1)), (1, iv x1)] []
  have j17 : ∀ (y0 : Int), b_X8_exists_17 o y0 = some v → Go X 17 (wC g ad o) [] [iv y0] := by
    intro y0 h
    unfold b_X8_exists_17 at h
    obtain ⟨hz, h⟩ := qZ_of h
    exact g_zret E hQ hz (Option.some.inj h) rfl gdX8_exists_17
  have j16 : b_X8_exists_16 o = some v → Go X 16 (wC g ad o) [] [] := by
    intro h
    unfold b_X8_exists_16 at h
    refine g_iconst E gdX8_exists_16 ?_
    exact j17 0 h
  unfold s_X8_exists at h
  refine g_iload_n E gdX8_exists_0 rfl 1 rfl ?_
  refine g_if_lt E 16 gdX8_exists_1 (by decide) h (fun h => ?_) (fun h => ?_)
  ·
    refine g_sub E [] rfl ?_
    exact j16  h
  ·
    refine g_iload_n E gdX8_exists_4 rfl 1 rfl ?_
    refine g_aload_n E gdX8_exists_5 rfl 0 rfl ?_
    refine g_get (T := TX8) E fw_X8 1 (wC_1 g ad o) rfl 0 (by decide) w_126 rfl rfl gdX8_exists_6 ?_
    refine g_icmp_ge E 16 gdX8_exists_9 (by decide) h (fun h => ?_) (fun h => ?_)
    ·
      refine g_sub E [] rfl ?_
      exact j16  h
    ·
      refine g_iconst E gdX8_exists_12 ?_
      refine g_goto E 17 gdX8_exists_13 (by decide) ?_
      refine g_sub E [] rfl ?_
      exact j17 1 h
set_option maxHeartbeats 4000000 in
set_option maxRecDepth 100000 in
theorem c_X8_isThere (l : Launch) (g : GG) (ad : Nat → Nat) (o : OO) (x1 : Int) (v : Int) (h : s_X8_isThere o x1 = some v) : CI l g yX8_isThere cX8_isThere 2 (some .boolean) 0 0 (wC g ad o) [.ref (ad 1), iv x1] v (wC g ad o) := by
  refine met_I (by decide) (Nat.le_of_ble_eq_true rfl) ?_
  intro X E hQ
  show Go X 0 (wC g ad o) [(0, .ref (ad 1)), (1, iv x1)] []
  have j15 : ∀ (y0 : Int), b_X8_isThere_15 o y0 = some v → Go X 15 (wC g ad o) [] [iv y0] := by
    intro y0 h
    unfold b_X8_isThere_15 at h
    obtain ⟨hz, h⟩ := qZ_of h
    exact g_zret E hQ hz (Option.some.inj h) rfl gdX8_isThere_15
  unfold s_X8_isThere at h
  refine g_aload_n E gdX8_isThere_0 rfl 0 rfl ?_
  refine g_get (T := TX8) E fw_X8 1 (wC_1 g ad o) rfl 2 (by decide) w_128 rfl rfl gdX8_isThere_1 ?_
  refine g_iload_n E gdX8_isThere_4 rfl 1 rfl ?_
  obtain ⟨hi1, h⟩ := qIn_of h
  refine g_iald E 2 (wC_2 g ad o) (by decide) hi1 gdX8_isThere_5 ?_
  obtain ⟨n2, e_n2, h⟩ := qNm_of h
  refine g_nmi e_n2 ?_
  refine g_iconst E gdX8_isThere_6 ?_
  refine g_icmp_eq E 14 gdX8_isThere_7 (by decide) h (fun h => ?_) (fun h => ?_)
  ·
    refine g_iconst E gdX8_isThere_14 ?_
    refine g_sub E [] rfl ?_
    exact j15 0 h
  ·
    refine g_iconst E gdX8_isThere_10 ?_
    refine g_goto E 15 gdX8_isThere_11 (by decide) ?_
    refine g_sub E [] rfl ?_
    exact j15 1 h
set_option maxHeartbeats 4000000 in
set_option maxRecDepth 100000 in
theorem c_X11_found (l : Launch) (g : GG) (ad : Nat → Nat) (o : OO) (x1 : Int) (v : Int × OO) (h : s_X11_found o x1 = some v) : CI l g yX11_found cX11_found 2 (some .int) 0 0 (wC g ad o) [.ref (ad 0), iv x1] v.1 (wC g ad v.2) := by
  refine met_I (by decide) (Nat.le_of_ble_eq_true rfl) ?_
  intro X E hQ
  show Go X 0 (wC g ad o) [(0, .ref (ad 0)), (1, iv x1)] []
  unfold s_X11_found at h
  refine g_aload_n E gdX11_found_0 rfl 0 rfl ?_
  refine g_iload_n E gdX11_found_1 rfl 1 rfl ?_
  obtain ⟨o1, e_o1, h⟩ := qNm_of h
  refine g_puti (T := TX11) (ws' := wC g ad o1) E fw_X11 tyX11 tyX11_ok nmX11 0 (wC_0 g ad o) rfl 17 (by decide) w_475 rfl rfl (by decide +kernel) (Nat.le_of_ble_eq_true rfl) (by rw [e_o1]; exact wC_p0_17 g ad o _) gdX11_found_2 ?_
  refine g_aload_n E gdX11_found_5 rfl 0 rfl ?_
  refine g_get (T := TX11) E fw_X11 0 (wC_0 g ad o1) rfl 12 (by decide) w_470 rfl rfl gdX11_found_6 ?_
  refine g_iload_n E gdX11_found_9 rfl 1 rfl ?_
  refine g_dup2 E gdX11_found_10 rfl rfl ?_
  obtain ⟨hi2, h⟩ := qIn_of h
  refine g_iald E 77 (wC_77 g ad o1) (by decide) hi2 gdX11_found_11 ?_
  obtain ⟨n3, e_n3, h⟩ := qNm_of h
  refine g_nmi e_n3 ?_
  refine g_iconst E gdX11_found_12 ?_
  refine g_iadd E gdX11_found_13 ?_
  obtain ⟨hi4, h⟩ := qIn_of h
  obtain ⟨o5, e_o5, h⟩ := qNm_of h
  refine g_iast (ws' := wC g ad o5) E 77 (wC_77 g ad o1) (by decide) hi4 (by rw [e_o5]; exact wC_s77 g ad o1 _ _) gdX11_found_14 ?_
  refine g_bipush E gdX11_found_15 (by decide) ?_
  exact g_iret E hQ (by rw [← Option.some.inj h]) (by rw [← Option.some.inj h]) gdX11_found_17
set_option maxHeartbeats 4000000 in
set_option maxRecDepth 100000 in
theorem c_X8_sizeOf (l : Launch) (g : GG) (ad : Nat → Nat) (o : OO) (x1 : Int) (v : Int) (h : s_X8_sizeOf o x1 = some v) : CI l g yX8_sizeOf cX8_sizeOf 2 (some .int) 0 0 (wC g ad o) [.ref (ad 1), iv x1] v (wC g ad o) := by
  refine met_I (by decide) (Nat.le_of_ble_eq_true rfl) ?_
  intro X E hQ
  show Go X 0 (wC g ad o) [(0, .ref (ad 1)), (1, iv x1)] []
  unfold s_X8_sizeOf at h
  refine g_aload_n E gdX8_sizeOf_0 rfl 0 rfl ?_
  refine g_get (T := TX8) E fw_X8 1 (wC_1 g ad o) rfl 2 (by decide) w_128 rfl rfl gdX8_sizeOf_1 ?_
  refine g_iload_n E gdX8_sizeOf_4 rfl 1 rfl ?_
  obtain ⟨hi1, h⟩ := qIn_of h
  refine g_iald E 2 (wC_2 g ad o) (by decide) hi1 gdX8_sizeOf_5 ?_
  obtain ⟨n2, e_n2, h⟩ := qNm_of h
  refine g_nmi e_n2 ?_
  exact g_iret E hQ (Option.some.inj h) rfl gdX8_sizeOf_6
set_option maxHeartbeats 4000000 in
set_option maxRecDepth 100000 in
theorem c_X8_at (l : Launch) (g : GG) (ad : Nat → Nat) (o : OO) (x1 : Int) (x2 : Int) (v : Int) (h : s_X8_at o x1 x2 = some v) : CI l g yX8_at cX8_at 3 (some .int) 0 0 (wC g ad o) [.ref (ad 1), iv x1, iv x2] v (wC g ad o) := by
  refine met_I (by decide) (Nat.le_of_ble_eq_true rfl) ?_
  intro X E hQ
  show Go X 0 (wC g ad o) [(0, .ref (ad 1)), (1, iv x1), (2, iv x2)] []
  unfold s_X8_at at h
  refine g_aload_n E gdX8_at_0 rfl 0 rfl ?_
  refine g_get (T := TX8) E fw_X8 1 (wC_1 g ad o) rfl 3 (by decide) w_129 rfl rfl gdX8_at_1 ?_
  refine g_iload_n E gdX8_at_4 rfl 1 rfl ?_
  refine g_bipush E gdX8_at_5 (by decide) ?_
  refine g_imul E gdX8_at_7 ?_
  refine g_iload_n E gdX8_at_8 rfl 2 rfl ?_
  refine g_iadd E gdX8_at_9 ?_
  obtain ⟨hi1, h⟩ := qIn_of h
  refine g_iald E 3 (wC_3 g ad o) (by decide) hi1 gdX8_at_10 ?_
  obtain ⟨n2, e_n2, h⟩ := qNm_of h
  refine g_nmi e_n2 ?_
  exact g_iret E hQ (Option.some.inj h) rfl gdX8_at_11
set_option maxHeartbeats 4000000 in
set_option maxRecDepth 100000 in
theorem c_X0_isAhead (l : Launch) (g : GG) (ws : va_W) (x0 : Int) (x1 : Int) (v : Int) (h : s_X0_isAhead x0 x1 = some v) : CI l g yX0_isAhead cX0_isAhead 2 (some .boolean) 0 0 ws [iv x0, iv x1] v ws := by
  refine met_I (by decide) (Nat.le_of_ble_eq_true rfl) ?_
  intro X E hQ
  show Go X 0 ws [(0, iv x0), (1, iv x1)] []
  have j20 : ∀ (y0 : Int), b_X0_isAhead_20 y0 = some v → Go X 20 ws [] [iv y0] := by
    intro y0 h
    unfold b_X0_isAhead_20 at h
    obtain ⟨hz, h⟩ := qZ_of h
    exact g_zret E hQ hz (Option.some.inj h) rfl gdX0_isAhead_20
  have j15 : b_X0_isAhead_15  = some v → Go X 15 ws [] [] := by
    intro h
    unfold b_X0_isAhead_15 at h
    refine g_iconst E gdX0_isAhead_15 ?_
    refine g_goto E 20 gdX0_isAhead_16 (by decide) ?_
    exact j20 1 h
  have j19 : b_X0_isAhead_19  = some v → Go X 19 ws [] [] := by
    intro h
    unfold b_X0_isAhead_19 at h
    refine g_iconst E gdX0_isAhead_19 ?_
    exact j20 0 h
  unfold s_X0_isAhead at h
  refine g_iload_n E gdX0_isAhead_0 rfl 0 rfl ?_
  refine g_bipush E gdX0_isAhead_1 (by decide) ?_
  refine g_icmp_eq E 15 gdX0_isAhead_3 (by decide) h (fun h => ?_) (fun h => ?_)
  ·
    refine g_sub E [] rfl ?_
    exact j15  h
  ·
    refine g_iload_n E gdX0_isAhead_6 rfl 0 rfl ?_
    refine g_if_lt E 19 gdX0_isAhead_7 (by decide) h (fun h => ?_) (fun h => ?_)
    ·
      refine g_sub E [] rfl ?_
      exact j19  h
    ·
      refine g_iload_n E gdX0_isAhead_10 rfl 0 rfl ?_
      refine g_iload_n E gdX0_isAhead_11 rfl 1 rfl ?_
      refine g_icmp_ge E 19 gdX0_isAhead_12 (by decide) h (fun h => ?_) (fun h => ?_)
      ·
        refine g_sub E [] rfl ?_
        exact j19  h
      ·
        refine g_sub E [] rfl ?_
        exact j15  h
set_option maxHeartbeats 4000000 in
set_option maxRecDepth 100000 in
theorem c_J7_fill_53178 (l : Launch) (g : GG) (ad : Nat → Nat) (o : OO) (x1 : Int) (v : OO) (h : s_J7_fill_53178 o x1 = some v) : CV l g yJ7_fill_53178 cJ7_fill_53178 4 0 0 (wC g ad o) [.ref (ad 69), iv x1] (wC g ad v) := by
  refine met_V (by decide) (Nat.le_of_ble_eq_true rfl) ?_
  intro X E hQ
  show Go X 0 (wC g ad o) [(0, .ref (ad 69)), (1, iv x1)] []
  have j20 : ∀ (o : OO), b_J7_fill_53178_20 o = some v → Go X 20 (wC g ad o) [] [] := by
    intro o h
    unfold b_J7_fill_53178_20 at h
    exact g_vret E hQ (by rw [← Option.some.inj h]) gdJ7_fill_53178_20
  have l5 : ∀ (x1 : Int) (x3 : Int) (r : (OO)) (s0 : OO × Int), loopW (fun s => l_J7_fill_53178_5 x1 x3 s.1 s.2) s0 = some r → (∀ (o : OO), r = (o) → Go X 20 (wC g ad o) [] []) → Go X 5 (wC g ad s0.1) [(0, .ref (ad 69)), (1, iv x1), (2, iv s0.2), (3, iv x3)] [] := by
    intro x1 x3 r s0 h k1
    refine loop_rule (Head := fun s0 => Go X 5 (wC g ad s0.1) [(0, .ref (ad 69)), (1, iv x1), (2, iv s0.2), (3, iv x3)] []) h ?_
    intro s v h kk kx
    obtain ⟨o, x2⟩ := s
    have h : l_J7_fill_53178_5 x1 x3 o x2 = some v := h
    have k0 : ∀ (o : OO) (x2 : Int), v = .inl (o, x2) → Go X 5 (wC g ad o) [(0, .ref (ad 69)), (1, iv x1), (2, iv x2), (3, iv x3)] [] := fun o x2 e => kk (o, x2) e
    have k1 : ∀ (o : OO), v = .inr (o) → Go X 20 (wC g ad o) [] [] := fun o e => k1 o (kx _ e).symm
    unfold l_J7_fill_53178_5 at h
    refine g_iload_n E gdJ7_fill_53178_5 rfl 2 rfl ?_
    refine g_iload_n E gdJ7_fill_53178_6 rfl 3 rfl ?_
    refine g_icmp_ge E 20 gdJ7_fill_53178_7 (by decide) h (fun h => ?_) (fun h => ?_)
    ·
      refine g_sub E [] rfl ?_
      exact k1 o (Option.some.inj h).symm
    ·
      refine g_aload_n E gdJ7_fill_53178_10 rfl 0 rfl ?_
      refine g_iload_n E gdJ7_fill_53178_11 rfl 2 rfl ?_
      refine g_iload_n E gdJ7_fill_53178_12 rfl 1 rfl ?_
      obtain ⟨hi1, h⟩ := qIn_of h
      obtain ⟨o2, e_o2, h⟩ := qNm_of h
      refine g_iast (ws' := wC g ad o2) E 69 (wC_69 g ad o) (by decide) hi1 (by rw [e_o2]; exact wC_s69 g ad o _ _) gdJ7_fill_53178_13 ?_
      refine g_iinc E [(2, iv (x2 + 1)), (0, .ref (ad 69)), (1, iv x1), (3, iv x3)] gdJ7_fill_53178_14 2 rfl (by decide) rfl ?_
      refine g_goto E 5 gdJ7_fill_53178_17 (by decide) ?_
      refine g_sub E [1, 2, 0, 3] rfl ?_
      exact k0 o2 (x2 + 1) (Option.some.inj h).symm
  have j5 : ∀ (o : OO) (x1 : Int) (x2 : Int) (x3 : Int), e_J7_fill_53178_5 o x1 x2 x3 = some v → Go X 5 (wC g ad o) [(0, .ref (ad 69)), (1, iv x1), (2, iv x2), (3, iv x3)] [] := by
    intro o x1 x2 x3 h
    unfold e_J7_fill_53178_5 at h
    obtain ⟨r, hr, h⟩ := qB_of h
    refine l5 x1 x3 r _ hr ?_
    ·
      intro u0 e
      have e := e.symm
      subst e
      have h : b_J7_fill_53178_20 u0 = some v := h
      exact j20 u0 h
  unfold s_J7_fill_53178 at h
  refine g_iconst E gdJ7_fill_53178_0 ?_
  refine g_istore_n E [(2, iv 0), (0, .ref (ad 69)), (1, iv x1)] gdJ7_fill_53178_1 rfl (by decide) rfl ?_
  refine g_aload_n E gdJ7_fill_53178_2 rfl 1 rfl ?_
  refine g_alen (N := 13) E 69 (wC_69 g ad o) gdJ7_fill_53178_3 ?_
  refine g_istore_n E [(3, iv 13), (2, iv 0), (0, .ref (ad 69)), (1, iv x1)] gdJ7_fill_53178_4 rfl (by decide) rfl ?_
  refine g_sub E [2, 3, 1, 0] rfl ?_
  exact j5 o x1 0 13 h
set_option maxHeartbeats 4000000 in
set_option maxRecDepth 100000 in
theorem c_X0_isOpen (l : Launch) (g : GG) (ad : Nat → Nat) (o : OO) (x1 : Int) (v : Int) (h : s_X0_isOpen o x1 = some v) : CI l g yX0_isOpen cX0_isOpen 2 (some .boolean) 0 0 (wC g ad o) [.ref (ad 66), iv x1] v (wC g ad o) := by
  refine met_I (by decide) (Nat.le_of_ble_eq_true rfl) ?_
  intro X E hQ
  show Go X 0 (wC g ad o) [(0, .ref (ad 66)), (1, iv x1)] []
  have j22 : ∀ (y0 : Int), b_X0_isOpen_22 o y0 = some v → Go X 22 (wC g ad o) [] [iv y0] := by
    intro y0 h
    unfold b_X0_isOpen_22 at h
    obtain ⟨hz, h⟩ := qZ_of h
    exact g_zret E hQ hz (Option.some.inj h) rfl gdX0_isOpen_22
  have j21 : b_X0_isOpen_21 o = some v → Go X 21 (wC g ad o) [] [] := by
    intro h
    unfold b_X0_isOpen_21 at h
    refine g_iconst E gdX0_isOpen_21 ?_
    exact j22 0 h
  unfold s_X0_isOpen at h
  refine g_iload_n E gdX0_isOpen_0 rfl 1 rfl ?_
  refine g_bipush E gdX0_isOpen_1 (by decide) ?_
  refine g_icmp_eq E 21 gdX0_isOpen_3 (by decide) h (fun h => ?_) (fun h => ?_)
  ·
    refine g_sub E [] rfl ?_
    exact j21  h
  ·
    refine g_aload_n E gdX0_isOpen_6 rfl 0 rfl ?_
    refine g_get (T := TX0) E fw_X0 66 (wC_66 g ad o) rfl 4 (by decide) w_418 rfl rfl gdX0_isOpen_7 ?_
    refine g_iload_n E gdX0_isOpen_10 rfl 1 rfl ?_
    obtain ⟨hi1, h⟩ := qIn_of h
    refine g_iald E 69 (wC_69 g ad o) (by decide) hi1 gdX0_isOpen_11 ?_
    obtain ⟨n2, e_n2, h⟩ := qNm_of h
    refine g_nmi e_n2 ?_
    refine g_bipush E gdX0_isOpen_12 (by decide) ?_
    refine g_icmp_ne E 21 gdX0_isOpen_14 (by decide) h (fun h => ?_) (fun h => ?_)
    ·
      refine g_sub E [] rfl ?_
      exact j21  h
    ·
      refine g_iconst E gdX0_isOpen_17 ?_
      refine g_goto E 22 gdX0_isOpen_18 (by decide) ?_
      refine g_sub E [] rfl ?_
      exact j22 1 h
set_option maxHeartbeats 4000000 in
set_option maxRecDepth 100000 in
theorem c_X0_endAhead (l : Launch) (g : GG) (ad : Nat → Nat) (o : OO) (x1 : Int) (v : Int) (h : s_X0_endAhead o x1 = some v) : CI l g yX0_endAhead cX0_endAhead 2 (some .int) 0 0 (wC g ad o) [.ref (ad 66), iv x1] v (wC g ad o) := by
  refine met_I (by decide) (Nat.le_of_ble_eq_true rfl) ?_
  intro X E hQ
  show Go X 0 (wC g ad o) [(0, .ref (ad 66)), (1, iv x1)] []
  have j16 : ∀ (y0 : Int), b_X0_endAhead_16 o y0 = some v → Go X 16 (wC g ad o) [] [iv y0] := by
    intro y0 h
    unfold b_X0_endAhead_16 at h
    exact g_iret E hQ (Option.some.inj h) rfl gdX0_endAhead_16
  unfold s_X0_endAhead at h
  refine g_iload_n E gdX0_endAhead_0 rfl 1 rfl ?_
  refine g_bipush E gdX0_endAhead_1 (by decide) ?_
  refine g_icmp_ne E 10 gdX0_endAhead_3 (by decide) h (fun h => ?_) (fun h => ?_)
  ·
    refine g_aload_n E gdX0_endAhead_10 rfl 0 rfl ?_
    refine g_get (T := TX0) E fw_X0 66 (wC_66 g ad o) rfl 4 (by decide) w_418 rfl rfl gdX0_endAhead_11 ?_
    refine g_iload_n E gdX0_endAhead_14 rfl 1 rfl ?_
    obtain ⟨hi1, h⟩ := qIn_of h
    refine g_iald E 69 (wC_69 g ad o) (by decide) hi1 gdX0_endAhead_15 ?_
    obtain ⟨n2, e_n2, h⟩ := qNm_of h
    refine g_nmi e_n2 ?_
    refine g_sub E [] rfl ?_
    exact j16 n2 h
  ·
    refine g_iconst E gdX0_endAhead_6 ?_
    refine g_goto E 16 gdX0_endAhead_7 (by decide) ?_
    refine g_sub E [] rfl ?_
    exact j16 0 h
set_option maxHeartbeats 4000000 in
set_option maxRecDepth 100000 in
theorem c_X0_drawEnds (l : Launch) (g : GG) (ad : Nat → Nat) (o : OO) (x2 : Int) (x3 : Int) (x4 : Int) (v : Int × OO) (h : s_X0_drawEnds o x2 x3 x4 = some v) : CI l g yX0_drawEnds cX0_drawEnds 11 (some .boolean) 1 23 (wC g ad o) [.ref (ad 66), .ref (ad 1), iv x2, iv x3, iv x4] v.1 (wC g ad v.2) := by
  refine met_I (by decide) (Nat.le_of_ble_eq_true rfl) ?_
  intro X E hQ
  show Go X 0 (wC g ad o) [(0, .ref (ad 66)), (1, .ref (ad 1)), (2, iv x2), (3, iv x3), (4, iv x4)] []
  have j171 : ∀ (o : OO) (y0 : Int), b_X0_drawEnds_171 o y0 = some v → Go X 171 (wC g ad o) [] [iv y0] := by
    intro o y0 h
    unfold b_X0_drawEnds_171 at h
    obtain ⟨hz, h⟩ := qZ_of h
    exact g_zret E hQ hz (by rw [← Option.some.inj h]) (by rw [← Option.some.inj h]) gdX0_drawEnds_171
  have j160 : ∀ (o : OO) (x3 : Int) (x5 : Int), b_X0_drawEnds_160 o x3 x5 = some v → Go X 160 (wC g ad o) [(3, iv x3), (5, iv x5)] [] := by
    intro o x3 x5 h
    unfold b_X0_drawEnds_160 at h
    refine g_iload E gdX0_drawEnds_160 1 rfl ?_
    refine g_iload_n E gdX0_drawEnds_162 rfl 0 rfl ?_
    refine g_icmp_ne E 170 gdX0_drawEnds_163 (by decide) h (fun h => ?_) (fun h => ?_)
    ·
      refine g_iconst E gdX0_drawEnds_170 ?_
      refine g_sub E [] rfl ?_
      exact j171 o 0 h
    ·
      refine g_iconst E gdX0_drawEnds_166 ?_
      refine g_goto E 171 gdX0_drawEnds_167 (by decide) ?_
      refine g_sub E [] rfl ?_
      exact j171 o 1 h
  have j154 : ∀ (o : OO) (x2 : Int) (x3 : Int) (x4 : Int) (x5 : Int) (x6 : Int) (v : (OO × Int × Int) ⊕ ((OO × Int))), b_X0_drawEnds_154 o x2 x3 x4 x5 x6 = some v → (∀ (o : OO) (x5 : Int) (x6 : Int), v = .inl (o, x5, x6) → Go X 15 (wC g ad o) [(0, .ref (ad 66)), (1, .ref (ad 1)), (2, iv x2), (3, iv x3), (4, iv x4), (5, iv x5), (6, iv x6)] []) → (∀ (o : OO) (x5 : Int), v = .inr ((o, x5)) → Go X 160 (wC g ad o) [(3, iv x3), (5, iv x5)] []) → Go X 154 (wC g ad o) [(0, .ref (ad 66)), (1, .ref (ad 1)), (2, iv x2), (3, iv x3), (4, iv x4), (5, iv x5), (6, iv x6)] [] := by
    intro o x2 x3 x4 x5 x6 v h k0 k1
    unfold b_X0_drawEnds_154 at h
    refine g_iinc E [(6, iv (x6 + 1)), (0, .ref (ad 66)), (1, .ref (ad 1)), (2, iv x2), (3, iv x3), (4, iv x4), (5, iv x5)] gdX0_drawEnds_154 6 rfl (by decide) rfl ?_
    refine g_goto E 15 gdX0_drawEnds_157 (by decide) ?_
    refine g_sub E [1, 2, 3, 4, 5, 6, 0] rfl ?_
    exact k0 o x5 (x6 + 1) (Option.some.inj h).symm
  have j148 : ∀ (o : OO) (x2 : Int) (x3 : Int) (x4 : Int) (x5 : Int) (x6 : Int) (x7 : Int) (v : (OO × Int × Int) ⊕ ((OO × Int))), b_X0_drawEnds_148 o x2 x3 x4 x5 x6 x7 = some v → (∀ (o : OO) (x5 : Int) (x7 : Int), v = .inl (o, x5, x7) → Go X 30 (wC g ad o) [(0, .ref (ad 66)), (1, .ref (ad 1)), (2, iv x2), (3, iv x3), (4, iv x4), (5, iv x5), (6, iv x6), (7, iv x7)] []) → (∀ (o : OO) (x5 : Int), v = .inr ((o, x5)) → Go X 154 (wC g ad o) [(0, .ref (ad 66)), (1, .ref (ad 1)), (2, iv x2), (3, iv x3), (4, iv x4), (5, iv x5), (6, iv x6)] []) → Go X 148 (wC g ad o) [(0, .ref (ad 66)), (1, .ref (ad 1)), (2, iv x2), (3, iv x3), (4, iv x4), (5, iv x5), (6, iv x6), (7, iv x7)] [] := by
    intro o x2 x3 x4 x5 x6 x7 v h k0 k1
    unfold b_X0_drawEnds_148 at h
    refine g_iinc E [(7, iv (x7 + 1)), (0, .ref (ad 66)), (1, .ref (ad 1)), (2, iv x2), (3, iv x3), (4, iv x4), (5, iv x5), (6, iv x6)] gdX0_drawEnds_148 7 rfl (by decide) rfl ?_
    refine g_goto E 30 gdX0_drawEnds_151 (by decide) ?_
    refine g_sub E [1, 2, 3, 4, 5, 6, 7, 0] rfl ?_
    exact k0 o x5 (x7 + 1) (Option.some.inj h).symm
  have l30 : ∀ (x2 : Int) (x3 : Int) (x4 : Int) (x6 : Int) (r : (OO × Int)) (s0 : OO × Int × Int), loopW (fun s => l_X0_drawEnds_30 x2 x3 x4 x6 s.1 s.2.1 s.2.2) s0 = some r → (∀ (o : OO) (x5 : Int), r = ((o, x5)) → Go X 154 (wC g ad o) [(0, .ref (ad 66)), (1, .ref (ad 1)), (2, iv x2), (3, iv x3), (4, iv x4), (5, iv x5), (6, iv x6)] []) → Go X 30 (wC g ad s0.1) [(0, .ref (ad 66)), (1, .ref (ad 1)), (2, iv x2), (3, iv x3), (4, iv x4), (5, iv s0.2.1), (6, iv x6), (7, iv s0.2.2)] [] := by
    intro x2 x3 x4 x6 r s0 h k1
    refine loop_rule (Head := fun s0 => Go X 30 (wC g ad s0.1) [(0, .ref (ad 66)), (1, .ref (ad 1)), (2, iv x2), (3, iv x3), (4, iv x4), (5, iv s0.2.1), (6, iv x6), (7, iv s0.2.2)] []) h ?_
    intro s v h kk kx
    obtain ⟨o, x5, x7⟩ := s
    have h : l_X0_drawEnds_30 x2 x3 x4 x6 o x5 x7 = some v := h
    have k0 : ∀ (o : OO) (x5 : Int) (x7 : Int), v = .inl (o, x5, x7) → Go X 30 (wC g ad o) [(0, .ref (ad 66)), (1, .ref (ad 1)), (2, iv x2), (3, iv x3), (4, iv x4), (5, iv x5), (6, iv x6), (7, iv x7)] [] := fun o x5 x7 e => kk (o, x5, x7) e
    have k1 : ∀ (o : OO) (x5 : Int), v = .inr ((o, x5)) → Go X 154 (wC g ad o) [(0, .ref (ad 66)), (1, .ref (ad 1)), (2, iv x2), (3, iv x3), (4, iv x4), (5, iv x5), (6, iv x6)] [] := fun o x5 e => k1 o x5 (kx _ e).symm
    unfold l_X0_drawEnds_30 at h
    refine g_iload E gdX0_drawEnds_30 7 rfl ?_
    refine g_iload_n E gdX0_drawEnds_32 rfl 3 rfl ?_
    refine g_icmp_ge E 154 gdX0_drawEnds_33 (by decide) h (fun h => ?_) (fun h => ?_)
    ·
      refine g_sub E [0, 1, 2, 3, 4, 5, 6] rfl ?_
      exact k1 o x5 (Option.some.inj h).symm
    ·
      refine g_aload_n E gdX0_drawEnds_36 rfl 1 rfl ?_
      refine g_iload_n E gdX0_drawEnds_37 rfl 2 rfl ?_
      refine g_iconst E gdX0_drawEnds_38 ?_
      refine g_iload E gdX0_drawEnds_39 7 rfl ?_
      refine g_imul E gdX0_drawEnds_41 ?_
      refine g_iconst E gdX0_drawEnds_42 ?_
      refine g_iadd E gdX0_drawEnds_43 ?_
      obtain ⟨r1, hc2, h⟩ := qB_of h
      refine g_Vi (r := r1) (As := [iv x2, iv ((3 * x7) + 1)]) (rest := []) (w := wC g ad o) E (c_X8_at l g ad o x2 ((3 * x7) + 1) r1 hc2) okm_X8_at okw_X8_at w_1267 rfl (wC_1 g ad o) rfl rfl (Nat.le_of_ble_eq_true rfl) ⟨Nat.le_of_ble_eq_true rfl, Nat.le_of_ble_eq_true rfl⟩ gdX0_drawEnds_44 ?_
      refine g_istore E [(8, iv r1), (0, .ref (ad 66)), (1, .ref (ad 1)), (2, iv x2), (3, iv x3), (4, iv x4), (5, iv x5), (6, iv x6), (7, iv x7)] gdX0_drawEnds_47 (by decide) rfl ?_
      refine g_aload_n E gdX0_drawEnds_49 rfl 2 rfl ?_
      refine g_iload_n E gdX0_drawEnds_50 rfl 3 rfl ?_
      refine g_iconst E gdX0_drawEnds_51 ?_
      refine g_iload E gdX0_drawEnds_52 8 rfl ?_
      refine g_imul E gdX0_drawEnds_54 ?_
      refine g_iconst E gdX0_drawEnds_55 ?_
      refine g_iadd E gdX0_drawEnds_56 ?_
      obtain ⟨r3, hc4, h⟩ := qB_of h
      refine g_Vi (r := r3) (As := [iv x2, iv ((3 * x7) + 2)]) (rest := []) (w := wC g ad o) E (c_X8_at l g ad o x2 ((3 * x7) + 2) r3 hc4) okm_X8_at okw_X8_at w_1267 rfl (wC_1 g ad o) rfl rfl (Nat.le_of_ble_eq_true rfl) ⟨Nat.le_of_ble_eq_true rfl, Nat.le_of_ble_eq_true rfl⟩ gdX0_drawEnds_57 ?_
      refine g_istore E [(9, iv r3), (8, iv r1), (0, .ref (ad 66)), (1, .ref (ad 1)), (2, iv x2), (3, iv x3), (4, iv x4), (5, iv x5), (6, iv x6), (7, iv x7)] gdX0_drawEnds_60 (by decide) rfl ?_
      refine g_aload_n E gdX0_drawEnds_62 rfl 2 rfl ?_
      refine g_get (T := TX0) E fw_X0 66 (wC_66 g ad o) rfl 4 (by decide) w_418 rfl rfl gdX0_drawEnds_63 ?_
      refine g_iload E gdX0_drawEnds_66 9 rfl ?_
      obtain ⟨hi5, h⟩ := qIn_of h
      refine g_iald E 69 (wC_69 g ad o) (by decide) hi5 gdX0_drawEnds_68 ?_
      obtain ⟨n6, e_n6, h⟩ := qNm_of h
      refine g_nmi e_n6 ?_
      refine g_bipush E gdX0_drawEnds_69 (by decide) ?_
      refine g_icmp_ne E 148 gdX0_drawEnds_71 (by decide) h (fun h => ?_) (fun h => ?_)
      ·
        refine g_sub E [2, 3, 4, 5, 6, 7, 8, 9] rfl ?_
        exact j148 o x2 x3 x4 x5 x6 x7 v h k0 k1
      ·
        refine g_aload_n E gdX0_drawEnds_74 rfl 2 rfl ?_
        refine g_iload E gdX0_drawEnds_75 1 rfl ?_
        obtain ⟨r7, hc8, h⟩ := qB_of h
        refine g_Vi (r := r7) (As := [iv r1]) (rest := []) (w := wC g ad o) E (c_X0_isOpen l g ad o r1 r7 hc8) okm_X0_isOpen okw_X0_isOpen w_1276 rfl (wC_66 g ad o) rfl rfl (Nat.le_of_ble_eq_true rfl) ⟨Nat.le_of_ble_eq_true rfl, Nat.le_of_ble_eq_true rfl⟩ gdX0_drawEnds_77 ?_
        refine g_if_ne E 148 gdX0_drawEnds_80 (by decide) h (fun h => ?_) (fun h => ?_)
        ·
          refine g_sub E [2, 3, 4, 5, 6, 7, 8, 9] rfl ?_
          exact j148 o x2 x3 x4 x5 x6 x7 v h k0 k1
        ·
          refine g_aload_n E gdX0_drawEnds_83 rfl 2 rfl ?_
          refine g_iload E gdX0_drawEnds_84 0 rfl ?_
          obtain ⟨r9, hc10, h⟩ := qB_of h
          refine g_Vi (r := r9) (As := [iv r3]) (rest := []) (w := wC g ad o) E (c_X0_isOpen l g ad o r3 r9 hc10) okm_X0_isOpen okw_X0_isOpen w_1276 rfl (wC_66 g ad o) rfl rfl (Nat.le_of_ble_eq_true rfl) ⟨Nat.le_of_ble_eq_true rfl, Nat.le_of_ble_eq_true rfl⟩ gdX0_drawEnds_86 ?_
          refine g_if_eq E 95 gdX0_drawEnds_89 (by decide) h (fun h => ?_) (fun h => ?_)
          ·
            refine g_iload E gdX0_drawEnds_95 6 rfl ?_
            refine g_aload_n E gdX0_drawEnds_97 rfl 2 rfl ?_
            refine g_iload E gdX0_drawEnds_98 1 rfl ?_
            obtain ⟨r11, hc12, h⟩ := qB_of h
            refine g_Vi (r := r11) (As := [iv r1]) (rest := [iv x4]) (w := wC g ad o) E (c_X0_endAhead l g ad o r1 r11 hc12) okm_X0_endAhead okw_X0_endAhead w_1280 rfl (wC_66 g ad o) rfl rfl (Nat.le_of_ble_eq_true rfl) ⟨Nat.le_of_ble_eq_true rfl, Nat.le_of_ble_eq_true rfl⟩ gdX0_drawEnds_100 ?_
            refine g_aload_n E gdX0_drawEnds_103 rfl 2 rfl ?_
            refine g_iload E gdX0_drawEnds_104 0 rfl ?_
            obtain ⟨r13, hc14, h⟩ := qB_of h
            refine g_Vi (r := r13) (As := [iv r3]) (rest := [iv r11, iv x4]) (w := wC g ad o) E (c_X0_endAhead l g ad o r3 r13 hc14) okm_X0_endAhead okw_X0_endAhead w_1280 rfl (wC_66 g ad o) rfl rfl (Nat.le_of_ble_eq_true rfl) ⟨Nat.le_of_ble_eq_true rfl, Nat.le_of_ble_eq_true rfl⟩ gdX0_drawEnds_106 ?_
            obtain ⟨ha15, h⟩ := qR_of h
            obtain ⟨ha16, h⟩ := qR_of h
            refine g_mmax E ha15 ha16 w_1284 w_949 w_91 w_950 (Nat.le_of_ble_eq_true rfl) (Nat.le_of_ble_eq_true rfl) gdX0_drawEnds_109 ?_
            obtain ⟨ha17, h⟩ := qR_of h
            obtain ⟨ha18, h⟩ := qR_of h
            refine g_mmax E ha17 ha18 w_1284 w_949 w_91 w_950 (Nat.le_of_ble_eq_true rfl) (Nat.le_of_ble_eq_true rfl) gdX0_drawEnds_112 ?_
            obtain ⟨n19, e_n19, h⟩ := qNm_of h
            refine g_nmi e_n19 ?_
            refine g_istore E [(10, iv n19), (9, iv r3), (8, iv r1), (0, .ref (ad 66)), (1, .ref (ad 1)), (2, iv x2), (3, iv x3), (4, iv x4), (5, iv x5), (6, iv x6), (7, iv x7)] gdX0_drawEnds_115 (by decide) rfl ?_
            refine g_aload_n E gdX0_drawEnds_117 rfl 3 rfl ?_
            refine g_get (T := TX0) E fw_X0 66 (wC_66 g ad o) rfl 4 (by decide) w_418 rfl rfl gdX0_drawEnds_118 ?_
            refine g_iload E gdX0_drawEnds_121 10 rfl ?_
            refine g_iload E gdX0_drawEnds_123 0 rfl ?_
            refine g_aload_n E gdX0_drawEnds_125 rfl 4 rfl ?_
            refine g_iload_n E gdX0_drawEnds_126 rfl 5 rfl ?_
            refine g_iconst E gdX0_drawEnds_127 ?_
            refine g_iload E gdX0_drawEnds_128 10 rfl ?_
            refine g_imul E gdX0_drawEnds_130 ?_
            obtain ⟨r20, hc21, h⟩ := qB_of h
            refine g_Vi (r := r20) (As := [iv x2, iv (3 * x7)]) (rest := [iv n19, iv x7, .ref (ad 69)]) (w := wC g ad o) E (c_X8_at l g ad o x2 (3 * x7) r20 hc21) okm_X8_at okw_X8_at w_1267 rfl (wC_1 g ad o) rfl rfl (Nat.le_of_ble_eq_true rfl) ⟨Nat.le_of_ble_eq_true rfl, Nat.le_of_ble_eq_true rfl⟩ gdX0_drawEnds_131 ?_
            refine g_iadd E gdX0_drawEnds_134 ?_
            obtain ⟨hi22, h⟩ := qIn_of h
            obtain ⟨o23, e_o23, h⟩ := qNm_of h
            refine g_iast (ws' := wC g ad o23) E 69 (wC_69 g ad o) (by decide) hi22 (by rw [e_o23]; exact wC_s69 g ad o _ _) gdX0_drawEnds_135 ?_
            refine g_aload_n E gdX0_drawEnds_136 rfl 3 rfl ?_
            refine g_get (T := TX0) E fw_X0 66 (wC_66 g ad o23) rfl 5 (by decide) w_419 rfl rfl gdX0_drawEnds_137 ?_
            refine g_iload E gdX0_drawEnds_140 8 rfl ?_
            refine g_iload E gdX0_drawEnds_142 10 rfl ?_
            obtain ⟨hi24, h⟩ := qIn_of h
            obtain ⟨o25, e_o25, h⟩ := qNm_of h
            refine g_iast (ws' := wC g ad o25) E 70 (wC_70 g ad o23) (by decide) hi24 (by rw [e_o25]; exact wC_s70 g ad o23 _ _) gdX0_drawEnds_144 ?_
            refine g_iinc E [(5, iv (x5 + 1)), (10, iv n19), (9, iv r3), (8, iv r1), (0, .ref (ad 66)), (1, .ref (ad 1)), (2, iv x2), (3, iv x3), (4, iv x4), (6, iv x6), (7, iv x7)] gdX0_drawEnds_145 8 rfl (by decide) rfl ?_
            refine g_sub E [4, 5, 6, 7, 8, 0, 9, 10] rfl ?_
            exact j148 o25 x2 x3 x4 (x5 + 1) x6 x7 v h k0 k1
          ·
            refine g_goto E 148 gdX0_drawEnds_92 (by decide) ?_
            refine g_sub E [2, 3, 4, 5, 6, 7, 8, 9] rfl ?_
            exact j148 o x2 x3 x4 x5 x6 x7 v h k0 k1
  have j30 : ∀ (o : OO) (x2 : Int) (x3 : Int) (x4 : Int) (x5 : Int) (x6 : Int) (x7 : Int) (v : (OO × Int × Int) ⊕ ((OO × Int))), e_X0_drawEnds_30 o x2 x3 x4 x5 x6 x7 = some v → (∀ (o : OO) (x5 : Int) (x6 : Int), v = .inl (o, x5, x6) → Go X 15 (wC g ad o) [(0, .ref (ad 66)), (1, .ref (ad 1)), (2, iv x2), (3, iv x3), (4, iv x4), (5, iv x5), (6, iv x6)] []) → (∀ (o : OO) (x5 : Int), v = .inr ((o, x5)) → Go X 160 (wC g ad o) [(3, iv x3), (5, iv x5)] []) → Go X 30 (wC g ad o) [(0, .ref (ad 66)), (1, .ref (ad 1)), (2, iv x2), (3, iv x3), (4, iv x4), (5, iv x5), (6, iv x6), (7, iv x7)] [] := by
    intro o x2 x3 x4 x5 x6 x7 v h k0 k1
    unfold e_X0_drawEnds_30 at h
    obtain ⟨r, hr, h⟩ := qB_of h
    refine l30 x2 x3 x4 x6 r _ hr ?_
    ·
      intro u0 u1 e
      subst e
      have h : b_X0_drawEnds_154 u0 x2 x3 x4 u1 x6 = some v := h
      exact j154 u0 x2 x3 x4 u1 x6 v h k0 k1
  have l15 : ∀ (x2 : Int) (x3 : Int) (x4 : Int) (r : (OO × Int)) (s0 : OO × Int × Int), loopW (fun s => l_X0_drawEnds_15 x2 x3 x4 s.1 s.2.1 s.2.2) s0 = some r → (∀ (o : OO) (x5 : Int), r = ((o, x5)) → Go X 160 (wC g ad o) [(3, iv x3), (5, iv x5)] []) → Go X 15 (wC g ad s0.1) [(0, .ref (ad 66)), (1, .ref (ad 1)), (2, iv x2), (3, iv x3), (4, iv x4), (5, iv s0.2.1), (6, iv s0.2.2)] [] := by
    intro x2 x3 x4 r s0 h k1
    refine loop_rule (Head := fun s0 => Go X 15 (wC g ad s0.1) [(0, .ref (ad 66)), (1, .ref (ad 1)), (2, iv x2), (3, iv x3), (4, iv x4), (5, iv s0.2.1), (6, iv s0.2.2)] []) h ?_
    intro s v h kk kx
    obtain ⟨o, x5, x6⟩ := s
    have h : l_X0_drawEnds_15 x2 x3 x4 o x5 x6 = some v := h
    have k0 : ∀ (o : OO) (x5 : Int) (x6 : Int), v = .inl (o, x5, x6) → Go X 15 (wC g ad o) [(0, .ref (ad 66)), (1, .ref (ad 1)), (2, iv x2), (3, iv x3), (4, iv x4), (5, iv x5), (6, iv x6)] [] := fun o x5 x6 e => kk (o, x5, x6) e
    have k1 : ∀ (o : OO) (x5 : Int), v = .inr ((o, x5)) → Go X 160 (wC g ad o) [(3, iv x3), (5, iv x5)] [] := fun o x5 e => k1 o x5 (kx _ e).symm
    unfold l_X0_drawEnds_15 at h
    refine g_iload E gdX0_drawEnds_15 6 rfl ?_
    refine g_iload_n E gdX0_drawEnds_17 rfl 3 rfl ?_
    refine g_icmp_ge E 160 gdX0_drawEnds_18 (by decide) h (fun h => ?_) (fun h => ?_)
    ·
      refine g_sub E [3, 5] rfl ?_
      exact k1 o x5 (Option.some.inj h).symm
    ·
      refine g_iload E gdX0_drawEnds_21 5 rfl ?_
      refine g_iload_n E gdX0_drawEnds_23 rfl 3 rfl ?_
      refine g_icmp_ge E 160 gdX0_drawEnds_24 (by decide) h (fun h => ?_) (fun h => ?_)
      ·
        refine g_sub E [3, 5] rfl ?_
        exact k1 o x5 (Option.some.inj h).symm
      ·
        refine g_iconst E gdX0_drawEnds_27 ?_
        refine g_istore E [(7, iv 0), (0, .ref (ad 66)), (1, .ref (ad 1)), (2, iv x2), (3, iv x3), (4, iv x4), (5, iv x5), (6, iv x6)] gdX0_drawEnds_28 (by decide) rfl ?_
        refine g_sub E [1, 2, 3, 4, 5, 6, 7, 0] rfl ?_
        exact j30 o x2 x3 x4 x5 x6 0 v h k0 k1
  have j15 : ∀ (o : OO) (x2 : Int) (x3 : Int) (x4 : Int) (x5 : Int) (x6 : Int), e_X0_drawEnds_15 o x2 x3 x4 x5 x6 = some v → Go X 15 (wC g ad o) [(0, .ref (ad 66)), (1, .ref (ad 1)), (2, iv x2), (3, iv x3), (4, iv x4), (5, iv x5), (6, iv x6)] [] := by
    intro o x2 x3 x4 x5 x6 h
    unfold e_X0_drawEnds_15 at h
    obtain ⟨r, hr, h⟩ := qB_of h
    refine l15 x2 x3 x4 r _ hr ?_
    ·
      intro u0 u1 e
      subst e
      have h : b_X0_drawEnds_160 u0 x3 u1 = some v := h
      exact j160 u0 x3 u1 h
  unfold s_X0_drawEnds at h
  refine g_aload_n E gdX0_drawEnds_0 rfl 0 rfl ?_
  refine g_get (T := TX0) E fw_X0 66 (wC_66 g ad o) rfl 4 (by decide) w_418 rfl rfl gdX0_drawEnds_1 ?_
  refine g_bipush E gdX0_drawEnds_4 (by decide) ?_
  obtain ⟨o28, hc27, h⟩ := qB_of h
  refine g_Sv (As := [.ref (ad 69), iv (-9)]) (rest := []) (w := wC g ad o28) E (c_J7_fill_53178 l g ad o (-9) o28 hc27) okm_J7_fill_53178 w_124 w_1275 rfl rfl (Nat.le_of_ble_eq_true rfl) ⟨Nat.le_of_ble_eq_true rfl, Nat.le_of_ble_eq_true rfl⟩ gdX0_drawEnds_6 ?_
  refine g_iconst E gdX0_drawEnds_9 ?_
  refine g_istore E [(5, iv 0), (0, .ref (ad 66)), (1, .ref (ad 1)), (2, iv x2), (3, iv x3), (4, iv x4)] gdX0_drawEnds_10 (by decide) rfl ?_
  refine g_iconst E gdX0_drawEnds_12 ?_
  refine g_istore E [(6, iv 0), (5, iv 0), (0, .ref (ad 66)), (1, .ref (ad 1)), (2, iv x2), (3, iv x3), (4, iv x4)] gdX0_drawEnds_13 (by decide) rfl ?_
  refine g_sub E [2, 3, 4, 5, 6, 1, 0] rfl ?_
  exact j15 o28 x2 x3 x4 0 0 h
set_option maxHeartbeats 4000000 in
set_option maxRecDepth 100000 in
theorem c_X0_keep (l : Launch) (g : GG) (ad : Nat → Nat) (o : OO) (x1 : Int) (v : OO) (h : s_X0_keep o x1 = some v) : CV l g yX0_keep cX0_keep 3 1 21 (wC g ad o) [.ref (ad 66), iv x1] (wC g ad v) := by
  refine met_V (by decide) (Nat.le_of_ble_eq_true rfl) ?_
  intro X E hQ
  show Go X 0 (wC g ad o) [(0, .ref (ad 66)), (1, iv x1)] []
  have j75 : ∀ (o : OO), b_X0_keep_75 o = some v → Go X 75 (wC g ad o) [] [] := by
    intro o h
    unfold b_X0_keep_75 at h
    exact g_vret E hQ (by rw [← Option.some.inj h]) gdX0_keep_75
  have l54 : ∀ (x1 : Int) (r : (OO)) (s0 : OO × Int), loopW (fun s => l_X0_keep_54 x1 s.1 s.2) s0 = some r → (∀ (o : OO), r = (o) → Go X 75 (wC g ad o) [] []) → Go X 54 (wC g ad s0.1) [(0, .ref (ad 66)), (1, iv x1), (2, iv s0.2)] [] := by
    intro x1 r s0 h k1
    refine loop_rule (Head := fun s0 => Go X 54 (wC g ad s0.1) [(0, .ref (ad 66)), (1, iv x1), (2, iv s0.2)] []) h ?_
    intro s v h kk kx
    obtain ⟨o, x2⟩ := s
    have h : l_X0_keep_54 x1 o x2 = some v := h
    have k0 : ∀ (o : OO) (x2 : Int), v = .inl (o, x2) → Go X 54 (wC g ad o) [(0, .ref (ad 66)), (1, iv x1), (2, iv x2)] [] := fun o x2 e => kk (o, x2) e
    have k1 : ∀ (o : OO), v = .inr (o) → Go X 75 (wC g ad o) [] [] := fun o e => k1 o (kx _ e).symm
    unfold l_X0_keep_54 at h
    refine g_iload_n E gdX0_keep_54 rfl 2 rfl ?_
    refine g_iload_n E gdX0_keep_55 rfl 1 rfl ?_
    refine g_icmp_ge E 75 gdX0_keep_56 (by decide) h (fun h => ?_) (fun h => ?_)
    ·
      refine g_sub E [] rfl ?_
      exact k1 o (Option.some.inj h).symm
    ·
      refine g_aload_n E gdX0_keep_59 rfl 0 rfl ?_
      refine g_get (T := TX0) E fw_X0 66 (wC_66 g ad o) rfl 3 (by decide) w_417 rfl rfl gdX0_keep_60 ?_
      refine g_iload_n E gdX0_keep_63 rfl 2 rfl ?_
      refine g_aload_n E gdX0_keep_64 rfl 0 rfl ?_
      refine g_get (T := TX0) E fw_X0 66 (wC_66 g ad o) rfl 1 (by decide) w_414 rfl rfl gdX0_keep_65 ?_
      obtain ⟨hi1, h⟩ := qIn_of h
      obtain ⟨o2, e_o2, h⟩ := qNm_of h
      refine g_iast (ws' := wC g ad o2) E 68 (wC_68 g ad o) (by decide) hi1 (by rw [e_o2]; exact wC_s68 g ad o _ _) gdX0_keep_68 ?_
      refine g_iinc E [(2, iv (x2 + 1)), (0, .ref (ad 66)), (1, iv x1)] gdX0_keep_69 2 rfl (by decide) rfl ?_
      refine g_goto E 54 gdX0_keep_72 (by decide) ?_
      refine g_sub E [1, 2, 0] rfl ?_
      exact k0 o2 (x2 + 1) (Option.some.inj h).symm
  have j54 : ∀ (o : OO) (x1 : Int) (x2 : Int), e_X0_keep_54 o x1 x2 = some v → Go X 54 (wC g ad o) [(0, .ref (ad 66)), (1, iv x1), (2, iv x2)] [] := by
    intro o x1 x2 h
    unfold e_X0_keep_54 at h
    obtain ⟨r, hr, h⟩ := qB_of h
    refine l54 x1 r _ hr ?_
    ·
      intro u0 e
      have e := e.symm
      subst e
      have h : b_X0_keep_75 u0 = some v := h
      exact j75 u0 h
  have j52 : ∀ (o : OO) (x1 : Int), b_X0_keep_52 o x1 = some v → Go X 52 (wC g ad o) [(0, .ref (ad 66)), (1, iv x1)] [] := by
    intro o x1 h
    unfold b_X0_keep_52 at h
    refine g_iconst E gdX0_keep_52 ?_
    refine g_istore_n E [(2, iv 0), (0, .ref (ad 66)), (1, iv x1)] gdX0_keep_53 rfl (by decide) rfl ?_
    refine g_sub E [1, 2, 0] rfl ?_
    exact j54 o x1 0 h
  have l12 : ∀ (x1 : Int) (r : (OO)) (s0 : OO × Int), loopW (fun s => l_X0_keep_12 x1 s.1 s.2) s0 = some r → (∀ (o : OO), r = (o) → Go X 52 (wC g ad o) [(0, .ref (ad 66)), (1, iv x1)] []) → Go X 12 (wC g ad s0.1) [(0, .ref (ad 66)), (1, iv x1), (2, iv s0.2)] [] := by
    intro x1 r s0 h k1
    refine loop_rule (Head := fun s0 => Go X 12 (wC g ad s0.1) [(0, .ref (ad 66)), (1, iv x1), (2, iv s0.2)] []) h ?_
    intro s v h kk kx
    obtain ⟨o, x2⟩ := s
    have h : l_X0_keep_12 x1 o x2 = some v := h
    have k0 : ∀ (o : OO) (x2 : Int), v = .inl (o, x2) → Go X 12 (wC g ad o) [(0, .ref (ad 66)), (1, iv x1), (2, iv x2)] [] := fun o x2 e => kk (o, x2) e
    have k1 : ∀ (o : OO), v = .inr (o) → Go X 52 (wC g ad o) [(0, .ref (ad 66)), (1, iv x1)] [] := fun o e => k1 o (kx _ e).symm
    unfold l_X0_keep_12 at h
    refine g_iload_n E gdX0_keep_12 rfl 2 rfl ?_
    refine g_iload_n E gdX0_keep_13 rfl 1 rfl ?_
    refine g_icmp_ge E 52 gdX0_keep_14 (by decide) h (fun h => ?_) (fun h => ?_)
    ·
      refine g_sub E [0, 1] rfl ?_
      exact k1 o (Option.some.inj h).symm
    ·
      refine g_aload_n E gdX0_keep_17 rfl 0 rfl ?_
      refine g_get (T := TX0) E fw_X0 66 (wC_66 g ad o) rfl 2 (by decide) w_416 rfl rfl gdX0_keep_18 ?_
      refine g_iload_n E gdX0_keep_21 rfl 2 rfl ?_
      refine g_aload_n E gdX0_keep_22 rfl 0 rfl ?_
      refine g_get (T := TX0) E fw_X0 66 (wC_66 g ad o) rfl 4 (by decide) w_418 rfl rfl gdX0_keep_23 ?_
      refine g_iload_n E gdX0_keep_26 rfl 2 rfl ?_
      obtain ⟨hi3, h⟩ := qIn_of h
      refine g_iald E 69 (wC_69 g ad o) (by decide) hi3 gdX0_keep_27 ?_
      obtain ⟨n4, e_n4, h⟩ := qNm_of h
      refine g_nmi e_n4 ?_
      obtain ⟨hi5, h⟩ := qIn_of h
      obtain ⟨o6, e_o6, h⟩ := qNm_of h
      refine g_iast (ws' := wC g ad o6) E 67 (wC_67 g ad o) (by decide) hi5 (by rw [e_o6]; exact wC_s67 g ad o _ _) gdX0_keep_28 ?_
      refine g_aload_n E gdX0_keep_29 rfl 0 rfl ?_
      refine g_aload_n E gdX0_keep_30 rfl 0 rfl ?_
      refine g_get (T := TX0) E fw_X0 66 (wC_66 g ad o6) rfl 1 (by decide) w_414 rfl rfl gdX0_keep_31 ?_
      refine g_aload_n E gdX0_keep_34 rfl 0 rfl ?_
      refine g_get (T := TX0) E fw_X0 66 (wC_66 g ad o6) rfl 4 (by decide) w_418 rfl rfl gdX0_keep_35 ?_
      refine g_iload_n E gdX0_keep_38 rfl 2 rfl ?_
      obtain ⟨hi7, h⟩ := qIn_of h
      refine g_iald E 69 (wC_69 g ad o6) (by decide) hi7 gdX0_keep_39 ?_
      obtain ⟨n8, e_n8, h⟩ := qNm_of h
      refine g_nmi e_n8 ?_
      obtain ⟨ha9, h⟩ := qR_of h
      obtain ⟨ha10, h⟩ := qR_of h
      refine g_mmax E ha9 ha10 w_1284 w_949 w_91 w_950 (Nat.le_of_ble_eq_true rfl) (Nat.le_of_ble_eq_true rfl) gdX0_keep_40 ?_
      obtain ⟨o11, e_o11, h⟩ := qNm_of h
      refine g_puti (T := TX0) (ws' := wC g ad o11) E fw_X0 tyX0 tyX0_ok nmX0 66 (wC_66 g ad o6) rfl 1 (by decide) w_414 rfl rfl (by decide +kernel) (Nat.le_of_ble_eq_true rfl) (by rw [e_o11]; exact wC_p66_1 g ad o6 _) gdX0_keep_43 ?_
      refine g_iinc E [(2, iv (x2 + 1)), (0, .ref (ad 66)), (1, iv x1)] gdX0_keep_46 2 rfl (by decide) rfl ?_
      refine g_goto E 12 gdX0_keep_49 (by decide) ?_
      refine g_sub E [1, 2, 0] rfl ?_
      exact k0 o11 (x2 + 1) (Option.some.inj h).symm
  have j12 : ∀ (o : OO) (x1 : Int) (x2 : Int), e_X0_keep_12 o x1 x2 = some v → Go X 12 (wC g ad o) [(0, .ref (ad 66)), (1, iv x1), (2, iv x2)] [] := by
    intro o x1 x2 h
    unfold e_X0_keep_12 at h
    obtain ⟨r, hr, h⟩ := qB_of h
    refine l12 x1 r _ hr ?_
    ·
      intro u0 e
      have e := e.symm
      subst e
      have h : b_X0_keep_52 u0 x1 = some v := h
      exact j52 u0 x1 h
  unfold s_X0_keep at h
  refine g_aload_n E gdX0_keep_0 rfl 0 rfl ?_
  refine g_iload_n E gdX0_keep_1 rfl 1 rfl ?_
  obtain ⟨o12, e_o12, h⟩ := qNm_of h
  refine g_puti (T := TX0) (ws' := wC g ad o12) E fw_X0 tyX0 tyX0_ok nmX0 66 (wC_66 g ad o) rfl 0 (by decide) w_412 rfl rfl (by decide +kernel) (Nat.le_of_ble_eq_true rfl) (by rw [e_o12]; exact wC_p66_0 g ad o _) gdX0_keep_2 ?_
  refine g_aload_n E gdX0_keep_5 rfl 0 rfl ?_
  refine g_iconst E gdX0_keep_6 ?_
  obtain ⟨o13, e_o13, h⟩ := qNm_of h
  refine g_puti (T := TX0) (ws' := wC g ad o13) E fw_X0 tyX0 tyX0_ok nmX0 66 (wC_66 g ad o12) rfl 1 (by decide) w_414 rfl rfl (by decide +kernel) (Nat.le_of_ble_eq_true rfl) (by rw [e_o13]; exact wC_p66_1 g ad o12 _) gdX0_keep_7 ?_
  refine g_iconst E gdX0_keep_10 ?_
  refine g_istore_n E [(2, iv 0), (0, .ref (ad 66)), (1, iv x1)] gdX0_keep_11 rfl (by decide) rfl ?_
  refine g_sub E [1, 2, 0] rfl ?_
  exact j12 o13 x1 0 h
set_option maxHeartbeats 4000000 in
set_option maxRecDepth 100000 in
theorem c_X0_holdBack (l : Launch) (g : GG) (ad : Nat → Nat) (o : OO) (x1 : Int) (x2 : Int) (v : OO) (h : s_X0_holdBack o x1 x2 = some v) : CV l g yX0_holdBack cX0_holdBack 3 1 21 (wC g ad o) [.ref (ad 66), iv x1, iv x2] (wC g ad v) := by
  refine met_V (by decide) (Nat.le_of_ble_eq_true rfl) ?_
  intro X E hQ
  show Go X 0 (wC g ad o) [(0, .ref (ad 66)), (1, iv x1), (2, iv x2)] []
  have j22 : ∀ (o : OO), b_X0_holdBack_22 o = some v → Go X 22 (wC g ad o) [] [] := by
    intro o h
    unfold b_X0_holdBack_22 at h
    exact g_vret E hQ (by rw [← Option.some.inj h]) gdX0_holdBack_22
  unfold s_X0_holdBack at h
  refine g_iload_n E gdX0_holdBack_0 rfl 1 rfl ?_
  refine g_bipush E gdX0_holdBack_1 (by decide) ?_
  refine g_icmp_eq E 22 gdX0_holdBack_3 (by decide) h (fun h => ?_) (fun h => ?_)
  ·
    refine g_sub E [] rfl ?_
    exact j22 o h
  ·
    refine g_aload_n E gdX0_holdBack_6 rfl 0 rfl ?_
    refine g_get (T := TX0) E fw_X0 66 (wC_66 g ad o) rfl 3 (by decide) w_417 rfl rfl gdX0_holdBack_7 ?_
    refine g_iload_n E gdX0_holdBack_10 rfl 1 rfl ?_
    refine g_aload_n E gdX0_holdBack_11 rfl 0 rfl ?_
    refine g_get (T := TX0) E fw_X0 66 (wC_66 g ad o) rfl 3 (by decide) w_417 rfl rfl gdX0_holdBack_12 ?_
    refine g_iload_n E gdX0_holdBack_15 rfl 1 rfl ?_
    obtain ⟨hi1, h⟩ := qIn_of h
    refine g_iald E 68 (wC_68 g ad o) (by decide) hi1 gdX0_holdBack_16 ?_
    obtain ⟨n2, e_n2, h⟩ := qNm_of h
    refine g_nmi e_n2 ?_
    refine g_iload_n E gdX0_holdBack_17 rfl 2 rfl ?_
    obtain ⟨ha3, h⟩ := qR_of h
    obtain ⟨ha4, h⟩ := qR_of h
    refine g_mmin E ha3 ha4 w_1297 w_121 w_91 w_122 (Nat.le_of_ble_eq_true rfl) (Nat.le_of_ble_eq_true rfl) gdX0_holdBack_18 ?_
    obtain ⟨hi5, h⟩ := qIn_of h
    obtain ⟨o6, e_o6, h⟩ := qNm_of h
    refine g_iast (ws' := wC g ad o6) E 68 (wC_68 g ad o) (by decide) hi5 (by rw [e_o6]; exact wC_s68 g ad o _ _) gdX0_holdBack_21 ?_
    refine g_sub E [] rfl ?_
    exact j22 o6 h
set_option maxHeartbeats 4000000 in
set_option maxRecDepth 100000 in
theorem c_X0_drawLatest (l : Launch) (g : GG) (ad : Nat → Nat) (o : OO) (x2 : Int) (v : OO) (h : s_X0_drawLatest o x2 = some v) : CV l g yX0_drawLatest cX0_drawLatest 6 2 43 (wC g ad o) [.ref (ad 66), .ref (ad 1), iv x2] (wC g ad v) := by
  refine met_V (by decide) (Nat.le_of_ble_eq_true rfl) ?_
  intro X E hQ
  show Go X 0 (wC g ad o) [(0, .ref (ad 66)), (1, .ref (ad 1)), (2, iv x2)] []
  have j78 : ∀ (o : OO), b_X0_drawLatest_78 o = some v → Go X 78 (wC g ad o) [] [] := by
    intro o h
    unfold b_X0_drawLatest_78 at h
    exact g_vret E hQ (by rw [← Option.some.inj h]) gdX0_drawLatest_78
  have l7 : ∀ (x2 : Int) (r : (OO)) (s0 : OO × Int), loopW (fun s => l_X0_drawLatest_7 x2 s.1 s.2) s0 = some r → (∀ (o : OO), r = (o) → Go X 78 (wC g ad o) [] []) → Go X 7 (wC g ad s0.1) [(0, .ref (ad 66)), (1, .ref (ad 1)), (2, iv x2), (3, iv s0.2)] [] := by
    intro x2 r s0 h k1
    refine loop_rule (Head := fun s0 => Go X 7 (wC g ad s0.1) [(0, .ref (ad 66)), (1, .ref (ad 1)), (2, iv x2), (3, iv s0.2)] []) h ?_
    intro s v h kk kx
    obtain ⟨o, x3⟩ := s
    have h : l_X0_drawLatest_7 x2 o x3 = some v := h
    have k0 : ∀ (o : OO) (x3 : Int), v = .inl (o, x3) → Go X 7 (wC g ad o) [(0, .ref (ad 66)), (1, .ref (ad 1)), (2, iv x2), (3, iv x3)] [] := fun o x3 e => kk (o, x3) e
    have k1 : ∀ (o : OO), v = .inr (o) → Go X 78 (wC g ad o) [] [] := fun o e => k1 o (kx _ e).symm
    unfold l_X0_drawLatest_7 at h
    refine g_iload_n E gdX0_drawLatest_7 rfl 3 rfl ?_
    refine g_if_lt E 78 gdX0_drawLatest_8 (by decide) h (fun h => ?_) (fun h => ?_)
    ·
      refine g_sub E [] rfl ?_
      exact k1 o (Option.some.inj h).symm
    ·
      refine g_aload_n E gdX0_drawLatest_11 rfl 0 rfl ?_
      refine g_get (T := TX0) E fw_X0 66 (wC_66 g ad o) rfl 5 (by decide) w_419 rfl rfl gdX0_drawLatest_12 ?_
      refine g_iload_n E gdX0_drawLatest_15 rfl 3 rfl ?_
      obtain ⟨hi1, h⟩ := qIn_of h
      refine g_iald E 70 (wC_70 g ad o) (by decide) hi1 gdX0_drawLatest_16 ?_
      obtain ⟨n2, e_n2, h⟩ := qNm_of h
      refine g_nmi e_n2 ?_
      refine g_istore E [(4, iv n2), (0, .ref (ad 66)), (1, .ref (ad 1)), (2, iv x2), (3, iv x3)] gdX0_drawLatest_17 (by decide) rfl ?_
      refine g_aload_n E gdX0_drawLatest_19 rfl 1 rfl ?_
      refine g_get (T := TX0) E fw_X0 66 (wC_66 g ad o) rfl 3 (by decide) w_417 rfl rfl gdX0_drawLatest_20 ?_
      refine g_iload E gdX0_drawLatest_23 0 rfl ?_
      obtain ⟨hi3, h⟩ := qIn_of h
      refine g_iald E 68 (wC_68 g ad o) (by decide) hi3 gdX0_drawLatest_25 ?_
      obtain ⟨n4, e_n4, h⟩ := qNm_of h
      refine g_nmi e_n4 ?_
      refine g_aload_n E gdX0_drawLatest_26 rfl 2 rfl ?_
      refine g_iload_n E gdX0_drawLatest_27 rfl 3 rfl ?_
      refine g_iconst E gdX0_drawLatest_28 ?_
      refine g_iload E gdX0_drawLatest_29 0 rfl ?_
      refine g_imul E gdX0_drawLatest_31 ?_
      obtain ⟨r5, hc6, h⟩ := qB_of h
      refine g_Vi (r := r5) (As := [iv x2, iv (3 * n2)]) (rest := [iv n4]) (w := wC g ad o) E (c_X8_at l g ad o x2 (3 * n2) r5 hc6) okm_X8_at okw_X8_at w_1267 rfl (wC_1 g ad o) rfl rfl (Nat.le_of_ble_eq_true rfl) ⟨Nat.le_of_ble_eq_true rfl, Nat.le_of_ble_eq_true rfl⟩ gdX0_drawLatest_32 ?_
      refine g_isub E gdX0_drawLatest_35 ?_
      obtain ⟨n7, e_n7, h⟩ := qNm_of h
      refine g_nmi e_n7 ?_
      refine g_istore E [(5, iv n7), (4, iv n2), (0, .ref (ad 66)), (1, .ref (ad 1)), (2, iv x2), (3, iv x3)] gdX0_drawLatest_36 (by decide) rfl ?_
      refine g_aload_n E gdX0_drawLatest_38 rfl 2 rfl ?_
      refine g_aload_n E gdX0_drawLatest_39 rfl 3 rfl ?_
      refine g_iload_n E gdX0_drawLatest_40 rfl 4 rfl ?_
      refine g_iconst E gdX0_drawLatest_41 ?_
      refine g_iload E gdX0_drawLatest_42 1 rfl ?_
      refine g_imul E gdX0_drawLatest_44 ?_
      refine g_iconst E gdX0_drawLatest_45 ?_
      refine g_iadd E gdX0_drawLatest_46 ?_
      obtain ⟨r8, hc9, h⟩ := qB_of h
      refine g_Vi (r := r8) (As := [iv x2, iv ((3 * n2) + 1)]) (rest := [.ref (ad 66)]) (w := wC g ad o) E (c_X8_at l g ad o x2 ((3 * n2) + 1) r8 hc9) okm_X8_at okw_X8_at w_1267 rfl (wC_1 g ad o) rfl rfl (Nat.le_of_ble_eq_true rfl) ⟨Nat.le_of_ble_eq_true rfl, Nat.le_of_ble_eq_true rfl⟩ gdX0_drawLatest_47 ?_
      refine g_iload E gdX0_drawLatest_50 0 rfl ?_
      obtain ⟨o12, hc11, h⟩ := qB_of h
      refine g_Vv (As := [iv r8, iv n7]) (rest := []) (w := wC g ad o12) E (c_X0_holdBack l g ad o r8 n7 o12 hc11) okm_X0_holdBack okw_X0_holdBack w_1293 rfl (wC_66 g ad o) rfl rfl (Nat.le_of_ble_eq_true rfl) ⟨Nat.le_of_ble_eq_true rfl, Nat.le_of_ble_eq_true rfl⟩ gdX0_drawLatest_52 ?_
      refine g_aload_n E gdX0_drawLatest_55 rfl 2 rfl ?_
      refine g_aload_n E gdX0_drawLatest_56 rfl 3 rfl ?_
      refine g_iload_n E gdX0_drawLatest_57 rfl 4 rfl ?_
      refine g_iconst E gdX0_drawLatest_58 ?_
      refine g_iload E gdX0_drawLatest_59 1 rfl ?_
      refine g_imul E gdX0_drawLatest_61 ?_
      refine g_iconst E gdX0_drawLatest_62 ?_
      refine g_iadd E gdX0_drawLatest_63 ?_
      obtain ⟨r13, hc14, h⟩ := qB_of h
      refine g_Vi (r := r13) (As := [iv x2, iv ((3 * n2) + 2)]) (rest := [.ref (ad 66)]) (w := wC g ad o12) E (c_X8_at l g ad o12 x2 ((3 * n2) + 2) r13 hc14) okm_X8_at okw_X8_at w_1267 rfl (wC_1 g ad o12) rfl rfl (Nat.le_of_ble_eq_true rfl) ⟨Nat.le_of_ble_eq_true rfl, Nat.le_of_ble_eq_true rfl⟩ gdX0_drawLatest_64 ?_
      refine g_iload E gdX0_drawLatest_67 0 rfl ?_
      obtain ⟨o17, hc16, h⟩ := qB_of h
      refine g_Vv (As := [iv r13, iv n7]) (rest := []) (w := wC g ad o17) E (c_X0_holdBack l g ad o12 r13 n7 o17 hc16) okm_X0_holdBack okw_X0_holdBack w_1293 rfl (wC_66 g ad o12) rfl rfl (Nat.le_of_ble_eq_true rfl) ⟨Nat.le_of_ble_eq_true rfl, Nat.le_of_ble_eq_true rfl⟩ gdX0_drawLatest_69 ?_
      refine g_iinc E [(3, iv (x3 + (-1))), (5, iv n7), (4, iv n2), (0, .ref (ad 66)), (1, .ref (ad 1)), (2, iv x2)] gdX0_drawLatest_72 5 rfl (by decide) rfl ?_
      refine g_goto E 7 gdX0_drawLatest_75 (by decide) ?_
      refine g_sub E [3, 4, 5, 0] rfl ?_
      exact k0 o17 (x3 + (-1)) (Option.some.inj h).symm
  have j7 : ∀ (o : OO) (x2 : Int) (x3 : Int), e_X0_drawLatest_7 o x2 x3 = some v → Go X 7 (wC g ad o) [(0, .ref (ad 66)), (1, .ref (ad 1)), (2, iv x2), (3, iv x3)] [] := by
    intro o x2 x3 h
    unfold e_X0_drawLatest_7 at h
    obtain ⟨r, hr, h⟩ := qB_of h
    refine l7 x2 r _ hr ?_
    ·
      intro u0 e
      have e := e.symm
      subst e
      have h : b_X0_drawLatest_78 u0 = some v := h
      exact j78 u0 h
  unfold s_X0_drawLatest at h
  refine g_aload_n E gdX0_drawLatest_0 rfl 0 rfl ?_
  refine g_get (T := TX0) E fw_X0 66 (wC_66 g ad o) rfl 0 (by decide) w_412 rfl rfl gdX0_drawLatest_1 ?_
  refine g_iconst E gdX0_drawLatest_4 ?_
  refine g_isub E gdX0_drawLatest_5 ?_
  obtain ⟨n18, e_n18, h⟩ := qNm_of h
  refine g_nmi e_n18 ?_
  refine g_istore_n E [(3, iv n18), (0, .ref (ad 66)), (1, .ref (ad 1)), (2, iv x2)] gdX0_drawLatest_6 rfl (by decide) rfl ?_
  refine g_sub E [1, 2, 3, 0] rfl ?_
  exact j7 o x2 n18 h
set_option maxHeartbeats 4000000 in
set_option maxRecDepth 100000 in
theorem c_X0_draw (l : Launch) (g : GG) (ad : Nat → Nat) (o : OO) (x2 : Int) (x3 : Int) (v : Int × OO) (h : s_X0_draw o x2 x3 = some v) : CI l g yX0_draw cX0_draw 7 (some .boolean) 3 68 (wC g ad o) [.ref (ad 66), .ref (ad 1), iv x2, iv x3] v.1 (wC g ad v.2) := by
  refine met_I (by decide) (Nat.le_of_ble_eq_true rfl) ?_
  intro X E hQ
  show Go X 0 (wC g ad o) [(0, .ref (ad 66)), (1, .ref (ad 1)), (2, iv x2), (3, iv x3)] []
  have j43 : ∀ (o : OO), b_X0_draw_43 o = some v → Go X 43 (wC g ad o) [] [] := by
    intro o h
    unfold b_X0_draw_43 at h
    refine g_iconst E gdX0_draw_43 ?_
    obtain ⟨hz, h⟩ := qZ_of h
    exact g_zret E hQ hz (by rw [← Option.some.inj h]) (by rw [← Option.some.inj h]) gdX0_draw_44
  have j83 : ∀ (o : OO), b_X0_draw_83 o = some v → Go X 83 (wC g ad o) [] [] := by
    intro o h
    unfold b_X0_draw_83 at h
    refine g_iconst E gdX0_draw_83 ?_
    obtain ⟨hz, h⟩ := qZ_of h
    exact g_zret E hQ hz (by rw [← Option.some.inj h]) (by rw [← Option.some.inj h]) gdX0_draw_84
  have j91 : ∀ (o : OO) (x2 : Int) (x3 : Int) (x4 : Int), b_X0_draw_91 o x2 x3 x4 = some v → Go X 91 (wC g ad o) [(0, .ref (ad 66)), (1, .ref (ad 1)), (2, iv x2), (3, iv x3), (4, iv x4)] [] := by
    intro o x2 x3 x4 h
    unfold b_X0_draw_91 at h
    refine g_aload_n E gdX0_draw_91 rfl 0 rfl ?_
    refine g_aload_n E gdX0_draw_92 rfl 1 rfl ?_
    refine g_iload_n E gdX0_draw_93 rfl 2 rfl ?_
    refine g_iload E gdX0_draw_94 4 rfl ?_
    refine g_iload_n E gdX0_draw_96 rfl 3 rfl ?_
    obtain ⟨r1, o3, hc2, h⟩ := qB2_of h
    refine g_Vi (r := r1) (As := [.ref (ad 1), iv x2, iv x4, iv x3]) (rest := []) (w := wC g ad o3) E (c_X0_drawEnds l g ad o x2 x4 x3 (r1, o3) hc2) okm_X0_drawEnds okw_X0_drawEnds w_1271 rfl (wC_66 g ad o) rfl rfl (Nat.le_of_ble_eq_true rfl) ⟨Nat.le_of_ble_eq_true rfl, Nat.le_of_ble_eq_true rfl⟩ gdX0_draw_97 ?_
    refine g_if_ne E 105 gdX0_draw_100 (by decide) h (fun h => ?_) (fun h => ?_)
    ·
      refine g_aload_n E gdX0_draw_105 rfl 0 rfl ?_
      refine g_iload E gdX0_draw_106 4 rfl ?_
      obtain ⟨o6, hc5, h⟩ := qB_of h
      refine g_Vv (As := [iv x4]) (rest := []) (w := wC g ad o6) E (c_X0_keep l g ad o3 x4 o6 hc5) okm_X0_keep okw_X0_keep w_1285 rfl (wC_66 g ad o3) rfl rfl (Nat.le_of_ble_eq_true rfl) ⟨Nat.le_of_ble_eq_true rfl, Nat.le_of_ble_eq_true rfl⟩ gdX0_draw_108 ?_
      refine g_aload_n E gdX0_draw_111 rfl 0 rfl ?_
      refine g_aload_n E gdX0_draw_112 rfl 1 rfl ?_
      refine g_iload_n E gdX0_draw_113 rfl 2 rfl ?_
      obtain ⟨o9, hc8, h⟩ := qB_of h
      refine g_Vv (As := [.ref (ad 1), iv x2]) (rest := []) (w := wC g ad o9) E (c_X0_drawLatest l g ad o6 x2 o9 hc8) okm_X0_drawLatest okw_X0_drawLatest w_1289 rfl (wC_66 g ad o6) rfl rfl (Nat.le_of_ble_eq_true rfl) ⟨Nat.le_of_ble_eq_true rfl, Nat.le_of_ble_eq_true rfl⟩ gdX0_draw_114 ?_
      refine g_iconst E gdX0_draw_117 ?_
      obtain ⟨hz, h⟩ := qZ_of h
      exact g_zret E hQ hz (by rw [← Option.some.inj h]) (by rw [← Option.some.inj h]) gdX0_draw_118
    ·
      refine g_iconst E gdX0_draw_103 ?_
      obtain ⟨hz, h⟩ := qZ_of h
      exact g_zret E hQ hz (by rw [← Option.some.inj h]) (by rw [← Option.some.inj h]) gdX0_draw_104
  have l12 : ∀ (o : OO) (x2 : Int) (x3 : Int) (x4 : Int) (r : (Unit) ⊕ (Unit) ⊕ (Unit)) (s0 : Int), loopW (fun s => l_X0_draw_12 o x2 x3 x4 s) s0 = some r → (r = (.inl ()) → Go X 43 (wC g ad o) [] []) → (r = (.inr (.inl ())) → Go X 83 (wC g ad o) [] []) → (r = (.inr (.inr ())) → Go X 91 (wC g ad o) [(0, .ref (ad 66)), (1, .ref (ad 1)), (2, iv x2), (3, iv x3), (4, iv x4)] []) → Go X 12 (wC g ad o) [(0, .ref (ad 66)), (1, .ref (ad 1)), (2, iv x2), (3, iv x3), (4, iv x4), (5, iv s0)] [] := by
    intro o x2 x3 x4 r s0 h k1 k2 k3
    refine loop_rule (Head := fun s0 => Go X 12 (wC g ad o) [(0, .ref (ad 66)), (1, .ref (ad 1)), (2, iv x2), (3, iv x3), (4, iv x4), (5, iv s0)] []) h ?_
    intro s v h kk kx
    obtain ⟨x5, hs⟩ : ∃ q, q = s := ⟨_, rfl⟩
    subst hs
    have h : l_X0_draw_12 o x2 x3 x4 x5 = some v := h
    have k0 : ∀ (x5 : Int), v = .inl x5 → Go X 12 (wC g ad o) [(0, .ref (ad 66)), (1, .ref (ad 1)), (2, iv x2), (3, iv x3), (4, iv x4), (5, iv x5)] [] := fun x5 e => kk x5 e
    have k1 : v = .inr (.inl ()) → Go X 43 (wC g ad o) [] [] := fun e => k1 (kx _ e).symm
    have k2 : v = .inr (.inr (.inl ())) → Go X 83 (wC g ad o) [] [] := fun e => k2 (kx _ e).symm
    have k3 : v = .inr (.inr (.inr ())) → Go X 91 (wC g ad o) [(0, .ref (ad 66)), (1, .ref (ad 1)), (2, iv x2), (3, iv x3), (4, iv x4)] [] := fun e => k3 (kx _ e).symm
    unfold l_X0_draw_12 at h
    refine g_iload E gdX0_draw_12 5 rfl ?_
    refine g_iload E gdX0_draw_14 4 rfl ?_
    refine g_icmp_ge E 91 gdX0_draw_16 (by decide) h (fun h => ?_) (fun h => ?_)
    ·
      refine g_sub E [0, 1, 2, 3, 4] rfl ?_
      exact k3  (Option.some.inj h).symm
    ·
      refine g_aload_n E gdX0_draw_19 rfl 1 rfl ?_
      refine g_iload_n E gdX0_draw_20 rfl 2 rfl ?_
      refine g_iconst E gdX0_draw_21 ?_
      refine g_iload E gdX0_draw_22 5 rfl ?_
      refine g_imul E gdX0_draw_24 ?_
      obtain ⟨r10, hc11, h⟩ := qB_of h
      refine g_Vi (r := r10) (As := [iv x2, iv (3 * x5)]) (rest := []) (w := wC g ad o) E (c_X8_at l g ad o x2 (3 * x5) r10 hc11) okm_X8_at okw_X8_at w_1267 rfl (wC_1 g ad o) rfl rfl (Nat.le_of_ble_eq_true rfl) ⟨Nat.le_of_ble_eq_true rfl, Nat.le_of_ble_eq_true rfl⟩ gdX0_draw_25 ?_
      refine g_istore E [(6, iv r10), (0, .ref (ad 66)), (1, .ref (ad 1)), (2, iv x2), (3, iv x3), (4, iv x4), (5, iv x5)] gdX0_draw_28 (by decide) rfl ?_
      refine g_iload E gdX0_draw_30 0 rfl ?_
      refine g_if_lt E 43 gdX0_draw_32 (by decide) h (fun h => ?_) (fun h => ?_)
      ·
        refine g_sub E [] rfl ?_
        exact k1  (Option.some.inj h).symm
      ·
        refine g_iload E gdX0_draw_35 0 rfl ?_
        refine g_sipush E gdX0_draw_37 (by decide) ?_
        refine g_icmp_le E 45 gdX0_draw_40 (by decide) h (fun h => ?_) (fun h => ?_)
        ·
          refine g_aload_n E gdX0_draw_45 rfl 2 rfl ?_
          refine g_iload_n E gdX0_draw_46 rfl 3 rfl ?_
          refine g_iconst E gdX0_draw_47 ?_
          refine g_iload E gdX0_draw_48 6 rfl ?_
          refine g_imul E gdX0_draw_50 ?_
          refine g_iconst E gdX0_draw_51 ?_
          refine g_iadd E gdX0_draw_52 ?_
          obtain ⟨r12, hc13, h⟩ := qB_of h
          refine g_Vi (r := r12) (As := [iv x2, iv ((3 * x5) + 1)]) (rest := []) (w := wC g ad o) E (c_X8_at l g ad o x2 ((3 * x5) + 1) r12 hc13) okm_X8_at okw_X8_at w_1267 rfl (wC_1 g ad o) rfl rfl (Nat.le_of_ble_eq_true rfl) ⟨Nat.le_of_ble_eq_true rfl, Nat.le_of_ble_eq_true rfl⟩ gdX0_draw_53 ?_
          refine g_iload E gdX0_draw_56 5 rfl ?_
          obtain ⟨r14, hc15, h⟩ := qB_of h
          refine g_Si (r := r14) (As := [iv r12, iv x4]) (rest := []) (w := wC g ad o) E (c_X0_isAhead l g (wC g ad o) r12 x4 r14 hc15) okm_X0_isAhead w_1269 w_1268 rfl rfl (Nat.le_of_ble_eq_true rfl) ⟨Nat.le_of_ble_eq_true rfl, Nat.le_of_ble_eq_true rfl⟩ gdX0_draw_58 ?_
          refine g_if_eq E 83 gdX0_draw_61 (by decide) h (fun h => ?_) (fun h => ?_)
          ·
            refine g_sub E [] rfl ?_
            exact k2  (Option.some.inj h).symm
          ·
            refine g_aload_n E gdX0_draw_64 rfl 2 rfl ?_
            refine g_iload_n E gdX0_draw_65 rfl 3 rfl ?_
            refine g_iconst E gdX0_draw_66 ?_
            refine g_iload E gdX0_draw_67 6 rfl ?_
            refine g_imul E gdX0_draw_69 ?_
            refine g_iconst E gdX0_draw_70 ?_
            refine g_iadd E gdX0_draw_71 ?_
            obtain ⟨r16, hc17, h⟩ := qB_of h
            refine g_Vi (r := r16) (As := [iv x2, iv ((3 * x5) + 2)]) (rest := []) (w := wC g ad o) E (c_X8_at l g ad o x2 ((3 * x5) + 2) r16 hc17) okm_X8_at okw_X8_at w_1267 rfl (wC_1 g ad o) rfl rfl (Nat.le_of_ble_eq_true rfl) ⟨Nat.le_of_ble_eq_true rfl, Nat.le_of_ble_eq_true rfl⟩ gdX0_draw_72 ?_
            refine g_iload E gdX0_draw_75 5 rfl ?_
            obtain ⟨r18, hc19, h⟩ := qB_of h
            refine g_Si (r := r18) (As := [iv r16, iv x4]) (rest := []) (w := wC g ad o) E (c_X0_isAhead l g (wC g ad o) r16 x4 r18 hc19) okm_X0_isAhead w_1269 w_1268 rfl rfl (Nat.le_of_ble_eq_true rfl) ⟨Nat.le_of_ble_eq_true rfl, Nat.le_of_ble_eq_true rfl⟩ gdX0_draw_77 ?_
            refine g_if_ne E 85 gdX0_draw_80 (by decide) h (fun h => ?_) (fun h => ?_)
            ·
              refine g_iinc E [(5, iv (x5 + 1)), (6, iv r10), (0, .ref (ad 66)), (1, .ref (ad 1)), (2, iv x2), (3, iv x3), (4, iv x4)] gdX0_draw_85 6 rfl (by decide) rfl ?_
              refine g_goto E 12 gdX0_draw_88 (by decide) ?_
              refine g_sub E [2, 3, 4, 5, 6, 0] rfl ?_
              exact k0 (x5 + 1) (Option.some.inj h).symm
            ·
              refine g_sub E [] rfl ?_
              exact k2  (Option.some.inj h).symm
        ·
          refine g_sub E [] rfl ?_
          exact k1  (Option.some.inj h).symm
  have j12 : ∀ (o : OO) (x2 : Int) (x3 : Int) (x4 : Int) (x5 : Int), e_X0_draw_12 o x2 x3 x4 x5 = some v → Go X 12 (wC g ad o) [(0, .ref (ad 66)), (1, .ref (ad 1)), (2, iv x2), (3, iv x3), (4, iv x4), (5, iv x5)] [] := by
    intro o x2 x3 x4 x5 h
    unfold e_X0_draw_12 at h
    obtain ⟨r, hr, h⟩ := qB_of h
    refine l12 o x2 x3 x4 r _ hr ?_ ?_ ?_
    ·
      intro e
      subst e
      have h : b_X0_draw_43 o = some v := h
      exact j43 o h
    ·
      intro e
      subst e
      have h : b_X0_draw_83 o = some v := h
      exact j83 o h
    ·
      intro e
      subst e
      have h : b_X0_draw_91 o x2 x3 x4 = some v := h
      exact j91 o x2 x3 x4 h
  unfold s_X0_draw at h
  refine g_aload_n E gdX0_draw_0 rfl 1 rfl ?_
  refine g_iload_n E gdX0_draw_1 rfl 2 rfl ?_
  obtain ⟨r20, hc21, h⟩ := qB_of h
  refine g_Vi (r := r20) (As := [iv x2]) (rest := []) (w := wC g ad o) E (c_X8_sizeOf l g ad o x2 r20 hc21) okm_X8_sizeOf okw_X8_sizeOf w_1266 rfl (wC_1 g ad o) rfl rfl (Nat.le_of_ble_eq_true rfl) ⟨Nat.le_of_ble_eq_true rfl, Nat.le_of_ble_eq_true rfl⟩ gdX0_draw_2 ?_
  refine g_iconst E gdX0_draw_5 ?_
  obtain ⟨hd22, h⟩ := qDv_of h
  refine g_idiv E hd22 gdX0_draw_6 ?_
  obtain ⟨n23, e_n23, h⟩ := qNm_of h
  refine g_nmi e_n23 ?_
  refine g_istore E [(4, iv n23), (0, .ref (ad 66)), (1, .ref (ad 1)), (2, iv x2), (3, iv x3)] gdX0_draw_7 (by decide) rfl ?_
  refine g_iconst E gdX0_draw_9 ?_
  refine g_istore E [(5, iv 0), (4, iv n23), (0, .ref (ad 66)), (1, .ref (ad 1)), (2, iv x2), (3, iv x3)] gdX0_draw_10 (by decide) rfl ?_
  refine g_sub E [2, 3, 4, 5, 1, 0] rfl ?_
  exact j12 o x2 x3 n23 0 h
set_option maxHeartbeats 4000000 in
set_option maxRecDepth 100000 in
theorem c_X11_acts (l : Launch) (g : GG) (ad : Nat → Nat) (o : OO) (x1 : Int) (v : Int × OO) (h : s_X11_acts o x1 = some v) : CI l g yX11_acts cX11_acts 3 (some .int) 4 94 (wC g ad o) [.ref (ad 0), iv x1] v.1 (wC g ad v.2) := by
  refine met_I (by decide) (Nat.le_of_ble_eq_true rfl) ?_
  intro X E hQ
  show Go X 0 (wC g ad o) [(0, .ref (ad 0)), (1, iv x1)] []
  have j56 : ∀ (o : OO), b_X11_acts_56 o = some v → Go X 56 (wC g ad o) [(0, .ref (ad 0))] [] := by
    intro o h
    unfold b_X11_acts_56 at h
    refine g_aload_n E gdX11_acts_56 rfl 0 rfl ?_
    refine g_iconst E gdX11_acts_57 ?_
    obtain ⟨r1, o3, hc2, h⟩ := qB2_of h
    refine g_Vi (r := r1) (As := [iv 5]) (rest := []) (w := wC g ad o3) E (c_X11_found l g ad o 5 (r1, o3) hc2) okm_X11_found okw_X11_found w_521 rfl (wC_0 g ad o) rfl rfl (Nat.le_of_ble_eq_true rfl) ⟨Nat.le_of_ble_eq_true rfl, Nat.le_of_ble_eq_true rfl⟩ gdX11_acts_58 ?_
    exact g_iret E hQ (by rw [← Option.some.inj h]) (by rw [← Option.some.inj h]) gdX11_acts_61
  unfold s_X11_acts at h
  refine g_aload_n E gdX11_acts_0 rfl 0 rfl ?_
  refine g_get (T := TX11) E fw_X11 0 (wC_0 g ad o) rfl 0 (by decide) w_458 rfl rfl gdX11_acts_1 ?_
  refine g_iload_n E gdX11_acts_4 rfl 1 rfl ?_
  obtain ⟨r4, hc5, h⟩ := qB_of h
  refine g_Vi (r := r4) (As := [iv x1]) (rest := []) (w := wC g ad o) E (c_X8_exists l g ad o x1 r4 hc5) okm_X8_exists okw_X8_exists w_517 rfl (wC_1 g ad o) rfl rfl (Nat.le_of_ble_eq_true rfl) ⟨Nat.le_of_ble_eq_true rfl, Nat.le_of_ble_eq_true rfl⟩ gdX11_acts_5 ?_
  refine g_if_ne E 13 gdX11_acts_8 (by decide) h (fun h => ?_) (fun h => ?_)
  ·
    refine g_aload_n E gdX11_acts_13 rfl 0 rfl ?_
    refine g_get (T := TX11) E fw_X11 0 (wC_0 g ad o) rfl 0 (by decide) w_458 rfl rfl gdX11_acts_14 ?_
    refine g_iload_n E gdX11_acts_17 rfl 1 rfl ?_
    obtain ⟨r6, hc7, h⟩ := qB_of h
    refine g_Vi (r := r6) (As := [iv x1]) (rest := []) (w := wC g ad o) E (c_X8_isThere l g ad o x1 r6 hc7) okm_X8_isThere okw_X8_isThere w_539 rfl (wC_1 g ad o) rfl rfl (Nat.le_of_ble_eq_true rfl) ⟨Nat.le_of_ble_eq_true rfl, Nat.le_of_ble_eq_true rfl⟩ gdX11_acts_18 ?_
    refine g_if_ne E 30 gdX11_acts_21 (by decide) h (fun h => ?_) (fun h => ?_)
    ·
      refine g_aload_n E gdX11_acts_30 rfl 0 rfl ?_
      refine g_get (T := TX11) E fw_X11 0 (wC_0 g ad o) rfl 0 (by decide) w_458 rfl rfl gdX11_acts_31 ?_
      refine g_iload_n E gdX11_acts_34 rfl 1 rfl ?_
      obtain ⟨r8, hc9, h⟩ := qB_of h
      refine g_Vi (r := r8) (As := [iv x1]) (rest := []) (w := wC g ad o) E (c_X8_sizeOf l g ad o x1 r8 hc9) okm_X8_sizeOf okw_X8_sizeOf w_794 rfl (wC_1 g ad o) rfl rfl (Nat.le_of_ble_eq_true rfl) ⟨Nat.le_of_ble_eq_true rfl, Nat.le_of_ble_eq_true rfl⟩ gdX11_acts_35 ?_
      refine g_istore_n E [(2, iv r8), (0, .ref (ad 0)), (1, iv x1)] gdX11_acts_38 rfl (by decide) rfl ?_
      refine g_iload_n E gdX11_acts_39 rfl 0 rfl ?_
      refine g_iconst E gdX11_acts_40 ?_
      obtain ⟨hd10, h⟩ := qDv_of h
      refine g_irem E hd10 gdX11_acts_41 ?_
      refine g_if_ne E 56 gdX11_acts_42 (by decide) h (fun h => ?_) (fun h => ?_)
      ·
        refine g_sub E [1] rfl ?_
        exact j56 o h
      ·
        refine g_iload_n E gdX11_acts_45 rfl 0 rfl ?_
        refine g_iconst E gdX11_acts_46 ?_
        refine g_icmp_lt E 56 gdX11_acts_47 (by decide) h (fun h => ?_) (fun h => ?_)
        ·
          refine g_sub E [1] rfl ?_
          exact j56 o h
        ·
          refine g_iload_n E gdX11_acts_50 rfl 0 rfl ?_
          refine g_bipush E gdX11_acts_51 (by decide) ?_
          refine g_icmp_le E 62 gdX11_acts_53 (by decide) h (fun h => ?_) (fun h => ?_)
          ·
            refine g_aload_n E gdX11_acts_62 rfl 1 rfl ?_
            refine g_get (T := TX11) E fw_X11 0 (wC_0 g ad o) rfl 10 (by decide) w_468 rfl rfl gdX11_acts_63 ?_
            refine g_aload_n E gdX11_acts_66 rfl 1 rfl ?_
            refine g_get (T := TX11) E fw_X11 0 (wC_0 g ad o) rfl 0 (by decide) w_458 rfl rfl gdX11_acts_67 ?_
            refine g_iload_n E gdX11_acts_70 rfl 2 rfl ?_
            refine g_aload_n E gdX11_acts_71 rfl 1 rfl ?_
            refine g_get (T := TX11) E fw_X11 0 (wC_0 g ad o) rfl 13 (by decide) w_471 rfl rfl gdX11_acts_72 ?_
            obtain ⟨r11, o13, hc12, h⟩ := qB2_of h
            refine g_Vi (r := r11) (As := [.ref (ad 1), iv x1, iv (o.1 0 13)]) (rest := []) (w := wC g ad o13) E (c_X0_draw l g ad o x1 (o.1 0 13) (r11, o13) hc12) okm_X0_draw okw_X0_draw w_1262 rfl (wC_66 g ad o) rfl rfl (Nat.le_of_ble_eq_true rfl) ⟨Nat.le_of_ble_eq_true rfl, Nat.le_of_ble_eq_true rfl⟩ gdX11_acts_75 ?_
            refine g_if_ne E 87 gdX11_acts_78 (by decide) h (fun h => ?_) (fun h => ?_)
            ·
              refine g_aload_n E gdX11_acts_87 rfl 1 rfl ?_
              refine g_get (T := TX11) E fw_X11 0 (wC_0 g ad o13) rfl 10 (by decide) w_468 rfl rfl gdX11_acts_88 ?_
              refine g_get (T := TX0) E fw_X0 66 (wC_66 g ad o13) rfl 1 (by decide) w_415 rfl rfl gdX11_acts_91 ?_
              exact g_iret E hQ (by rw [← Option.some.inj h]) (by rw [← Option.some.inj h]) gdX11_acts_94
            ·
              refine g_aload_n E gdX11_acts_81 rfl 1 rfl ?_
              refine g_iconst E gdX11_acts_82 ?_
              obtain ⟨r14, o16, hc15, h⟩ := qB2_of h
              refine g_Vi (r := r14) (As := [iv 3]) (rest := []) (w := wC g ad o16) E (c_X11_found l g ad o13 3 (r14, o16) hc15) okm_X11_found okw_X11_found w_521 rfl (wC_0 g ad o13) rfl rfl (Nat.le_of_ble_eq_true rfl) ⟨Nat.le_of_ble_eq_true rfl, Nat.le_of_ble_eq_true rfl⟩ gdX11_acts_83 ?_
              exact g_iret E hQ (by rw [← Option.some.inj h]) (by rw [← Option.some.inj h]) gdX11_acts_86
          ·
            refine g_sub E [1] rfl ?_
            exact j56 o h
    ·
      refine g_aload_n E gdX11_acts_24 rfl 0 rfl ?_
      refine g_iconst E gdX11_acts_25 ?_
      obtain ⟨r17, o19, hc18, h⟩ := qB2_of h
      refine g_Vi (r := r17) (As := [iv 1]) (rest := []) (w := wC g ad o19) E (c_X11_found l g ad o 1 (r17, o19) hc18) okm_X11_found okw_X11_found w_521 rfl (wC_0 g ad o) rfl rfl (Nat.le_of_ble_eq_true rfl) ⟨Nat.le_of_ble_eq_true rfl, Nat.le_of_ble_eq_true rfl⟩ gdX11_acts_26 ?_
      exact g_iret E hQ (by rw [← Option.some.inj h]) (by rw [← Option.some.inj h]) gdX11_acts_29
  ·
    refine g_iconst E gdX11_acts_11 ?_
    exact g_iret E hQ (by rw [← Option.some.inj h]) (by rw [← Option.some.inj h]) gdX11_acts_12
set_option maxHeartbeats 4000000 in
set_option maxRecDepth 100000 in
theorem c_X11_asked (l : Launch) (g : GG) (ad : Nat → Nat) (o : OO) (v : Int) (h : s_X11_asked o = some v) : CI l g yX11_asked cX11_asked 1 (some .int) 0 0 (wC g ad o) [.ref (ad 0)] v (wC g ad o) := by
  refine met_I (by decide) (Nat.le_of_ble_eq_true rfl) ?_
  intro X E hQ
  show Go X 0 (wC g ad o) [(0, .ref (ad 0))] []
  unfold s_X11_asked at h
  refine g_aload_n E gdX11_asked_0 rfl 0 rfl ?_
  refine g_get (T := TX11) E fw_X11 0 (wC_0 g ad o) rfl 14 (by decide) w_472 rfl rfl gdX11_asked_1 ?_
  exact g_iret E hQ (Option.some.inj h) rfl gdX11_asked_4
set_option maxHeartbeats 4000000 in
set_option maxRecDepth 100000 in
theorem c_X8_allWithin (l : Launch) (g : GG) (ad : Nat → Nat) (o : OO) (x1 : Int) (x2 : Int) (x3 : Int) (v : Int) (h : s_X8_allWithin o x1 x2 x3 = some v) : CI l g yX8_allWithin cX8_allWithin 5 (some .boolean) 1 22 (wC g ad o) [.ref (ad 1), iv x1, iv x2, iv x3] v (wC g ad o) := by
  refine met_I (by decide) (Nat.le_of_ble_eq_true rfl) ?_
  intro X E hQ
  show Go X 0 (wC g ad o) [(0, .ref (ad 1)), (1, iv x1), (2, iv x2), (3, iv x3)] []
  have j36 : b_X8_allWithin_36 o = some v → Go X 36 (wC g ad o) [] [] := by
    intro h
    unfold b_X8_allWithin_36 at h
    refine g_iconst E gdX8_allWithin_36 ?_
    obtain ⟨hz, h⟩ := qZ_of h
    exact g_zret E hQ hz (Option.some.inj h) rfl gdX8_allWithin_37
  have j44 : b_X8_allWithin_44 o = some v → Go X 44 (wC g ad o) [] [] := by
    intro h
    unfold b_X8_allWithin_44 at h
    refine g_iconst E gdX8_allWithin_44 ?_
    obtain ⟨hz, h⟩ := qZ_of h
    exact g_zret E hQ hz (Option.some.inj h) rfl gdX8_allWithin_45
  have l3 : ∀ (x1 : Int) (x2 : Int) (x3 : Int) (r : (Unit) ⊕ (Unit)) (s0 : Int), loopW (fun s => l_X8_allWithin_3 o x1 x2 x3 s) s0 = some r → (r = (.inl ()) → Go X 36 (wC g ad o) [] []) → (r = (.inr ()) → Go X 44 (wC g ad o) [] []) → Go X 3 (wC g ad o) [(0, .ref (ad 1)), (1, iv x1), (2, iv x2), (3, iv x3), (4, iv s0)] [] := by
    intro x1 x2 x3 r s0 h k1 k2
    refine loop_rule (Head := fun s0 => Go X 3 (wC g ad o) [(0, .ref (ad 1)), (1, iv x1), (2, iv x2), (3, iv x3), (4, iv s0)] []) h ?_
    intro s v h kk kx
    obtain ⟨x4, hs⟩ : ∃ q, q = s := ⟨_, rfl⟩
    subst hs
    have h : l_X8_allWithin_3 o x1 x2 x3 x4 = some v := h
    have k0 : ∀ (x4 : Int), v = .inl x4 → Go X 3 (wC g ad o) [(0, .ref (ad 1)), (1, iv x1), (2, iv x2), (3, iv x3), (4, iv x4)] [] := fun x4 e => kk x4 e
    have k1 : v = .inr (.inl ()) → Go X 36 (wC g ad o) [] [] := fun e => k1 (kx _ e).symm
    have k2 : v = .inr (.inr ()) → Go X 44 (wC g ad o) [] [] := fun e => k2 (kx _ e).symm
    unfold l_X8_allWithin_3 at h
    refine g_iload E gdX8_allWithin_3 4 rfl ?_
    refine g_aload_n E gdX8_allWithin_5 rfl 0 rfl ?_
    refine g_get (T := TX8) E fw_X8 1 (wC_1 g ad o) rfl 2 (by decide) w_128 rfl rfl gdX8_allWithin_6 ?_
    refine g_iload_n E gdX8_allWithin_9 rfl 1 rfl ?_
    obtain ⟨hi1, h⟩ := qIn_of h
    refine g_iald E 2 (wC_2 g ad o) (by decide) hi1 gdX8_allWithin_10 ?_
    obtain ⟨n2, e_n2, h⟩ := qNm_of h
    refine g_nmi e_n2 ?_
    refine g_icmp_ge E 44 gdX8_allWithin_11 (by decide) h (fun h => ?_) (fun h => ?_)
    ·
      refine g_sub E [] rfl ?_
      exact k2  (Option.some.inj h).symm
    ·
      refine g_aload_n E gdX8_allWithin_14 rfl 0 rfl ?_
      refine g_iload_n E gdX8_allWithin_15 rfl 1 rfl ?_
      refine g_iload E gdX8_allWithin_16 4 rfl ?_
      obtain ⟨r3, hc4, h⟩ := qB_of h
      refine g_Vi (r := r3) (As := [iv x1, iv x4]) (rest := []) (w := wC g ad o) E (c_X8_at l g ad o x1 x4 r3 hc4) okm_X8_at okw_X8_at w_799 rfl (wC_1 g ad o) rfl rfl (Nat.le_of_ble_eq_true rfl) ⟨Nat.le_of_ble_eq_true rfl, Nat.le_of_ble_eq_true rfl⟩ gdX8_allWithin_18 ?_
      refine g_iload_n E gdX8_allWithin_21 rfl 2 rfl ?_
      refine g_icmp_lt E 36 gdX8_allWithin_22 (by decide) h (fun h => ?_) (fun h => ?_)
      ·
        refine g_sub E [] rfl ?_
        exact k1  (Option.some.inj h).symm
      ·
        refine g_aload_n E gdX8_allWithin_25 rfl 0 rfl ?_
        refine g_iload_n E gdX8_allWithin_26 rfl 1 rfl ?_
        refine g_iload E gdX8_allWithin_27 4 rfl ?_
        obtain ⟨r5, hc6, h⟩ := qB_of h
        refine g_Vi (r := r5) (As := [iv x1, iv x4]) (rest := []) (w := wC g ad o) E (c_X8_at l g ad o x1 x4 r5 hc6) okm_X8_at okw_X8_at w_799 rfl (wC_1 g ad o) rfl rfl (Nat.le_of_ble_eq_true rfl) ⟨Nat.le_of_ble_eq_true rfl, Nat.le_of_ble_eq_true rfl⟩ gdX8_allWithin_29 ?_
        refine g_iload_n E gdX8_allWithin_32 rfl 3 rfl ?_
        refine g_icmp_le E 38 gdX8_allWithin_33 (by decide) h (fun h => ?_) (fun h => ?_)
        ·
          refine g_iinc E [(4, iv (x4 + 1)), (0, .ref (ad 1)), (1, iv x1), (2, iv x2), (3, iv x3)] gdX8_allWithin_38 4 rfl (by decide) rfl ?_
          refine g_goto E 3 gdX8_allWithin_41 (by decide) ?_
          refine g_sub E [1, 2, 3, 4, 0] rfl ?_
          exact k0 (x4 + 1) (Option.some.inj h).symm
        ·
          refine g_sub E [] rfl ?_
          exact k1  (Option.some.inj h).symm
  have j3 : ∀ (x1 : Int) (x2 : Int) (x3 : Int) (x4 : Int), e_X8_allWithin_3 o x1 x2 x3 x4 = some v → Go X 3 (wC g ad o) [(0, .ref (ad 1)), (1, iv x1), (2, iv x2), (3, iv x3), (4, iv x4)] [] := by
    intro x1 x2 x3 x4 h
    unfold e_X8_allWithin_3 at h
    obtain ⟨r, hr, h⟩ := qB_of h
    refine l3 x1 x2 x3 r _ hr ?_ ?_
    ·
      intro e
      subst e
      have h : b_X8_allWithin_36 o = some v := h
      exact j36  h
    ·
      intro e
      subst e
      have h : b_X8_allWithin_44 o = some v := h
      exact j44  h
  unfold s_X8_allWithin at h
  refine g_iconst E gdX8_allWithin_0 ?_
  refine g_istore E [(4, iv 0), (0, .ref (ad 1)), (1, iv x1), (2, iv x2), (3, iv x3)] gdX8_allWithin_1 (by decide) rfl ?_
  refine g_sub E [1, 2, 3, 4, 0] rfl ?_
  exact j3 x1 x2 x3 0 h
set_option maxHeartbeats 4000000 in
set_option maxRecDepth 100000 in
theorem c_X11_weighingFault (l : Launch) (g : GG) (ad : Nat → Nat) (o : OO) (x1 : Int) (x2 : Int) (v : Int) (h : s_X11_weighingFault o x1 x2 = some v) : CI l g yX11_weighingFault cX11_weighingFault 3 (some .int) 2 46 (wC g ad o) [.ref (ad 0), iv x1, iv x2] v (wC g ad o) := by
  refine met_I (by decide) (Nat.le_of_ble_eq_true rfl) ?_
  intro X E hQ
  show Go X 0 (wC g ad o) [(0, .ref (ad 0)), (1, iv x1), (2, iv x2)] []
  have j22 : b_X11_weighingFault_22 o = some v → Go X 22 (wC g ad o) [] [] := by
    intro h
    unfold b_X11_weighingFault_22 at h
    refine g_iconst E gdX11_weighingFault_22 ?_
    exact g_iret E hQ (Option.some.inj h) rfl gdX11_weighingFault_23
  unfold s_X11_weighingFault at h
  refine g_aload_n E gdX11_weighingFault_0 rfl 0 rfl ?_
  refine g_get (T := TX11) E fw_X11 0 (wC_0 g ad o) rfl 0 (by decide) w_458 rfl rfl gdX11_weighingFault_1 ?_
  refine g_iload_n E gdX11_weighingFault_4 rfl 1 rfl ?_
  obtain ⟨r1, hc2, h⟩ := qB_of h
  refine g_Vi (r := r1) (As := [iv x1]) (rest := []) (w := wC g ad o) E (c_X8_isThere l g ad o x1 r1 hc2) okm_X8_isThere okw_X8_isThere w_539 rfl (wC_1 g ad o) rfl rfl (Nat.le_of_ble_eq_true rfl) ⟨Nat.le_of_ble_eq_true rfl, Nat.le_of_ble_eq_true rfl⟩ gdX11_weighingFault_5 ?_
  refine g_if_eq E 22 gdX11_weighingFault_8 (by decide) h (fun h => ?_) (fun h => ?_)
  ·
    refine g_sub E [] rfl ?_
    exact j22  h
  ·
    refine g_aload_n E gdX11_weighingFault_11 rfl 0 rfl ?_
    refine g_get (T := TX11) E fw_X11 0 (wC_0 g ad o) rfl 0 (by decide) w_458 rfl rfl gdX11_weighingFault_12 ?_
    refine g_iload_n E gdX11_weighingFault_15 rfl 2 rfl ?_
    obtain ⟨r3, hc4, h⟩ := qB_of h
    refine g_Vi (r := r3) (As := [iv x2]) (rest := []) (w := wC g ad o) E (c_X8_isThere l g ad o x2 r3 hc4) okm_X8_isThere okw_X8_isThere w_539 rfl (wC_1 g ad o) rfl rfl (Nat.le_of_ble_eq_true rfl) ⟨Nat.le_of_ble_eq_true rfl, Nat.le_of_ble_eq_true rfl⟩ gdX11_weighingFault_16 ?_
    refine g_if_ne E 24 gdX11_weighingFault_19 (by decide) h (fun h => ?_) (fun h => ?_)
    ·
      refine g_aload_n E gdX11_weighingFault_24 rfl 0 rfl ?_
      refine g_get (T := TX11) E fw_X11 0 (wC_0 g ad o) rfl 0 (by decide) w_458 rfl rfl gdX11_weighingFault_25 ?_
      refine g_iload_n E gdX11_weighingFault_28 rfl 1 rfl ?_
      obtain ⟨r5, hc6, h⟩ := qB_of h
      refine g_Vi (r := r5) (As := [iv x1]) (rest := []) (w := wC g ad o) E (c_X8_sizeOf l g ad o x1 r5 hc6) okm_X8_sizeOf okw_X8_sizeOf w_794 rfl (wC_1 g ad o) rfl rfl (Nat.le_of_ble_eq_true rfl) ⟨Nat.le_of_ble_eq_true rfl, Nat.le_of_ble_eq_true rfl⟩ gdX11_weighingFault_29 ?_
      refine g_iconst E gdX11_weighingFault_32 ?_
      refine g_icmp_eq E 38 gdX11_weighingFault_33 (by decide) h (fun h => ?_) (fun h => ?_)
      ·
        refine g_aload_n E gdX11_weighingFault_38 rfl 0 rfl ?_
        refine g_get (T := TX11) E fw_X11 0 (wC_0 g ad o) rfl 0 (by decide) w_458 rfl rfl gdX11_weighingFault_39 ?_
        refine g_iload_n E gdX11_weighingFault_42 rfl 1 rfl ?_
        refine g_iconst E gdX11_weighingFault_43 ?_
        refine g_bipush E gdX11_weighingFault_44 (by decide) ?_
        obtain ⟨r7, hc8, h⟩ := qB_of h
        refine g_Vi (r := r7) (As := [iv x1, iv 0, iv 100]) (rest := []) (w := wC g ad o) E (c_X8_allWithin l g ad o x1 0 100 r7 hc8) okm_X8_allWithin okw_X8_allWithin w_795 rfl (wC_1 g ad o) rfl rfl (Nat.le_of_ble_eq_true rfl) ⟨Nat.le_of_ble_eq_true rfl, Nat.le_of_ble_eq_true rfl⟩ gdX11_weighingFault_46 ?_
        refine g_if_ne E 54 gdX11_weighingFault_49 (by decide) h (fun h => ?_) (fun h => ?_)
        ·
          refine g_iconst E gdX11_weighingFault_54 ?_
          exact g_iret E hQ (Option.some.inj h) rfl gdX11_weighingFault_55
        ·
          refine g_iconst E gdX11_weighingFault_52 ?_
          exact g_iret E hQ (Option.some.inj h) rfl gdX11_weighingFault_53
      ·
        refine g_iconst E gdX11_weighingFault_36 ?_
        exact g_iret E hQ (Option.some.inj h) rfl gdX11_weighingFault_37
    ·
      refine g_sub E [] rfl ?_
      exact j22  h
set_option maxHeartbeats 4000000 in
set_option maxRecDepth 100000 in
theorem c_X4_number (l : Launch) (g : GG) (ad : Nat → Nat) (o : OO) (v : Int) (h : s_X4_number o = some v) : CI l g yX4_number cX4_number 1 (some .int) 0 0 (wC g ad o) [.ref (ad 32)] v (wC g ad o) := by
  refine met_I (by decide) (Nat.le_of_ble_eq_true rfl) ?_
  intro X E hQ
  show Go X 0 (wC g ad o) [(0, .ref (ad 32))] []
  unfold s_X4_number at h
  refine g_aload_n E gdX4_number_0 rfl 0 rfl ?_
  refine g_get (T := TX4) E fw_X4 32 (wC_32 g ad o) rfl 13 (by decide) w_264 rfl rfl gdX4_number_1 ?_
  exact g_iret E hQ (Option.some.inj h) rfl gdX4_number_4
set_option maxHeartbeats 4000000 in
set_option maxRecDepth 100000 in
theorem c_X4_kindOf (l : Launch) (g : GG) (ad : Nat → Nat) (o : OO) (x1 : Int) (v : Int) (h : s_X4_kindOf o x1 = some v) : CI l g yX4_kindOf cX4_kindOf 2 (some .int) 0 0 (wC g ad o) [.ref (ad 32), iv x1] v (wC g ad o) := by
  refine met_I (by decide) (Nat.le_of_ble_eq_true rfl) ?_
  intro X E hQ
  show Go X 0 (wC g ad o) [(0, .ref (ad 32)), (1, iv x1)] []
  unfold s_X4_kindOf at h
  refine g_aload_n E gdX4_kindOf_0 rfl 0 rfl ?_
  refine g_get (T := TX4) E fw_X4 32 (wC_32 g ad o) rfl 0 (by decide) w_251 rfl rfl gdX4_kindOf_1 ?_
  refine g_iload_n E gdX4_kindOf_4 rfl 1 rfl ?_
  obtain ⟨hi1, h⟩ := qIn_of h
  refine g_iald E 33 (wC_33 g ad o) (by decide) hi1 gdX4_kindOf_5 ?_
  obtain ⟨n2, e_n2, h⟩ := qNm_of h
  refine g_nmi e_n2 ?_
  exact g_iret E hQ (Option.some.inj h) rfl gdX4_kindOf_6
set_option maxHeartbeats 4000000 in
set_option maxRecDepth 100000 in
theorem c_X4_cells (l : Launch) (g : GG) (ad : Nat → Nat) (o : OO) (x1 : Int) (v : Int64) (h : s_X4_cells o x1 = some v) : CL l g yX4_cells cX4_cells 2 (some .long) 0 0 (wC g ad o) [.ref (ad 32), iv x1] v (wC g ad o) := by
  refine met_L (by decide) (Nat.le_of_ble_eq_true rfl) ?_
  intro X E hQ
  show Go X 0 (wC g ad o) [(0, .ref (ad 32)), (1, iv x1)] []
  unfold s_X4_cells at h
  refine g_aload_n E gdX4_cells_0 rfl 0 rfl ?_
  refine g_get (T := TX4) E fw_X4 32 (wC_32 g ad o) rfl 5 (by decide) w_256 rfl rfl gdX4_cells_1 ?_
  refine g_iload_n E gdX4_cells_4 rfl 1 rfl ?_
  obtain ⟨hi1, h⟩ := qIn_of h
  refine g_lald E 38 (wC_38 g ad o) (by decide) hi1 gdX4_cells_5 ?_
  obtain ⟨m2, e_m2, h⟩ := qNm_of h
  refine g_nml e_m2 ?_
  exact g_lret E hQ (Option.some.inj h) rfl gdX4_cells_6
set_option maxHeartbeats 4000000 in
set_option maxRecDepth 100000 in
theorem c_X4_costOf (l : Launch) (g : GG) (ad : Nat → Nat) (o : OO) (x1 : Int) (v : Int) (h : s_X4_costOf o x1 = some v) : CI l g yX4_costOf cX4_costOf 2 (some .int) 0 0 (wC g ad o) [.ref (ad 32), iv x1] v (wC g ad o) := by
  refine met_I (by decide) (Nat.le_of_ble_eq_true rfl) ?_
  intro X E hQ
  show Go X 0 (wC g ad o) [(0, .ref (ad 32)), (1, iv x1)] []
  unfold s_X4_costOf at h
  refine g_aload_n E gdX4_costOf_0 rfl 0 rfl ?_
  refine g_get (T := TX4) E fw_X4 32 (wC_32 g ad o) rfl 6 (by decide) w_257 rfl rfl gdX4_costOf_1 ?_
  refine g_iload_n E gdX4_costOf_4 rfl 1 rfl ?_
  obtain ⟨hi1, h⟩ := qIn_of h
  refine g_iald E 39 (wC_39 g ad o) (by decide) hi1 gdX4_costOf_5 ?_
  obtain ⟨n2, e_n2, h⟩ := qNm_of h
  refine g_nmi e_n2 ?_
  exact g_iret E hQ (Option.some.inj h) rfl gdX4_costOf_6
set_option maxHeartbeats 4000000 in
set_option maxRecDepth 100000 in
theorem c_X3_has (l : Launch) (g : GG) (ws : va_W) (z0 : Int64) (x2 : Int) (v : Int) (h : s_X3_has z0 x2 = some v) : CI l g yX3_has cX3_has 3 (some .boolean) 0 0 ws [.long z0, iv x2] v ws := by
  refine met_I (by decide) (Nat.le_of_ble_eq_true rfl) ?_
  intro X E hQ
  show Go X 0 ws [(0, .long z0), (2, iv x2)] []
  have j15 : ∀ (y0 : Int), b_X3_has_15 y0 = some v → Go X 15 ws [] [iv y0] := by
    intro y0 h
    unfold b_X3_has_15 at h
    obtain ⟨hz, h⟩ := qZ_of h
    exact g_zret E hQ hz (Option.some.inj h) rfl gdX3_has_15
  unfold s_X3_has at h
  refine g_lload_n E gdX3_has_0 rfl 0 rfl ?_
  refine g_iload_n E gdX3_has_1 rfl 1 rfl ?_
  refine g_lushr E gdX3_has_2 ?_
  refine g_lconst (v := 1) E gdX3_has_3 (by decide) ?_
  refine g_land E gdX3_has_4 ?_
  refine g_lconst (v := 1) E gdX3_has_5 (by decide) ?_
  refine g_lcmp_ne E 14 gdX3_has_6 gdX3_has_7 (by decide) h (fun h => ?_) (fun h => ?_)
  ·
    refine g_iconst E gdX3_has_14 ?_
    refine g_sub E [] rfl ?_
    exact j15 0 h
  ·
    refine g_iconst E gdX3_has_10 ?_
    refine g_goto E 15 gdX3_has_11 (by decide) ?_
    refine g_sub E [] rfl ?_
    exact j15 1 h
set_option maxHeartbeats 4000000 in
set_option maxRecDepth 100000 in
theorem c_X1_dwellersIn (l : Launch) (g : GG) (ad : Nat → Nat) (o : OO) (z1 : Int64) (v : Int) (h : s_X1_dwellersIn o z1 = some v) : CI l g yX1_dwellersIn cX1_dwellersIn 5 (some .int) 1 22 (wC g ad o) [.ref (ad 10), .long z1] v (wC g ad o) := by
  refine met_I (by decide) (Nat.le_of_ble_eq_true rfl) ?_
  intro X E hQ
  show Go X 0 (wC g ad o) [(0, .ref (ad 10)), (1, .long z1)] []
  have j44 : ∀ (x3 : Int), b_X1_dwellersIn_44 o x3 = some v → Go X 44 (wC g ad o) [(3, iv x3)] [] := by
    intro x3 h
    unfold b_X1_dwellersIn_44 at h
    refine g_iload_n E gdX1_dwellersIn_44 rfl 0 rfl ?_
    exact g_iret E hQ (Option.some.inj h) rfl gdX1_dwellersIn_45
  have j38 : ∀ (z1 : Int64) (x3 : Int) (x4 : Int) (v : (Int × Int) ⊕ ((Int))), b_X1_dwellersIn_38 o z1 x3 x4 = some v → (∀ (x3 : Int) (x4 : Int), v = .inl (x3, x4) → Go X 5 (wC g ad o) [(0, .ref (ad 10)), (1, .long z1), (3, iv x3), (4, iv x4)] []) → (∀ (x3 : Int), v = .inr (x3) → Go X 44 (wC g ad o) [(3, iv x3)] []) → Go X 38 (wC g ad o) [(0, .ref (ad 10)), (1, .long z1), (3, iv x3), (4, iv x4)] [] := by
    intro z1 x3 x4 v h k0 k1
    unfold b_X1_dwellersIn_38 at h
    refine g_iinc E [(4, iv (x4 + 1)), (0, .ref (ad 10)), (1, .long z1), (3, iv x3)] gdX1_dwellersIn_38 3 rfl (by decide) rfl ?_
    refine g_goto E 5 gdX1_dwellersIn_41 (by decide) ?_
    refine g_sub E [1, 2, 3, 0] rfl ?_
    exact k0 x3 (x4 + 1) (Option.some.inj h).symm
  have l5 : ∀ (z1 : Int64) (r : (Int)) (s0 : Int × Int), loopW (fun s => l_X1_dwellersIn_5 o z1 s.1 s.2) s0 = some r → (∀ (x3 : Int), r = (x3) → Go X 44 (wC g ad o) [(3, iv x3)] []) → Go X 5 (wC g ad o) [(0, .ref (ad 10)), (1, .long z1), (3, iv s0.1), (4, iv s0.2)] [] := by
    intro z1 r s0 h k1
    refine loop_rule (Head := fun s0 => Go X 5 (wC g ad o) [(0, .ref (ad 10)), (1, .long z1), (3, iv s0.1), (4, iv s0.2)] []) h ?_
    intro s v h kk kx
    obtain ⟨x3, x4⟩ := s
    have h : l_X1_dwellersIn_5 o z1 x3 x4 = some v := h
    have k0 : ∀ (x3 : Int) (x4 : Int), v = .inl (x3, x4) → Go X 5 (wC g ad o) [(0, .ref (ad 10)), (1, .long z1), (3, iv x3), (4, iv x4)] [] := fun x3 x4 e => kk (x3, x4) e
    have k1 : ∀ (x3 : Int), v = .inr (x3) → Go X 44 (wC g ad o) [(3, iv x3)] [] := fun x3 e => k1 x3 (kx _ e).symm
    unfold l_X1_dwellersIn_5 at h
    refine g_iload E gdX1_dwellersIn_5 3 rfl ?_
    refine g_aload_n E gdX1_dwellersIn_7 rfl 0 rfl ?_
    refine g_get (T := TX1) E fw_X1 10 (wC_10 g ad o) rfl 12 (by decide) w_172 rfl rfl gdX1_dwellersIn_8 ?_
    refine g_icmp_ge E 44 gdX1_dwellersIn_11 (by decide) h (fun h => ?_) (fun h => ?_)
    ·
      refine g_sub E [2] rfl ?_
      exact k1 x3 (Option.some.inj h).symm
    ·
      refine g_lload_n E gdX1_dwellersIn_14 rfl 1 rfl ?_
      refine g_aload_n E gdX1_dwellersIn_15 rfl 0 rfl ?_
      refine g_get (T := TX1) E fw_X1 10 (wC_10 g ad o) rfl 0 (by decide) w_160 rfl rfl gdX1_dwellersIn_16 ?_
      refine g_iload E gdX1_dwellersIn_19 3 rfl ?_
      obtain ⟨hi1, h⟩ := qIn_of h
      refine g_iald E 11 (wC_11 g ad o) (by decide) hi1 gdX1_dwellersIn_21 ?_
      obtain ⟨n2, e_n2, h⟩ := qNm_of h
      refine g_nmi e_n2 ?_
      obtain ⟨r3, hc4, h⟩ := qB_of h
      refine g_Si (r := r3) (As := [.long z1, iv n2]) (rest := []) (w := wC g ad o) E (c_X3_has l g (wC g ad o) z1 n2 r3 hc4) okm_X3_has w_839 w_1179 rfl rfl (Nat.le_of_ble_eq_true rfl) ⟨Nat.le_of_ble_eq_true rfl, Nat.le_of_ble_eq_true rfl⟩ gdX1_dwellersIn_22 ?_
      refine g_if_eq E 38 gdX1_dwellersIn_25 (by decide) h (fun h => ?_) (fun h => ?_)
      ·
        exact j38 z1 x3 x4 v h k0 k1
      ·
        refine g_iload_n E gdX1_dwellersIn_28 rfl 2 rfl ?_
        refine g_aload_n E gdX1_dwellersIn_29 rfl 0 rfl ?_
        refine g_get (T := TX1) E fw_X1 10 (wC_10 g ad o) rfl 3 (by decide) w_163 rfl rfl gdX1_dwellersIn_30 ?_
        refine g_iload E gdX1_dwellersIn_33 3 rfl ?_
        obtain ⟨hi5, h⟩ := qIn_of h
        refine g_iald E 14 (wC_14 g ad o) (by decide) hi5 gdX1_dwellersIn_35 ?_
        obtain ⟨n6, e_n6, h⟩ := qNm_of h
        refine g_nmi e_n6 ?_
        refine g_iadd E gdX1_dwellersIn_36 ?_
        obtain ⟨n7, e_n7, h⟩ := qNm_of h
        refine g_nmi e_n7 ?_
        refine g_istore_n E [(3, iv n7), (0, .ref (ad 10)), (1, .long z1), (4, iv x4)] gdX1_dwellersIn_37 rfl (by decide) rfl ?_
        refine g_sub E [1, 2, 0, 3] rfl ?_
        exact j38 z1 n7 x4 v h k0 k1
  have j5 : ∀ (z1 : Int64) (x3 : Int) (x4 : Int), e_X1_dwellersIn_5 o z1 x3 x4 = some v → Go X 5 (wC g ad o) [(0, .ref (ad 10)), (1, .long z1), (3, iv x3), (4, iv x4)] [] := by
    intro z1 x3 x4 h
    unfold e_X1_dwellersIn_5 at h
    obtain ⟨r, hr, h⟩ := qB_of h
    refine l5 z1 r _ hr ?_
    ·
      intro u0 e
      have e := e.symm
      subst e
      have h : b_X1_dwellersIn_44 o u0 = some v := h
      exact j44 u0 h
  unfold s_X1_dwellersIn at h
  refine g_iconst E gdX1_dwellersIn_0 ?_
  refine g_istore_n E [(3, iv 0), (0, .ref (ad 10)), (1, .long z1)] gdX1_dwellersIn_1 rfl (by decide) rfl ?_
  refine g_iconst E gdX1_dwellersIn_2 ?_
  refine g_istore E [(4, iv 0), (3, iv 0), (0, .ref (ad 10)), (1, .long z1)] gdX1_dwellersIn_3 (by decide) rfl ?_
  refine g_sub E [2, 3, 1, 0] rfl ?_
  exact j5 z1 0 0 h
set_option maxHeartbeats 4000000 in
set_option maxRecDepth 100000 in
theorem c_X3_parksIn (l : Launch) (g : GG) (ad : Nat → Nat) (o : OO) (z1 : Int64) (v : Int) (h : s_X3_parksIn o z1 = some v) : CI l g yX3_parksIn cX3_parksIn 5 (some .int) 1 22 (wC g ad o) [.ref (ad 7), .long z1] v (wC g ad o) := by
  refine met_I (by decide) (Nat.le_of_ble_eq_true rfl) ?_
  intro X E hQ
  show Go X 0 (wC g ad o) [(0, .ref (ad 7)), (1, .long z1)] []
  have j41 : ∀ (x3 : Int), b_X3_parksIn_41 o x3 = some v → Go X 41 (wC g ad o) [(3, iv x3)] [] := by
    intro x3 h
    unfold b_X3_parksIn_41 at h
    refine g_iload_n E gdX3_parksIn_41 rfl 0 rfl ?_
    exact g_iret E hQ (Option.some.inj h) rfl gdX3_parksIn_42
  have j35 : ∀ (z1 : Int64) (x3 : Int) (x4 : Int) (v : (Int × Int) ⊕ ((Int))), b_X3_parksIn_35 o z1 x3 x4 = some v → (∀ (x3 : Int) (x4 : Int), v = .inl (x3, x4) → Go X 5 (wC g ad o) [(0, .ref (ad 7)), (1, .long z1), (3, iv x3), (4, iv x4)] []) → (∀ (x3 : Int), v = .inr (x3) → Go X 41 (wC g ad o) [(3, iv x3)] []) → Go X 35 (wC g ad o) [(0, .ref (ad 7)), (1, .long z1), (3, iv x3), (4, iv x4)] [] := by
    intro z1 x3 x4 v h k0 k1
    unfold b_X3_parksIn_35 at h
    refine g_iinc E [(4, iv (x4 + 1)), (0, .ref (ad 7)), (1, .long z1), (3, iv x3)] gdX3_parksIn_35 3 rfl (by decide) rfl ?_
    refine g_goto E 5 gdX3_parksIn_38 (by decide) ?_
    refine g_sub E [1, 2, 3, 0] rfl ?_
    exact k0 x3 (x4 + 1) (Option.some.inj h).symm
  have l5 : ∀ (z1 : Int64) (r : (Int)) (s0 : Int × Int), loopW (fun s => l_X3_parksIn_5 o z1 s.1 s.2) s0 = some r → (∀ (x3 : Int), r = (x3) → Go X 41 (wC g ad o) [(3, iv x3)] []) → Go X 5 (wC g ad o) [(0, .ref (ad 7)), (1, .long z1), (3, iv s0.1), (4, iv s0.2)] [] := by
    intro z1 r s0 h k1
    refine loop_rule (Head := fun s0 => Go X 5 (wC g ad o) [(0, .ref (ad 7)), (1, .long z1), (3, iv s0.1), (4, iv s0.2)] []) h ?_
    intro s v h kk kx
    obtain ⟨x3, x4⟩ := s
    have h : l_X3_parksIn_5 o z1 x3 x4 = some v := h
    have k0 : ∀ (x3 : Int) (x4 : Int), v = .inl (x3, x4) → Go X 5 (wC g ad o) [(0, .ref (ad 7)), (1, .long z1), (3, iv x3), (4, iv x4)] [] := fun x3 x4 e => kk (x3, x4) e
    have k1 : ∀ (x3 : Int), v = .inr (x3) → Go X 41 (wC g ad o) [(3, iv x3)] [] := fun x3 e => k1 x3 (kx _ e).symm
    unfold l_X3_parksIn_5 at h
    refine g_iload E gdX3_parksIn_5 3 rfl ?_
    refine g_bipush E gdX3_parksIn_7 (by decide) ?_
    refine g_icmp_ge E 41 gdX3_parksIn_9 (by decide) h (fun h => ?_) (fun h => ?_)
    ·
      refine g_sub E [2] rfl ?_
      exact k1 x3 (Option.some.inj h).symm
    ·
      refine g_aload_n E gdX3_parksIn_12 rfl 0 rfl ?_
      refine g_get (T := TX3) E fw_X3 7 (wC_7 g ad o) rfl 0 (by decide) w_146 rfl rfl gdX3_parksIn_13 ?_
      refine g_iload E gdX3_parksIn_16 3 rfl ?_
      obtain ⟨hi1, h⟩ := qIn_of h
      refine g_iald E 8 (wC_8 g ad o) (by decide) hi1 gdX3_parksIn_18 ?_
      obtain ⟨n2, e_n2, h⟩ := qNm_of h
      refine g_nmi e_n2 ?_
      refine g_iconst E gdX3_parksIn_19 ?_
      refine g_icmp_ne E 35 gdX3_parksIn_20 (by decide) h (fun h => ?_) (fun h => ?_)
      ·
        exact j35 z1 x3 x4 v h k0 k1
      ·
        refine g_lload_n E gdX3_parksIn_23 rfl 1 rfl ?_
        refine g_iload E gdX3_parksIn_24 3 rfl ?_
        obtain ⟨r3, hc4, h⟩ := qB_of h
        refine g_Si (r := r3) (As := [.long z1, iv x4]) (rest := []) (w := wC g ad o) E (c_X3_has l g (wC g ad o) z1 x4 r3 hc4) okm_X3_has w_839 w_1225 rfl rfl (Nat.le_of_ble_eq_true rfl) ⟨Nat.le_of_ble_eq_true rfl, Nat.le_of_ble_eq_true rfl⟩ gdX3_parksIn_26 ?_
        refine g_if_eq E 35 gdX3_parksIn_29 (by decide) h (fun h => ?_) (fun h => ?_)
        ·
          exact j35 z1 x3 x4 v h k0 k1
        ·
          refine g_iinc E [(3, iv (x3 + 1)), (0, .ref (ad 7)), (1, .long z1), (4, iv x4)] gdX3_parksIn_32 2 rfl (by decide) rfl ?_
          refine g_sub E [1, 2, 0, 3] rfl ?_
          exact j35 z1 (x3 + 1) x4 v h k0 k1
  have j5 : ∀ (z1 : Int64) (x3 : Int) (x4 : Int), e_X3_parksIn_5 o z1 x3 x4 = some v → Go X 5 (wC g ad o) [(0, .ref (ad 7)), (1, .long z1), (3, iv x3), (4, iv x4)] [] := by
    intro z1 x3 x4 h
    unfold e_X3_parksIn_5 at h
    obtain ⟨r, hr, h⟩ := qB_of h
    refine l5 z1 r _ hr ?_
    ·
      intro u0 e
      have e := e.symm
      subst e
      have h : b_X3_parksIn_41 o u0 = some v := h
      exact j41 u0 h
  unfold s_X3_parksIn at h
  refine g_iconst E gdX3_parksIn_0 ?_
  refine g_istore_n E [(3, iv 0), (0, .ref (ad 7)), (1, .long z1)] gdX3_parksIn_1 rfl (by decide) rfl ?_
  refine g_iconst E gdX3_parksIn_2 ?_
  refine g_istore E [(4, iv 0), (3, iv 0), (0, .ref (ad 7)), (1, .long z1)] gdX3_parksIn_3 (by decide) rfl ?_
  refine g_sub E [2, 3, 1, 0] rfl ?_
  exact j5 z1 0 0 h
set_option maxHeartbeats 4000000 in
set_option maxRecDepth 100000 in
theorem c_X7_deciding (l : Launch) (g : GG) (ad : Nat → Nat) (o : OO) (x1 : Int) (x2 : Int) (x3 : Int) (v : Int) (h : s_X7_deciding o x1 x2 x3 = some v) : CI l g yX7_deciding cX7_deciding 6 (some .int) 0 0 (wC g ad o) [.ref (ad 28), iv x1, iv x2, iv x3] v (wC g ad o) := by
  refine met_I (by decide) (Nat.le_of_ble_eq_true rfl) ?_
  intro X E hQ
  show Go X 0 (wC g ad o) [(0, .ref (ad 28)), (1, iv x1), (2, iv x2), (3, iv x3)] []
  have j94 : ∀ (x4 : Int), b_X7_deciding_94 o x4 = some v → Go X 94 (wC g ad o) [(4, iv x4)] [] := by
    intro x4 h
    unfold b_X7_deciding_94 at h
    refine g_iload E gdX7_deciding_94 0 rfl ?_
    exact g_iret E hQ (Option.some.inj h) rfl gdX7_deciding_96
  have j88 : ∀ (x1 : Int) (x2 : Int) (x3 : Int) (x4 : Int) (x5 : Int) (v : (Int × Int) ⊕ ((Int))), b_X7_deciding_88 o x1 x2 x3 x4 x5 = some v → (∀ (x4 : Int) (x5 : Int), v = .inl (x4, x5) → Go X 7 (wC g ad o) [(0, .ref (ad 28)), (1, iv x1), (2, iv x2), (3, iv x3), (4, iv x4), (5, iv x5)] []) → (∀ (x4 : Int), v = .inr (x4) → Go X 94 (wC g ad o) [(4, iv x4)] []) → Go X 88 (wC g ad o) [(0, .ref (ad 28)), (1, iv x1), (2, iv x2), (3, iv x3), (4, iv x4), (5, iv x5)] [] := by
    intro x1 x2 x3 x4 x5 v h k0 k1
    unfold b_X7_deciding_88 at h
    refine g_iinc E [(5, iv (x5 + 1)), (0, .ref (ad 28)), (1, iv x1), (2, iv x2), (3, iv x3), (4, iv x4)] gdX7_deciding_88 5 rfl (by decide) rfl ?_
    refine g_goto E 7 gdX7_deciding_91 (by decide) ?_
    refine g_sub E [1, 2, 3, 4, 5, 0] rfl ?_
    exact k0 x4 (x5 + 1) (Option.some.inj h).symm
  have j84 : ∀ (x1 : Int) (x2 : Int) (x3 : Int) (x5 : Int) (v : (Int × Int) ⊕ ((Int))), b_X7_deciding_84 o x1 x2 x3 x5 = some v → (∀ (x4 : Int) (x5 : Int), v = .inl (x4, x5) → Go X 7 (wC g ad o) [(0, .ref (ad 28)), (1, iv x1), (2, iv x2), (3, iv x3), (4, iv x4), (5, iv x5)] []) → (∀ (x4 : Int), v = .inr (x4) → Go X 94 (wC g ad o) [(4, iv x4)] []) → Go X 84 (wC g ad o) [(0, .ref (ad 28)), (1, iv x1), (2, iv x2), (3, iv x3), (5, iv x5)] [] := by
    intro x1 x2 x3 x5 v h k0 k1
    unfold b_X7_deciding_84 at h
    refine g_iload E gdX7_deciding_84 4 rfl ?_
    refine g_istore E [(4, iv x5), (0, .ref (ad 28)), (1, iv x1), (2, iv x2), (3, iv x3), (5, iv x5)] gdX7_deciding_86 (by decide) rfl ?_
    refine g_sub E [1, 2, 3, 4, 0, 5] rfl ?_
    exact j88 x1 x2 x3 x5 x5 v h k0 k1
  have l7 : ∀ (x1 : Int) (x2 : Int) (x3 : Int) (r : (Int)) (s0 : Int × Int), loopW (fun s => l_X7_deciding_7 o x1 x2 x3 s.1 s.2) s0 = some r → (∀ (x4 : Int), r = (x4) → Go X 94 (wC g ad o) [(4, iv x4)] []) → Go X 7 (wC g ad o) [(0, .ref (ad 28)), (1, iv x1), (2, iv x2), (3, iv x3), (4, iv s0.1), (5, iv s0.2)] [] := by
    intro x1 x2 x3 r s0 h k1
    refine loop_rule (Head := fun s0 => Go X 7 (wC g ad o) [(0, .ref (ad 28)), (1, iv x1), (2, iv x2), (3, iv x3), (4, iv s0.1), (5, iv s0.2)] []) h ?_
    intro s v h kk kx
    obtain ⟨x4, x5⟩ := s
    have h : l_X7_deciding_7 o x1 x2 x3 x4 x5 = some v := h
    have k0 : ∀ (x4 : Int) (x5 : Int), v = .inl (x4, x5) → Go X 7 (wC g ad o) [(0, .ref (ad 28)), (1, iv x1), (2, iv x2), (3, iv x3), (4, iv x4), (5, iv x5)] [] := fun x4 x5 e => kk (x4, x5) e
    have k1 : ∀ (x4 : Int), v = .inr (x4) → Go X 94 (wC g ad o) [(4, iv x4)] [] := fun x4 e => k1 x4 (kx _ e).symm
    unfold l_X7_deciding_7 at h
    refine g_iload E gdX7_deciding_7 5 rfl ?_
    refine g_aload_n E gdX7_deciding_9 rfl 0 rfl ?_
    refine g_get (T := TX7) E fw_X7 28 (wC_28 g ad o) rfl 3 (by decide) w_235 rfl rfl gdX7_deciding_10 ?_
    refine g_icmp_ge E 94 gdX7_deciding_13 (by decide) h (fun h => ?_) (fun h => ?_)
    ·
      refine g_sub E [4] rfl ?_
      exact k1 x4 (Option.some.inj h).symm
    ·
      refine g_aload_n E gdX7_deciding_16 rfl 0 rfl ?_
      refine g_get (T := TX7) E fw_X7 28 (wC_28 g ad o) rfl 2 (by decide) w_234 rfl rfl gdX7_deciding_17 ?_
      refine g_iload E gdX7_deciding_20 5 rfl ?_
      refine g_bipush E gdX7_deciding_22 (by decide) ?_
      refine g_imul E gdX7_deciding_24 ?_
      refine g_iload_n E gdX7_deciding_25 rfl 1 rfl ?_
      refine g_iadd E gdX7_deciding_26 ?_
      obtain ⟨hi1, h⟩ := qIn_of h
      refine g_iald E 31 (wC_31 g ad o) (by decide) hi1 gdX7_deciding_27 ?_
      obtain ⟨n2, e_n2, h⟩ := qNm_of h
      refine g_nmi e_n2 ?_
      refine g_iconst E gdX7_deciding_28 ?_
      refine g_icmp_ne E 35 gdX7_deciding_29 (by decide) h (fun h => ?_) (fun h => ?_)
      ·
        refine g_aload_n E gdX7_deciding_35 rfl 0 rfl ?_
        refine g_get (T := TX7) E fw_X7 28 (wC_28 g ad o) rfl 0 (by decide) w_232 rfl rfl gdX7_deciding_36 ?_
        refine g_iload E gdX7_deciding_39 5 rfl ?_
        obtain ⟨hi3, h⟩ := qIn_of h
        refine g_iald E 29 (wC_29 g ad o) (by decide) hi3 gdX7_deciding_41 ?_
        obtain ⟨n4, e_n4, h⟩ := qNm_of h
        refine g_nmi e_n4 ?_
        refine g_iload_n E gdX7_deciding_42 rfl 3 rfl ?_
        refine g_icmp_gt E 88 gdX7_deciding_43 (by decide) h (fun h => ?_) (fun h => ?_)
        ·
          exact j88 x1 x2 x3 x4 x5 v h k0 k1
        ·
          refine g_aload_n E gdX7_deciding_46 rfl 0 rfl ?_
          refine g_get (T := TX7) E fw_X7 28 (wC_28 g ad o) rfl 1 (by decide) w_233 rfl rfl gdX7_deciding_47 ?_
          refine g_iload E gdX7_deciding_50 5 rfl ?_
          obtain ⟨hi5, h⟩ := qIn_of h
          refine g_iald E 30 (wC_30 g ad o) (by decide) hi5 gdX7_deciding_52 ?_
          obtain ⟨n6, e_n6, h⟩ := qNm_of h
          refine g_nmi e_n6 ?_
          refine g_iload_n E gdX7_deciding_53 rfl 2 rfl ?_
          refine g_icmp_le E 60 gdX7_deciding_54 (by decide) h (fun h => ?_) (fun h => ?_)
          ·
            refine g_iload E gdX7_deciding_60 4 rfl ?_
            refine g_bipush E gdX7_deciding_62 (by decide) ?_
            refine g_icmp_eq E 84 gdX7_deciding_64 (by decide) h (fun h => ?_) (fun h => ?_)
            ·
              refine g_sub E [0, 1, 2, 3, 5] rfl ?_
              exact j84 x1 x2 x3 x5 v h k0 k1
            ·
              refine g_aload_n E gdX7_deciding_67 rfl 0 rfl ?_
              refine g_get (T := TX7) E fw_X7 28 (wC_28 g ad o) rfl 1 (by decide) w_233 rfl rfl gdX7_deciding_68 ?_
              refine g_iload E gdX7_deciding_71 5 rfl ?_
              obtain ⟨hi7, h⟩ := qIn_of h
              refine g_iald E 30 (wC_30 g ad o) (by decide) hi7 gdX7_deciding_73 ?_
              obtain ⟨n8, e_n8, h⟩ := qNm_of h
              refine g_nmi e_n8 ?_
              refine g_aload_n E gdX7_deciding_74 rfl 0 rfl ?_
              refine g_get (T := TX7) E fw_X7 28 (wC_28 g ad o) rfl 1 (by decide) w_233 rfl rfl gdX7_deciding_75 ?_
              refine g_iload E gdX7_deciding_78 4 rfl ?_
              obtain ⟨hi9, h⟩ := qIn_of h
              refine g_iald E 30 (wC_30 g ad o) (by decide) hi9 gdX7_deciding_80 ?_
              obtain ⟨n10, e_n10, h⟩ := qNm_of h
              refine g_nmi e_n10 ?_
              refine g_icmp_lt E 88 gdX7_deciding_81 (by decide) h (fun h => ?_) (fun h => ?_)
              ·
                exact j88 x1 x2 x3 x4 x5 v h k0 k1
              ·
                refine g_sub E [0, 1, 2, 3, 5] rfl ?_
                exact j84 x1 x2 x3 x5 v h k0 k1
          ·
            refine g_goto E 88 gdX7_deciding_57 (by decide) ?_
            exact j88 x1 x2 x3 x4 x5 v h k0 k1
      ·
        refine g_goto E 88 gdX7_deciding_32 (by decide) ?_
        exact j88 x1 x2 x3 x4 x5 v h k0 k1
  have j7 : ∀ (x1 : Int) (x2 : Int) (x3 : Int) (x4 : Int) (x5 : Int), e_X7_deciding_7 o x1 x2 x3 x4 x5 = some v → Go X 7 (wC g ad o) [(0, .ref (ad 28)), (1, iv x1), (2, iv x2), (3, iv x3), (4, iv x4), (5, iv x5)] [] := by
    intro x1 x2 x3 x4 x5 h
    unfold e_X7_deciding_7 at h
    obtain ⟨r, hr, h⟩ := qB_of h
    refine l7 x1 x2 x3 r _ hr ?_
    ·
      intro u0 e
      have e := e.symm
      subst e
      have h : b_X7_deciding_94 o u0 = some v := h
      exact j94 u0 h
  unfold s_X7_deciding at h
  refine g_bipush E gdX7_deciding_0 (by decide) ?_
  refine g_istore E [(4, iv (-9)), (0, .ref (ad 28)), (1, iv x1), (2, iv x2), (3, iv x3)] gdX7_deciding_2 (by decide) rfl ?_
  refine g_iconst E gdX7_deciding_4 ?_
  refine g_istore E [(5, iv 0), (4, iv (-9)), (0, .ref (ad 28)), (1, iv x1), (2, iv x2), (3, iv x3)] gdX7_deciding_5 (by decide) rfl ?_
  refine g_sub E [2, 3, 4, 5, 1, 0] rfl ?_
  exact j7 x1 x2 x3 (-9) 0 h
set_option maxHeartbeats 4000000 in
set_option maxRecDepth 100000 in
theorem c_X7_valueFor (l : Launch) (g : GG) (ad : Nat → Nat) (o : OO) (x1 : Int) (x2 : Int) (x3 : Int) (v : Int) (h : s_X7_valueFor o x1 x2 x3 = some v) : CI l g yX7_valueFor cX7_valueFor 5 (some .int) 1 25 (wC g ad o) [.ref (ad 28), iv x1, iv x2, iv x3] v (wC g ad o) := by
  refine met_I (by decide) (Nat.le_of_ble_eq_true rfl) ?_
  intro X E hQ
  show Go X 0 (wC g ad o) [(0, .ref (ad 28)), (1, iv x1), (2, iv x2), (3, iv x3)] []
  have j36 : ∀ (y0 : Int), b_X7_valueFor_36 o y0 = some v → Go X 36 (wC g ad o) [] [iv y0] := by
    intro y0 h
    unfold b_X7_valueFor_36 at h
    exact g_iret E hQ (Option.some.inj h) rfl gdX7_valueFor_36
  unfold s_X7_valueFor at h
  refine g_aload_n E gdX7_valueFor_0 rfl 0 rfl ?_
  refine g_iload_n E gdX7_valueFor_1 rfl 1 rfl ?_
  refine g_iload_n E gdX7_valueFor_2 rfl 2 rfl ?_
  refine g_iload_n E gdX7_valueFor_3 rfl 3 rfl ?_
  obtain ⟨r1, hc2, h⟩ := qB_of h
  refine g_Vi (r := r1) (As := [iv x1, iv x2, iv x3]) (rest := []) (w := wC g ad o) E (c_X7_deciding l g ad o x1 x2 x3 r1 hc2) okm_X7_deciding okw_X7_deciding w_775 rfl (wC_28 g ad o) rfl rfl (Nat.le_of_ble_eq_true rfl) ⟨Nat.le_of_ble_eq_true rfl, Nat.le_of_ble_eq_true rfl⟩ gdX7_valueFor_4 ?_
  refine g_istore E [(4, iv r1), (0, .ref (ad 28)), (1, iv x1), (2, iv x2), (3, iv x3)] gdX7_valueFor_7 (by decide) rfl ?_
  refine g_iload E gdX7_valueFor_9 0 rfl ?_
  refine g_bipush E gdX7_valueFor_11 (by decide) ?_
  refine g_icmp_ne E 24 gdX7_valueFor_13 (by decide) h (fun h => ?_) (fun h => ?_)
  ·
    refine g_aload_n E gdX7_valueFor_24 rfl 1 rfl ?_
    refine g_get (T := TX7) E fw_X7 28 (wC_28 g ad o) rfl 2 (by decide) w_234 rfl rfl gdX7_valueFor_25 ?_
    refine g_iload E gdX7_valueFor_28 0 rfl ?_
    refine g_bipush E gdX7_valueFor_30 (by decide) ?_
    refine g_imul E gdX7_valueFor_32 ?_
    refine g_iload_n E gdX7_valueFor_33 rfl 2 rfl ?_
    refine g_iadd E gdX7_valueFor_34 ?_
    obtain ⟨hi3, h⟩ := qIn_of h
    refine g_iald E 31 (wC_31 g ad o) (by decide) hi3 gdX7_valueFor_35 ?_
    obtain ⟨n4, e_n4, h⟩ := qNm_of h
    refine g_nmi e_n4 ?_
    refine g_sub E [] rfl ?_
    exact j36 n4 h
  ·
    refine g_gsD E w_779 rfl gdX7_valueFor_16 ?_
    refine g_iload_n E gdX7_valueFor_19 rfl 2 rfl ?_
    obtain ⟨hi5, h⟩ := qIn_of h
    refine g_stD E hi5 gdX7_valueFor_20 ?_
    obtain ⟨n6, e_n6, h⟩ := qNm_of h
    refine g_nmi e_n6 ?_
    refine g_goto E 36 gdX7_valueFor_21 (by decide) ?_
    refine g_sub E [] rfl ?_
    exact j36 n6 h
set_option maxHeartbeats 4000000 in
set_option maxRecDepth 100000 in
theorem c_X11_inForce (l : Launch) (g : GG) (ad : Nat → Nat) (o : OO) (x1 : Int) (v : Int) (h : s_X11_inForce o x1 = some v) : CI l g yX11_inForce cX11_inForce 2 (some .int) 2 49 (wC g ad o) [.ref (ad 0), iv x1] v (wC g ad o) := by
  refine met_I (by decide) (Nat.le_of_ble_eq_true rfl) ?_
  intro X E hQ
  show Go X 0 (wC g ad o) [(0, .ref (ad 0)), (1, iv x1)] []
  unfold s_X11_inForce at h
  refine g_aload_n E gdX11_inForce_0 rfl 0 rfl ?_
  refine g_get (T := TX11) E fw_X11 0 (wC_0 g ad o) rfl 5 (by decide) w_463 rfl rfl gdX11_inForce_1 ?_
  refine g_iload_n E gdX11_inForce_4 rfl 1 rfl ?_
  refine g_aload_n E gdX11_inForce_5 rfl 0 rfl ?_
  refine g_get (T := TX11) E fw_X11 0 (wC_0 g ad o) rfl 13 (by decide) w_471 rfl rfl gdX11_inForce_6 ?_
  refine g_aload_n E gdX11_inForce_9 rfl 0 rfl ?_
  refine g_get (T := TX11) E fw_X11 0 (wC_0 g ad o) rfl 13 (by decide) w_471 rfl rfl gdX11_inForce_10 ?_
  obtain ⟨r1, hc2, h⟩ := qB_of h
  refine g_Vi (r := r1) (As := [iv x1, iv (o.1 0 13), iv (o.1 0 13)]) (rest := []) (w := wC g ad o) E (c_X7_valueFor l g ad o x1 (o.1 0 13) (o.1 0 13) r1 hc2) okm_X7_valueFor okw_X7_valueFor w_771 rfl (wC_28 g ad o) rfl rfl (Nat.le_of_ble_eq_true rfl) ⟨Nat.le_of_ble_eq_true rfl, Nat.le_of_ble_eq_true rfl⟩ gdX11_inForce_13 ?_
  exact g_iret E hQ (Option.some.inj h) rfl gdX11_inForce_16
set_option maxHeartbeats 4000000 in
set_option maxRecDepth 100000 in
theorem c_X3_spreadAside (l : Launch) (g : GG) (ws : va_W) (z0 : Int64) (v : Int64) (h : s_X3_spreadAside z0 = some v) : CL l g yX3_spreadAside cX3_spreadAside 2 (some .long) 0 0 ws [.long z0] v ws := by
  refine met_L (by decide) (Nat.le_of_ble_eq_true rfl) ?_
  intro X E hQ
  show Go X 0 ws [(0, .long z0)] []
  unfold s_X3_spreadAside at h
  refine g_lload_n E gdX3_spreadAside_0 rfl 0 rfl ?_
  refine g_lload_n E gdX3_spreadAside_1 rfl 0 rfl ?_
  refine g_ldc2 E gdX3_spreadAside_2 w_900 ?_
  refine g_land E gdX3_spreadAside_5 ?_
  refine g_iconst E gdX3_spreadAside_6 ?_
  refine g_lushr E gdX3_spreadAside_7 ?_
  refine g_lor E gdX3_spreadAside_8 ?_
  refine g_lload_n E gdX3_spreadAside_9 rfl 0 rfl ?_
  refine g_ldc2 E gdX3_spreadAside_10 w_901 ?_
  refine g_land E gdX3_spreadAside_13 ?_
  refine g_iconst E gdX3_spreadAside_14 ?_
  refine g_lshl E gdX3_spreadAside_15 ?_
  refine g_lor E gdX3_spreadAside_16 ?_
  exact g_lret E hQ (Option.some.inj h) rfl gdX3_spreadAside_17
set_option maxHeartbeats 4000000 in
set_option maxRecDepth 100000 in
theorem c_X3_spread (l : Launch) (g : GG) (ws : va_W) (z0 : Int64) (v : Int64) (h : s_X3_spread z0 = some v) : CL l g yX3_spread cX3_spread 2 (some .long) 1 21 ws [.long z0] v ws := by
  refine met_L (by decide) (Nat.le_of_ble_eq_true rfl) ?_
  intro X E hQ
  show Go X 0 ws [(0, .long z0)] []
  unfold s_X3_spread at h
  refine g_lload_n E gdX3_spread_0 rfl 0 rfl ?_
  obtain ⟨p1, hc2, h⟩ := qB_of h
  refine g_Sl (r := p1) (As := [.long z0]) (rest := []) (w := ws) E (c_X3_spreadAside l g ws z0 p1 hc2) okm_X3_spreadAside w_898 w_897 rfl rfl (Nat.le_of_ble_eq_true rfl) ⟨Nat.le_of_ble_eq_true rfl, Nat.le_of_ble_eq_true rfl⟩ gdX3_spread_1 ?_
  refine g_lload_n E gdX3_spread_4 rfl 0 rfl ?_
  refine g_bipush E gdX3_spread_5 (by decide) ?_
  refine g_lushr E gdX3_spread_7 ?_
  refine g_lor E gdX3_spread_8 ?_
  refine g_lload_n E gdX3_spread_9 rfl 0 rfl ?_
  refine g_bipush E gdX3_spread_10 (by decide) ?_
  refine g_lshl E gdX3_spread_12 ?_
  refine g_lor E gdX3_spread_13 ?_
  exact g_lret E hQ (Option.some.inj h) rfl gdX3_spread_14
set_option maxHeartbeats 4000000 in
set_option maxRecDepth 100000 in
theorem c_X11_loudCells (l : Launch) (g : GG) (ad : Nat → Nat) (o : OO) (x1 : Int) (x2 : Int) (v : Int64) (h : s_X11_loudCells o x1 x2 = some v) : CL l g yX11_loudCells cX11_loudCells 11 (some .long) 3 70 (wC g ad o) [.ref (ad 0), iv x1, iv x2] v (wC g ad o) := by
  refine met_L (by decide) (Nat.le_of_ble_eq_true rfl) ?_
  intro X E hQ
  show Go X 0 (wC g ad o) [(0, .ref (ad 0)), (1, iv x1), (2, iv x2)] []
  have j90 : ∀ (z4 : Int64), b_X11_loudCells_90 o z4 = some v → Go X 90 (wC g ad o) [(4, .long z4)] [] := by
    intro z4 h
    unfold b_X11_loudCells_90 at h
    refine g_lload E gdX11_loudCells_90 0 rfl ?_
    exact g_lret E hQ (Option.some.inj h) rfl gdX11_loudCells_92
  have j73 : ∀ (x2 : Int) (x3 : Int) (z4 : Int64) (z8 : Int64) (x10 : Int) (v : (Int64 × Int64 × Int64 × Int) ⊕ ((Int64))), b_X11_loudCells_73 o x2 x3 z4 z8 x10 = some v → (∀ (z4 : Int64) (z6 : Int64) (z8 : Int64) (x10 : Int), v = .inl (z4, z6, z8, x10) → Go X 25 (wC g ad o) [(0, .ref (ad 0)), (2, iv x2), (3, iv x3), (4, .long z4), (6, .long z6), (8, .long z8), (10, iv x10)] []) → (∀ (z4 : Int64), v = .inr (z4) → Go X 90 (wC g ad o) [(4, .long z4)] []) → Go X 73 (wC g ad o) [(0, .ref (ad 0)), (2, iv x2), (3, iv x3), (4, .long z4), (8, .long z8), (10, iv x10)] [] := by
    intro x2 x3 z4 z8 x10 v h k0 k1
    unfold b_X11_loudCells_73 at h
    refine g_lload E gdX11_loudCells_73 4 rfl ?_
    refine g_lstore E [(6, .long z8), (0, .ref (ad 0)), (2, iv x2), (3, iv x3), (4, .long z4), (8, .long z8), (10, iv x10)] gdX11_loudCells_75 (by decide) rfl ?_
    refine g_lload E gdX11_loudCells_77 5 rfl ?_
    obtain ⟨p1, hc2, h⟩ := qB_of h
    refine g_Sl (r := p1) (As := [.long z8]) (rest := []) (w := wC g ad o) E (c_X3_spread l g (wC g ad o) z8 p1 hc2) okm_X3_spread w_895 w_894 rfl rfl (Nat.le_of_ble_eq_true rfl) ⟨Nat.le_of_ble_eq_true rfl, Nat.le_of_ble_eq_true rfl⟩ gdX11_loudCells_79 ?_
    refine g_lstore E [(8, .long p1), (6, .long z8), (0, .ref (ad 0)), (2, iv x2), (3, iv x3), (4, .long z4), (10, iv x10)] gdX11_loudCells_82 (by decide) rfl ?_
    refine g_iinc E [(10, iv (x10 + 1)), (8, .long p1), (6, .long z8), (0, .ref (ad 0)), (2, iv x2), (3, iv x3), (4, .long z4)] gdX11_loudCells_84 6 rfl (by decide) rfl ?_
    refine g_goto E 25 gdX11_loudCells_87 (by decide) ?_
    refine g_sub E [3, 4, 5, 6, 2, 1, 0] rfl ?_
    exact k0 z4 z8 p1 (x10 + 1) (Option.some.inj h).symm
  have l25 : ∀ (x2 : Int) (x3 : Int) (r : (Int64)) (s0 : Int64 × Int64 × Int64 × Int), loopW (fun s => l_X11_loudCells_25 o x2 x3 s.1 s.2.1 s.2.2.1 s.2.2.2) s0 = some r → (∀ (z4 : Int64), r = (z4) → Go X 90 (wC g ad o) [(4, .long z4)] []) → Go X 25 (wC g ad o) [(0, .ref (ad 0)), (2, iv x2), (3, iv x3), (4, .long s0.1), (6, .long s0.2.1), (8, .long s0.2.2.1), (10, iv s0.2.2.2)] [] := by
    intro x2 x3 r s0 h k1
    refine loop_rule (Head := fun s0 => Go X 25 (wC g ad o) [(0, .ref (ad 0)), (2, iv x2), (3, iv x3), (4, .long s0.1), (6, .long s0.2.1), (8, .long s0.2.2.1), (10, iv s0.2.2.2)] []) h ?_
    intro s v h kk kx
    obtain ⟨z4, z6, z8, x10⟩ := s
    have h : l_X11_loudCells_25 o x2 x3 z4 z6 z8 x10 = some v := h
    have k0 : ∀ (z4 : Int64) (z6 : Int64) (z8 : Int64) (x10 : Int), v = .inl (z4, z6, z8, x10) → Go X 25 (wC g ad o) [(0, .ref (ad 0)), (2, iv x2), (3, iv x3), (4, .long z4), (6, .long z6), (8, .long z8), (10, iv x10)] [] := fun z4 z6 z8 x10 e => kk (z4, z6, z8, x10) e
    have k1 : ∀ (z4 : Int64), v = .inr (z4) → Go X 90 (wC g ad o) [(4, .long z4)] [] := fun z4 e => k1 z4 (kx _ e).symm
    unfold l_X11_loudCells_25 at h
    refine g_iload E gdX11_loudCells_25 6 rfl ?_
    refine g_aload_n E gdX11_loudCells_27 rfl 0 rfl ?_
    refine g_get (T := TX11) E fw_X11 0 (wC_0 g ad o) rfl 0 (by decide) w_458 rfl rfl gdX11_loudCells_28 ?_
    refine g_iload_n E gdX11_loudCells_31 rfl 1 rfl ?_
    obtain ⟨r3, hc4, h⟩ := qB_of h
    refine g_Vi (r := r3) (As := [iv x2]) (rest := [iv x10]) (w := wC g ad o) E (c_X8_sizeOf l g ad o x2 r3 hc4) okm_X8_sizeOf okw_X8_sizeOf w_794 rfl (wC_1 g ad o) rfl rfl (Nat.le_of_ble_eq_true rfl) ⟨Nat.le_of_ble_eq_true rfl, Nat.le_of_ble_eq_true rfl⟩ gdX11_loudCells_32 ?_
    refine g_icmp_ge E 90 gdX11_loudCells_35 (by decide) h (fun h => ?_) (fun h => ?_)
    ·
      refine g_sub E [3] rfl ?_
      exact k1 z4 (Option.some.inj h).symm
    ·
      refine g_iload E gdX11_loudCells_38 6 rfl ?_
      refine g_bipush E gdX11_loudCells_40 (by decide) ?_
      refine g_icmp_gt E 90 gdX11_loudCells_42 (by decide) h (fun h => ?_) (fun h => ?_)
      ·
        refine g_sub E [3] rfl ?_
        exact k1 z4 (Option.some.inj h).symm
      ·
        refine g_aload_n E gdX11_loudCells_45 rfl 0 rfl ?_
        refine g_get (T := TX11) E fw_X11 0 (wC_0 g ad o) rfl 0 (by decide) w_458 rfl rfl gdX11_loudCells_46 ?_
        refine g_iload_n E gdX11_loudCells_49 rfl 1 rfl ?_
        refine g_iload E gdX11_loudCells_50 6 rfl ?_
        obtain ⟨r5, hc6, h⟩ := qB_of h
        refine g_Vi (r := r5) (As := [iv x2, iv x10]) (rest := []) (w := wC g ad o) E (c_X8_at l g ad o x2 x10 r5 hc6) okm_X8_at okw_X8_at w_808 rfl (wC_1 g ad o) rfl rfl (Nat.le_of_ble_eq_true rfl) ⟨Nat.le_of_ble_eq_true rfl, Nat.le_of_ble_eq_true rfl⟩ gdX11_loudCells_52 ?_
        refine g_iload_n E gdX11_loudCells_55 rfl 2 rfl ?_
        refine g_icmp_le E 73 gdX11_loudCells_56 (by decide) h (fun h => ?_) (fun h => ?_)
        ·
          refine g_sub E [0, 1, 2, 3, 5, 6] rfl ?_
          exact j73 x2 x3 z4 z8 x10 v h k0 k1
        ·
          refine g_lload E gdX11_loudCells_59 3 rfl ?_
          refine g_lload E gdX11_loudCells_61 5 rfl ?_
          refine g_lload E gdX11_loudCells_63 4 rfl ?_
          refine g_ldc2 E gdX11_loudCells_65 w_1185 ?_
          refine g_lxor E gdX11_loudCells_68 ?_
          refine g_land E gdX11_loudCells_69 ?_
          refine g_lor E gdX11_loudCells_70 ?_
          obtain ⟨m7, e_m7, h⟩ := qNm_of h
          refine g_nml e_m7 ?_
          refine g_lstore E [(4, .long m7), (0, .ref (ad 0)), (2, iv x2), (3, iv x3), (6, .long z6), (8, .long z8), (10, iv x10)] gdX11_loudCells_71 (by decide) rfl ?_
          refine g_sub E [1, 2, 3, 0, 5, 6] rfl ?_
          exact j73 x2 x3 m7 z8 x10 v h k0 k1
  have j25 : ∀ (x2 : Int) (x3 : Int) (z4 : Int64) (z6 : Int64) (z8 : Int64) (x10 : Int), e_X11_loudCells_25 o x2 x3 z4 z6 z8 x10 = some v → Go X 25 (wC g ad o) [(0, .ref (ad 0)), (2, iv x2), (3, iv x3), (4, .long z4), (6, .long z6), (8, .long z8), (10, iv x10)] [] := by
    intro x2 x3 z4 z6 z8 x10 h
    unfold e_X11_loudCells_25 at h
    obtain ⟨r, hr, h⟩ := qB_of h
    refine l25 x2 x3 r _ hr ?_
    ·
      intro u0 e
      have e := e.symm
      subst e
      have h : b_X11_loudCells_90 o u0 = some v := h
      exact j90 u0 h
  unfold s_X11_loudCells at h
  refine g_aload_n E gdX11_loudCells_0 rfl 0 rfl ?_
  refine g_iconst E gdX11_loudCells_1 ?_
  obtain ⟨r8, hc9, h⟩ := qB_of h
  refine g_Vi (r := r8) (As := [iv 5]) (rest := []) (w := wC g ad o) E (c_X11_inForce l g ad o 5 r8 hc9) okm_X11_inForce okw_X11_inForce w_809 rfl (wC_0 g ad o) rfl rfl (Nat.le_of_ble_eq_true rfl) ⟨Nat.le_of_ble_eq_true rfl, Nat.le_of_ble_eq_true rfl⟩ gdX11_loudCells_2 ?_
  refine g_istore_n E [(3, iv r8), (0, .ref (ad 0)), (1, iv x1), (2, iv x2)] gdX11_loudCells_5 rfl (by decide) rfl ?_
  refine g_lconst (v := 0) E gdX11_loudCells_6 (by decide) ?_
  obtain ⟨m10, e_m10, h⟩ := qNm_of h
  refine g_nml e_m10 ?_
  refine g_lstore E [(4, .long m10), (3, iv r8), (0, .ref (ad 0)), (1, iv x1), (2, iv x2)] gdX11_loudCells_7 (by decide) rfl ?_
  refine g_lconst (v := 0) E gdX11_loudCells_9 (by decide) ?_
  obtain ⟨m11, e_m11, h⟩ := qNm_of h
  refine g_nml e_m11 ?_
  refine g_lstore E [(6, .long m11), (4, .long m10), (3, iv r8), (0, .ref (ad 0)), (1, iv x1), (2, iv x2)] gdX11_loudCells_10 (by decide) rfl ?_
  refine g_aload_n E gdX11_loudCells_12 rfl 3 rfl ?_
  refine g_get (T := TX11) E fw_X11 0 (wC_0 g ad o) rfl 6 (by decide) w_464 rfl rfl gdX11_loudCells_13 ?_
  refine g_iload_n E gdX11_loudCells_16 rfl 4 rfl ?_
  obtain ⟨p12, hc13, h⟩ := qB_of h
  refine g_Vl (r := p12) (As := [iv x1]) (rest := []) (w := wC g ad o) E (c_X4_cells l g ad o x1 p12 hc13) okm_X4_cells okw_X4_cells w_890 rfl (wC_32 g ad o) rfl rfl (Nat.le_of_ble_eq_true rfl) ⟨Nat.le_of_ble_eq_true rfl, Nat.le_of_ble_eq_true rfl⟩ gdX11_loudCells_17 ?_
  refine g_lstore E [(8, .long p12), (6, .long m11), (4, .long m10), (3, iv r8), (0, .ref (ad 0)), (1, iv x1), (2, iv x2)] gdX11_loudCells_20 (by decide) rfl ?_
  refine g_iconst E gdX11_loudCells_22 ?_
  refine g_istore E [(10, iv 0), (8, .long p12), (6, .long m11), (4, .long m10), (3, iv r8), (0, .ref (ad 0)), (1, iv x1), (2, iv x2)] gdX11_loudCells_23 (by decide) rfl ?_
  refine g_sub E [5, 7, 4, 3, 2, 1, 0] rfl ?_
  exact j25 x2 r8 m10 m11 p12 0 h
set_option maxHeartbeats 4000000 in
set_option maxRecDepth 100000 in
theorem c_X1_stands (l : Launch) (g : GG) (ad : Nat → Nat) (o : OO) (x1 : Int) (x2 : Int) (v : Int) (h : s_X1_stands o x1 x2 = some v) : CI l g yX1_stands cX1_stands 3 (some .boolean) 0 0 (wC g ad o) [.ref (ad 10), iv x1, iv x2] v (wC g ad o) := by
  refine met_I (by decide) (Nat.le_of_ble_eq_true rfl) ?_
  intro X E hQ
  show Go X 0 (wC g ad o) [(0, .ref (ad 10)), (1, iv x1), (2, iv x2)] []
  have j24 : ∀ (y0 : Int), b_X1_stands_24 o y0 = some v → Go X 24 (wC g ad o) [] [iv y0] := by
    intro y0 h
    unfold b_X1_stands_24 at h
    obtain ⟨hz, h⟩ := qZ_of h
    exact g_zret E hQ hz (Option.some.inj h) rfl gdX1_stands_24
  have j23 : b_X1_stands_23 o = some v → Go X 23 (wC g ad o) [] [] := by
    intro h
    unfold b_X1_stands_23 at h
    refine g_iconst E gdX1_stands_23 ?_
    exact j24 0 h
  unfold s_X1_stands at h
  refine g_aload_n E gdX1_stands_0 rfl 0 rfl ?_
  refine g_get (T := TX1) E fw_X1 10 (wC_10 g ad o) rfl 6 (by decide) w_166 rfl rfl gdX1_stands_1 ?_
  refine g_iload_n E gdX1_stands_4 rfl 1 rfl ?_
  obtain ⟨hi1, h⟩ := qIn_of h
  refine g_zald E 17 (wC_17 g ad o) (by decide) hi1 gdX1_stands_5 ?_
  obtain ⟨n2, e_n2, h⟩ := qNm_of h
  refine g_nmi e_n2 ?_
  refine g_if_ne E 23 gdX1_stands_6 (by decide) h (fun h => ?_) (fun h => ?_)
  ·
    refine g_sub E [] rfl ?_
    exact j23  h
  ·
    refine g_aload_n E gdX1_stands_9 rfl 0 rfl ?_
    refine g_get (T := TX1) E fw_X1 10 (wC_10 g ad o) rfl 1 (by decide) w_161 rfl rfl gdX1_stands_10 ?_
    refine g_iload_n E gdX1_stands_13 rfl 1 rfl ?_
    obtain ⟨hi3, h⟩ := qIn_of h
    refine g_iald E 12 (wC_12 g ad o) (by decide) hi3 gdX1_stands_14 ?_
    obtain ⟨n4, e_n4, h⟩ := qNm_of h
    refine g_nmi e_n4 ?_
    refine g_iload_n E gdX1_stands_15 rfl 2 rfl ?_
    refine g_icmp_ne E 23 gdX1_stands_16 (by decide) h (fun h => ?_) (fun h => ?_)
    ·
      refine g_sub E [] rfl ?_
      exact j23  h
    ·
      refine g_iconst E gdX1_stands_19 ?_
      refine g_goto E 24 gdX1_stands_20 (by decide) ?_
      refine g_sub E [] rfl ?_
      exact j24 1 h
set_option maxHeartbeats 4000000 in
set_option maxRecDepth 100000 in
theorem c_X1_housesIn (l : Launch) (g : GG) (ad : Nat → Nat) (o : OO) (z1 : Int64) (v : Int) (h : s_X1_housesIn o z1 = some v) : CI l g yX1_housesIn cX1_housesIn 5 (some .int) 1 22 (wC g ad o) [.ref (ad 10), .long z1] v (wC g ad o) := by
  refine met_I (by decide) (Nat.le_of_ble_eq_true rfl) ?_
  intro X E hQ
  show Go X 0 (wC g ad o) [(0, .ref (ad 10)), (1, .long z1)] []
  have j47 : ∀ (x3 : Int), b_X1_housesIn_47 o x3 = some v → Go X 47 (wC g ad o) [(3, iv x3)] [] := by
    intro x3 h
    unfold b_X1_housesIn_47 at h
    refine g_iload_n E gdX1_housesIn_47 rfl 0 rfl ?_
    exact g_iret E hQ (Option.some.inj h) rfl gdX1_housesIn_48
  have j41 : ∀ (z1 : Int64) (x3 : Int) (x4 : Int) (v : (Int × Int) ⊕ ((Int))), b_X1_housesIn_41 o z1 x3 x4 = some v → (∀ (x3 : Int) (x4 : Int), v = .inl (x3, x4) → Go X 5 (wC g ad o) [(0, .ref (ad 10)), (1, .long z1), (3, iv x3), (4, iv x4)] []) → (∀ (x3 : Int), v = .inr (x3) → Go X 47 (wC g ad o) [(3, iv x3)] []) → Go X 41 (wC g ad o) [(0, .ref (ad 10)), (1, .long z1), (3, iv x3), (4, iv x4)] [] := by
    intro z1 x3 x4 v h k0 k1
    unfold b_X1_housesIn_41 at h
    refine g_iinc E [(4, iv (x4 + 1)), (0, .ref (ad 10)), (1, .long z1), (3, iv x3)] gdX1_housesIn_41 3 rfl (by decide) rfl ?_
    refine g_goto E 5 gdX1_housesIn_44 (by decide) ?_
    refine g_sub E [1, 2, 3, 0] rfl ?_
    exact k0 x3 (x4 + 1) (Option.some.inj h).symm
  have l5 : ∀ (z1 : Int64) (r : (Int)) (s0 : Int × Int), loopW (fun s => l_X1_housesIn_5 o z1 s.1 s.2) s0 = some r → (∀ (x3 : Int), r = (x3) → Go X 47 (wC g ad o) [(3, iv x3)] []) → Go X 5 (wC g ad o) [(0, .ref (ad 10)), (1, .long z1), (3, iv s0.1), (4, iv s0.2)] [] := by
    intro z1 r s0 h k1
    refine loop_rule (Head := fun s0 => Go X 5 (wC g ad o) [(0, .ref (ad 10)), (1, .long z1), (3, iv s0.1), (4, iv s0.2)] []) h ?_
    intro s v h kk kx
    obtain ⟨x3, x4⟩ := s
    have h : l_X1_housesIn_5 o z1 x3 x4 = some v := h
    have k0 : ∀ (x3 : Int) (x4 : Int), v = .inl (x3, x4) → Go X 5 (wC g ad o) [(0, .ref (ad 10)), (1, .long z1), (3, iv x3), (4, iv x4)] [] := fun x3 x4 e => kk (x3, x4) e
    have k1 : ∀ (x3 : Int), v = .inr (x3) → Go X 47 (wC g ad o) [(3, iv x3)] [] := fun x3 e => k1 x3 (kx _ e).symm
    unfold l_X1_housesIn_5 at h
    refine g_iload E gdX1_housesIn_5 3 rfl ?_
    refine g_aload_n E gdX1_housesIn_7 rfl 0 rfl ?_
    refine g_get (T := TX1) E fw_X1 10 (wC_10 g ad o) rfl 12 (by decide) w_172 rfl rfl gdX1_housesIn_8 ?_
    refine g_icmp_ge E 47 gdX1_housesIn_11 (by decide) h (fun h => ?_) (fun h => ?_)
    ·
      refine g_sub E [2] rfl ?_
      exact k1 x3 (Option.some.inj h).symm
    ·
      refine g_aload_n E gdX1_housesIn_14 rfl 0 rfl ?_
      refine g_iload E gdX1_housesIn_15 3 rfl ?_
      refine g_iconst E gdX1_housesIn_17 ?_
      obtain ⟨r1, hc2, h⟩ := qB_of h
      refine g_Vi (r := r1) (As := [iv x4, iv 0]) (rest := []) (w := wC g ad o) E (c_X1_stands l g ad o x4 0 r1 hc2) okm_X1_stands okw_X1_stands w_711 rfl (wC_10 g ad o) rfl rfl (Nat.le_of_ble_eq_true rfl) ⟨Nat.le_of_ble_eq_true rfl, Nat.le_of_ble_eq_true rfl⟩ gdX1_housesIn_18 ?_
      refine g_if_eq E 41 gdX1_housesIn_21 (by decide) h (fun h => ?_) (fun h => ?_)
      ·
        exact j41 z1 x3 x4 v h k0 k1
      ·
        refine g_lload_n E gdX1_housesIn_24 rfl 1 rfl ?_
        refine g_aload_n E gdX1_housesIn_25 rfl 0 rfl ?_
        refine g_get (T := TX1) E fw_X1 10 (wC_10 g ad o) rfl 0 (by decide) w_160 rfl rfl gdX1_housesIn_26 ?_
        refine g_iload E gdX1_housesIn_29 3 rfl ?_
        obtain ⟨hi3, h⟩ := qIn_of h
        refine g_iald E 11 (wC_11 g ad o) (by decide) hi3 gdX1_housesIn_31 ?_
        obtain ⟨n4, e_n4, h⟩ := qNm_of h
        refine g_nmi e_n4 ?_
        obtain ⟨r5, hc6, h⟩ := qB_of h
        refine g_Si (r := r5) (As := [.long z1, iv n4]) (rest := []) (w := wC g ad o) E (c_X3_has l g (wC g ad o) z1 n4 r5 hc6) okm_X3_has w_839 w_1179 rfl rfl (Nat.le_of_ble_eq_true rfl) ⟨Nat.le_of_ble_eq_true rfl, Nat.le_of_ble_eq_true rfl⟩ gdX1_housesIn_32 ?_
        refine g_if_eq E 41 gdX1_housesIn_35 (by decide) h (fun h => ?_) (fun h => ?_)
        ·
          exact j41 z1 x3 x4 v h k0 k1
        ·
          refine g_iinc E [(3, iv (x3 + 1)), (0, .ref (ad 10)), (1, .long z1), (4, iv x4)] gdX1_housesIn_38 2 rfl (by decide) rfl ?_
          refine g_sub E [1, 2, 0, 3] rfl ?_
          exact j41 z1 (x3 + 1) x4 v h k0 k1
  have j5 : ∀ (z1 : Int64) (x3 : Int) (x4 : Int), e_X1_housesIn_5 o z1 x3 x4 = some v → Go X 5 (wC g ad o) [(0, .ref (ad 10)), (1, .long z1), (3, iv x3), (4, iv x4)] [] := by
    intro z1 x3 x4 h
    unfold e_X1_housesIn_5 at h
    obtain ⟨r, hr, h⟩ := qB_of h
    refine l5 z1 r _ hr ?_
    ·
      intro u0 e
      have e := e.symm
      subst e
      have h : b_X1_housesIn_47 o u0 = some v := h
      exact j47 u0 h
  unfold s_X1_housesIn at h
  refine g_iconst E gdX1_housesIn_0 ?_
  refine g_istore_n E [(3, iv 0), (0, .ref (ad 10)), (1, .long z1)] gdX1_housesIn_1 rfl (by decide) rfl ?_
  refine g_iconst E gdX1_housesIn_2 ?_
  refine g_istore E [(4, iv 0), (3, iv 0), (0, .ref (ad 10)), (1, .long z1)] gdX1_housesIn_3 (by decide) rfl ?_
  refine g_sub E [2, 3, 1, 0] rfl ?_
  exact j5 z1 0 0 h
set_option maxHeartbeats 4000000 in
set_option maxRecDepth 100000 in
theorem c_X11_weigh (l : Launch) (g : GG) (ad : Nat → Nat) (o : OO) (x1 : Int) (x2 : Int) (x3 : Int) (v : Int) (h : s_X11_weigh o x1 x2 x3 = some v) : CI l g yX11_weigh cX11_weigh 6 (some .int) 4 100 (wC g ad o) [.ref (ad 0), iv x1, iv x2, iv x3] v (wC g ad o) := by
  refine met_I (by decide) (Nat.le_of_ble_eq_true rfl) ?_
  intro X E hQ
  show Go X 0 (wC g ad o) [(0, .ref (ad 0)), (1, iv x1), (2, iv x2), (3, iv x3)] []
  unfold s_X11_weigh at h
  refine g_aload_n E gdX11_weigh_0 rfl 0 rfl ?_
  refine g_get (T := TX11) E fw_X11 0 (wC_0 g ad o) rfl 6 (by decide) w_464 rfl rfl gdX11_weigh_1 ?_
  refine g_iload_n E gdX11_weigh_4 rfl 1 rfl ?_
  obtain ⟨p1, hc2, h⟩ := qB_of h
  refine g_Vl (r := p1) (As := [iv x1]) (rest := []) (w := wC g ad o) E (c_X4_cells l g ad o x1 p1 hc2) okm_X4_cells okw_X4_cells w_890 rfl (wC_32 g ad o) rfl rfl (Nat.le_of_ble_eq_true rfl) ⟨Nat.le_of_ble_eq_true rfl, Nat.le_of_ble_eq_true rfl⟩ gdX11_weigh_5 ?_
  refine g_lstore E [(4, .long p1), (0, .ref (ad 0)), (1, iv x1), (2, iv x2), (3, iv x3)] gdX11_weigh_8 (by decide) rfl ?_
  refine g_aload_n E gdX11_weigh_10 rfl 1 rfl ?_
  refine g_get (T := TX11) E fw_X11 0 (wC_0 g ad o) rfl 0 (by decide) w_458 rfl rfl gdX11_weigh_11 ?_
  refine g_iload_n E gdX11_weigh_14 rfl 3 rfl ?_
  refine g_iconst E gdX11_weigh_15 ?_
  obtain ⟨r3, hc4, h⟩ := qB_of h
  refine g_Vi (r := r3) (As := [iv x2, iv 0]) (rest := []) (w := wC g ad o) E (c_X8_at l g ad o x2 0 r3 hc4) okm_X8_at okw_X8_at w_808 rfl (wC_1 g ad o) rfl rfl (Nat.le_of_ble_eq_true rfl) ⟨Nat.le_of_ble_eq_true rfl, Nat.le_of_ble_eq_true rfl⟩ gdX11_weigh_16 ?_
  refine g_aload_n E gdX11_weigh_19 rfl 1 rfl ?_
  refine g_get (T := TX11) E fw_X11 0 (wC_0 g ad o) rfl 6 (by decide) w_464 rfl rfl gdX11_weigh_20 ?_
  refine g_iload_n E gdX11_weigh_23 rfl 2 rfl ?_
  obtain ⟨r5, hc6, h⟩ := qB_of h
  refine g_Vi (r := r5) (As := [iv x1]) (rest := [iv r3]) (w := wC g ad o) E (c_X4_costOf l g ad o x1 r5 hc6) okm_X4_costOf okw_X4_costOf w_1054 rfl (wC_32 g ad o) rfl rfl (Nat.le_of_ble_eq_true rfl) ⟨Nat.le_of_ble_eq_true rfl, Nat.le_of_ble_eq_true rfl⟩ gdX11_weigh_24 ?_
  refine g_imul E gdX11_weigh_27 ?_
  refine g_aload_n E gdX11_weigh_28 rfl 1 rfl ?_
  refine g_get (T := TX11) E fw_X11 0 (wC_0 g ad o) rfl 0 (by decide) w_458 rfl rfl gdX11_weigh_29 ?_
  refine g_iload_n E gdX11_weigh_32 rfl 3 rfl ?_
  refine g_iconst E gdX11_weigh_33 ?_
  obtain ⟨r7, hc8, h⟩ := qB_of h
  refine g_Vi (r := r7) (As := [iv x2, iv 1]) (rest := [iv (r3 * r5)]) (w := wC g ad o) E (c_X8_at l g ad o x2 1 r7 hc8) okm_X8_at okw_X8_at w_808 rfl (wC_1 g ad o) rfl rfl (Nat.le_of_ble_eq_true rfl) ⟨Nat.le_of_ble_eq_true rfl, Nat.le_of_ble_eq_true rfl⟩ gdX11_weigh_34 ?_
  refine g_aload_n E gdX11_weigh_37 rfl 1 rfl ?_
  refine g_get (T := TX11) E fw_X11 0 (wC_0 g ad o) rfl 3 (by decide) w_461 rfl rfl gdX11_weigh_38 ?_
  refine g_lload E gdX11_weigh_41 0 rfl ?_
  obtain ⟨r9, hc10, h⟩ := qB_of h
  refine g_Vi (r := r9) (As := [.long p1]) (rest := [iv r7, iv (r3 * r5)]) (w := wC g ad o) E (c_X1_dwellersIn l g ad o p1 r9 hc10) okm_X1_dwellersIn okw_X1_dwellersIn w_1209 rfl (wC_10 g ad o) rfl rfl (Nat.le_of_ble_eq_true rfl) ⟨Nat.le_of_ble_eq_true rfl, Nat.le_of_ble_eq_true rfl⟩ gdX11_weigh_43 ?_
  refine g_imul E gdX11_weigh_46 ?_
  refine g_iadd E gdX11_weigh_47 ?_
  refine g_aload_n E gdX11_weigh_48 rfl 1 rfl ?_
  refine g_get (T := TX11) E fw_X11 0 (wC_0 g ad o) rfl 0 (by decide) w_458 rfl rfl gdX11_weigh_49 ?_
  refine g_iload_n E gdX11_weigh_52 rfl 3 rfl ?_
  refine g_iconst E gdX11_weigh_53 ?_
  obtain ⟨r11, hc12, h⟩ := qB_of h
  refine g_Vi (r := r11) (As := [iv x2, iv 2]) (rest := [iv ((r3 * r5) + (r7 * r9))]) (w := wC g ad o) E (c_X8_at l g ad o x2 2 r11 hc12) okm_X8_at okw_X8_at w_808 rfl (wC_1 g ad o) rfl rfl (Nat.le_of_ble_eq_true rfl) ⟨Nat.le_of_ble_eq_true rfl, Nat.le_of_ble_eq_true rfl⟩ gdX11_weigh_54 ?_
  refine g_aload_n E gdX11_weigh_57 rfl 1 rfl ?_
  refine g_get (T := TX11) E fw_X11 0 (wC_0 g ad o) rfl 2 (by decide) w_460 rfl rfl gdX11_weigh_58 ?_
  refine g_lload E gdX11_weigh_61 0 rfl ?_
  obtain ⟨r13, hc14, h⟩ := qB_of h
  refine g_Vi (r := r13) (As := [.long p1]) (rest := [iv r11, iv ((r3 * r5) + (r7 * r9))]) (w := wC g ad o) E (c_X3_parksIn l g ad o p1 r13 hc14) okm_X3_parksIn okw_X3_parksIn w_1221 rfl (wC_7 g ad o) rfl rfl (Nat.le_of_ble_eq_true rfl) ⟨Nat.le_of_ble_eq_true rfl, Nat.le_of_ble_eq_true rfl⟩ gdX11_weigh_63 ?_
  refine g_imul E gdX11_weigh_66 ?_
  refine g_iadd E gdX11_weigh_67 ?_
  refine g_aload_n E gdX11_weigh_68 rfl 1 rfl ?_
  refine g_get (T := TX11) E fw_X11 0 (wC_0 g ad o) rfl 0 (by decide) w_458 rfl rfl gdX11_weigh_69 ?_
  refine g_iload_n E gdX11_weigh_72 rfl 3 rfl ?_
  refine g_iconst E gdX11_weigh_73 ?_
  obtain ⟨r15, hc16, h⟩ := qB_of h
  refine g_Vi (r := r15) (As := [iv x2, iv 3]) (rest := [iv (((r3 * r5) + (r7 * r9)) + (r11 * r13))]) (w := wC g ad o) E (c_X8_at l g ad o x2 3 r15 hc16) okm_X8_at okw_X8_at w_808 rfl (wC_1 g ad o) rfl rfl (Nat.le_of_ble_eq_true rfl) ⟨Nat.le_of_ble_eq_true rfl, Nat.le_of_ble_eq_true rfl⟩ gdX11_weigh_74 ?_
  refine g_aload_n E gdX11_weigh_77 rfl 1 rfl ?_
  refine g_get (T := TX11) E fw_X11 0 (wC_0 g ad o) rfl 3 (by decide) w_461 rfl rfl gdX11_weigh_78 ?_
  refine g_aload_n E gdX11_weigh_81 rfl 1 rfl ?_
  refine g_iload_n E gdX11_weigh_82 rfl 2 rfl ?_
  refine g_iload_n E gdX11_weigh_83 rfl 4 rfl ?_
  obtain ⟨p17, hc18, h⟩ := qB_of h
  refine g_Vl (r := p17) (As := [iv x1, iv x3]) (rest := [.ref (ad 10), iv r15, iv (((r3 * r5) + (r7 * r9)) + (r11 * r13))]) (w := wC g ad o) E (c_X11_loudCells l g ad o x1 x3 p17 hc18) okm_X11_loudCells okw_X11_loudCells w_1205 rfl (wC_0 g ad o) rfl rfl (Nat.le_of_ble_eq_true rfl) ⟨Nat.le_of_ble_eq_true rfl, Nat.le_of_ble_eq_true rfl⟩ gdX11_weigh_84 ?_
  obtain ⟨r19, hc20, h⟩ := qB_of h
  refine g_Vi (r := r19) (As := [.long p17]) (rest := [iv r15, iv (((r3 * r5) + (r7 * r9)) + (r11 * r13))]) (w := wC g ad o) E (c_X1_housesIn l g ad o p17 r19 hc20) okm_X1_housesIn okw_X1_housesIn w_1213 rfl (wC_10 g ad o) rfl rfl (Nat.le_of_ble_eq_true rfl) ⟨Nat.le_of_ble_eq_true rfl, Nat.le_of_ble_eq_true rfl⟩ gdX11_weigh_87 ?_
  refine g_imul E gdX11_weigh_90 ?_
  refine g_iadd E gdX11_weigh_91 ?_
  exact g_iret E hQ (Option.some.inj h) rfl gdX11_weigh_92
set_option maxHeartbeats 4000000 in
set_option maxRecDepth 100000 in
theorem c_X11_best (l : Launch) (g : GG) (ad : Nat → Nat) (o : OO) (x1 : Int) (x2 : Int) (v : Int × OO) (h : s_X11_best o x1 x2 = some v) : CI l g yX11_best cX11_best 8 (some .int) 5 125 (wC g ad o) [.ref (ad 0), iv x1, iv x2] v.1 (wC g ad v.2) := by
  refine met_I (by decide) (Nat.le_of_ble_eq_true rfl) ?_
  intro X E hQ
  show Go X 0 (wC g ad o) [(0, .ref (ad 0)), (1, iv x1), (2, iv x2)] []
  have j22 : ∀ (o : OO), b_X11_best_22 o = some v → Go X 22 (wC g ad o) [] [] := by
    intro o h
    unfold b_X11_best_22 at h
    refine g_iconst E gdX11_best_22 ?_
    exact g_iret E hQ (by rw [← Option.some.inj h]) (by rw [← Option.some.inj h]) gdX11_best_23
  have j134 : ∀ (o : OO) (x4 : Int), b_X11_best_134 o x4 = some v → Go X 134 (wC g ad o) [(4, iv x4)] [] := by
    intro o x4 h
    unfold b_X11_best_134 at h
    refine g_iload E gdX11_best_134 0 rfl ?_
    exact g_iret E hQ (by rw [← Option.some.inj h]) (by rw [← Option.some.inj h]) gdX11_best_136
  have j120 : ∀ (o : OO) (x4 : Int) (x5 : Int), b_X11_best_120 o x4 x5 = some v → Go X 120 (wC g ad o) [(0, .ref (ad 0)), (4, iv x4), (5, iv x5)] [] := by
    intro o x4 x5 h
    unfold b_X11_best_120 at h
    refine g_iload E gdX11_best_120 1 rfl ?_
    refine g_bipush E gdX11_best_122 (by decide) ?_
    refine g_icmp_eq E 134 gdX11_best_124 (by decide) h (fun h => ?_) (fun h => ?_)
    ·
      refine g_sub E [1] rfl ?_
      exact j134 o x4 h
    ·
      refine g_aload_n E gdX11_best_127 rfl 0 rfl ?_
      refine g_iload E gdX11_best_128 2 rfl ?_
      obtain ⟨r1, o3, hc2, h⟩ := qB2_of h
      refine g_Vi (r := r1) (As := [iv x5]) (rest := []) (w := wC g ad o3) E (c_X11_tell l g ad o x5 (r1, o3) hc2) okm_X11_tell okw_X11_tell w_551 rfl (wC_0 g ad o) rfl rfl (Nat.le_of_ble_eq_true rfl) ⟨Nat.le_of_ble_eq_true rfl, Nat.le_of_ble_eq_true rfl⟩ gdX11_best_130 ?_
      refine g_pop E gdX11_best_133 rfl ?_
      refine g_sub E [1] rfl ?_
      exact j134 o3 x4 h
  have j114 : ∀ (o : OO) (x1 : Int) (x2 : Int) (x4 : Int) (x5 : Int) (x6 : Int) (v : (Int × Int × Int) ⊕ ((Int × Int))), b_X11_best_114 o x1 x2 x4 x5 x6 = some v → (∀ (x4 : Int) (x5 : Int) (x6 : Int), v = .inl (x4, x5, x6) → Go X 51 (wC g ad o) [(0, .ref (ad 0)), (1, iv x1), (2, iv x2), (4, iv x4), (5, iv x5), (6, iv x6)] []) → (∀ (x4 : Int) (x5 : Int), v = .inr ((x4, x5)) → Go X 120 (wC g ad o) [(0, .ref (ad 0)), (4, iv x4), (5, iv x5)] []) → Go X 114 (wC g ad o) [(0, .ref (ad 0)), (1, iv x1), (2, iv x2), (4, iv x4), (5, iv x5), (6, iv x6)] [] := by
    intro o x1 x2 x4 x5 x6 v h k0 k1
    unfold b_X11_best_114 at h
    refine g_iinc E [(6, iv (x6 + 1)), (0, .ref (ad 0)), (1, iv x1), (2, iv x2), (4, iv x4), (5, iv x5)] gdX11_best_114 5 rfl (by decide) rfl ?_
    refine g_goto E 51 gdX11_best_117 (by decide) ?_
    refine g_sub E [1, 2, 3, 4, 5, 0] rfl ?_
    exact k0 x4 x5 (x6 + 1) (Option.some.inj h).symm
  have j106 : ∀ (o : OO) (x1 : Int) (x2 : Int) (x6 : Int) (x7 : Int) (v : (Int × Int × Int) ⊕ ((Int × Int))), b_X11_best_106 o x1 x2 x6 x7 = some v → (∀ (x4 : Int) (x5 : Int) (x6 : Int), v = .inl (x4, x5, x6) → Go X 51 (wC g ad o) [(0, .ref (ad 0)), (1, iv x1), (2, iv x2), (4, iv x4), (5, iv x5), (6, iv x6)] []) → (∀ (x4 : Int) (x5 : Int), v = .inr ((x4, x5)) → Go X 120 (wC g ad o) [(0, .ref (ad 0)), (4, iv x4), (5, iv x5)] []) → Go X 106 (wC g ad o) [(0, .ref (ad 0)), (1, iv x1), (2, iv x2), (6, iv x6), (7, iv x7)] [] := by
    intro o x1 x2 x6 x7 v h k0 k1
    unfold b_X11_best_106 at h
    refine g_iload E gdX11_best_106 3 rfl ?_
    refine g_istore E [(4, iv x6), (0, .ref (ad 0)), (1, iv x1), (2, iv x2), (6, iv x6), (7, iv x7)] gdX11_best_108 (by decide) rfl ?_
    refine g_iload E gdX11_best_110 5 rfl ?_
    refine g_istore E [(5, iv x7), (4, iv x6), (0, .ref (ad 0)), (1, iv x1), (2, iv x2), (6, iv x6), (7, iv x7)] gdX11_best_112 (by decide) rfl ?_
    refine g_sub E [2, 3, 4, 1, 0, 5] rfl ?_
    exact j114 o x1 x2 x6 x7 x6 v h k0 k1
  have l51 : ∀ (o : OO) (x1 : Int) (x2 : Int) (r : (Int × Int)) (s0 : Int × Int × Int), loopW (fun s => l_X11_best_51 o x1 x2 s.1 s.2.1 s.2.2) s0 = some r → (∀ (x4 : Int) (x5 : Int), r = ((x4, x5)) → Go X 120 (wC g ad o) [(0, .ref (ad 0)), (4, iv x4), (5, iv x5)] []) → Go X 51 (wC g ad o) [(0, .ref (ad 0)), (1, iv x1), (2, iv x2), (4, iv s0.1), (5, iv s0.2.1), (6, iv s0.2.2)] [] := by
    intro o x1 x2 r s0 h k1
    refine loop_rule (Head := fun s0 => Go X 51 (wC g ad o) [(0, .ref (ad 0)), (1, iv x1), (2, iv x2), (4, iv s0.1), (5, iv s0.2.1), (6, iv s0.2.2)] []) h ?_
    intro s v h kk kx
    obtain ⟨x4, x5, x6⟩ := s
    have h : l_X11_best_51 o x1 x2 x4 x5 x6 = some v := h
    have k0 : ∀ (x4 : Int) (x5 : Int) (x6 : Int), v = .inl (x4, x5, x6) → Go X 51 (wC g ad o) [(0, .ref (ad 0)), (1, iv x1), (2, iv x2), (4, iv x4), (5, iv x5), (6, iv x6)] [] := fun x4 x5 x6 e => kk (x4, x5, x6) e
    have k1 : ∀ (x4 : Int) (x5 : Int), v = .inr ((x4, x5)) → Go X 120 (wC g ad o) [(0, .ref (ad 0)), (4, iv x4), (5, iv x5)] [] := fun x4 x5 e => k1 x4 x5 (kx _ e).symm
    unfold l_X11_best_51 at h
    refine g_iload E gdX11_best_51 5 rfl ?_
    refine g_aload_n E gdX11_best_53 rfl 0 rfl ?_
    refine g_get (T := TX11) E fw_X11 0 (wC_0 g ad o) rfl 6 (by decide) w_464 rfl rfl gdX11_best_54 ?_
    obtain ⟨r4, hc5, h⟩ := qB_of h
    refine g_Vi (r := r4) (As := []) (rest := [iv x6]) (w := wC g ad o) E (c_X4_number l g ad o r4 hc5) okm_X4_number okw_X4_number w_790 rfl (wC_32 g ad o) rfl rfl (Nat.le_of_ble_eq_true rfl) ⟨Nat.le_of_ble_eq_true rfl, Nat.le_of_ble_eq_true rfl⟩ gdX11_best_57 ?_
    refine g_icmp_ge E 120 gdX11_best_60 (by decide) h (fun h => ?_) (fun h => ?_)
    ·
      refine g_sub E [0, 3, 4] rfl ?_
      exact k1 x4 x5 (Option.some.inj h).symm
    ·
      refine g_aload_n E gdX11_best_63 rfl 0 rfl ?_
      refine g_get (T := TX11) E fw_X11 0 (wC_0 g ad o) rfl 6 (by decide) w_464 rfl rfl gdX11_best_64 ?_
      refine g_iload E gdX11_best_67 5 rfl ?_
      obtain ⟨r6, hc7, h⟩ := qB_of h
      refine g_Vi (r := r6) (As := [iv x6]) (rest := []) (w := wC g ad o) E (c_X4_kindOf l g ad o x6 r6 hc7) okm_X4_kindOf okw_X4_kindOf w_979 rfl (wC_32 g ad o) rfl rfl (Nat.le_of_ble_eq_true rfl) ⟨Nat.le_of_ble_eq_true rfl, Nat.le_of_ble_eq_true rfl⟩ gdX11_best_69 ?_
      refine g_iconst E gdX11_best_72 ?_
      refine g_icmp_eq E 79 gdX11_best_73 (by decide) h (fun h => ?_) (fun h => ?_)
      ·
        refine g_aload_n E gdX11_best_79 rfl 0 rfl ?_
        refine g_iload E gdX11_best_80 5 rfl ?_
        refine g_iload_n E gdX11_best_82 rfl 1 rfl ?_
        refine g_iload_n E gdX11_best_83 rfl 2 rfl ?_
        obtain ⟨r8, hc9, h⟩ := qB_of h
        refine g_Vi (r := r8) (As := [iv x6, iv x1, iv x2]) (rest := []) (w := wC g ad o) E (c_X11_weigh l g ad o x6 x1 x2 r8 hc9) okm_X11_weigh okw_X11_weigh w_1377 rfl (wC_0 g ad o) rfl rfl (Nat.le_of_ble_eq_true rfl) ⟨Nat.le_of_ble_eq_true rfl, Nat.le_of_ble_eq_true rfl⟩ gdX11_best_84 ?_
        refine g_istore E [(7, iv r8), (0, .ref (ad 0)), (1, iv x1), (2, iv x2), (4, iv x4), (5, iv x5), (6, iv x6)] gdX11_best_87 (by decide) rfl ?_
        refine g_iload E gdX11_best_89 4 rfl ?_
        refine g_bipush E gdX11_best_91 (by decide) ?_
        refine g_icmp_eq E 106 gdX11_best_93 (by decide) h (fun h => ?_) (fun h => ?_)
        ·
          refine g_sub E [1, 2, 3, 6, 0] rfl ?_
          exact j106 o x1 x2 x6 r8 v h k0 k1
        ·
          refine g_iload E gdX11_best_96 0 rfl ?_
          refine g_iload E gdX11_best_98 5 rfl ?_
          refine g_icmp_lt E 106 gdX11_best_100 (by decide) h (fun h => ?_) (fun h => ?_)
          ·
            refine g_sub E [1, 2, 3, 6, 0] rfl ?_
            exact j106 o x1 x2 x6 r8 v h k0 k1
          ·
            refine g_goto E 114 gdX11_best_103 (by decide) ?_
            refine g_sub E [1, 2, 3, 4, 5, 6] rfl ?_
            exact j114 o x1 x2 x4 x5 x6 v h k0 k1
      ·
        refine g_goto E 114 gdX11_best_76 (by decide) ?_
        exact j114 o x1 x2 x4 x5 x6 v h k0 k1
  have j51 : ∀ (o : OO) (x1 : Int) (x2 : Int) (x4 : Int) (x5 : Int) (x6 : Int), e_X11_best_51 o x1 x2 x4 x5 x6 = some v → Go X 51 (wC g ad o) [(0, .ref (ad 0)), (1, iv x1), (2, iv x2), (4, iv x4), (5, iv x5), (6, iv x6)] [] := by
    intro o x1 x2 x4 x5 x6 h
    unfold e_X11_best_51 at h
    obtain ⟨r, hr, h⟩ := qB_of h
    refine l51 o x1 x2 r _ hr ?_
    ·
      intro u0 u1 e
      subst e
      have h : b_X11_best_120 o u0 u1 = some v := h
      exact j120 o u0 u1 h
  unfold s_X11_best at h
  refine g_aload_n E gdX11_best_0 rfl 0 rfl ?_
  refine g_get (T := TX11) E fw_X11 0 (wC_0 g ad o) rfl 0 (by decide) w_458 rfl rfl gdX11_best_1 ?_
  refine g_iload_n E gdX11_best_4 rfl 1 rfl ?_
  obtain ⟨r10, hc11, h⟩ := qB_of h
  refine g_Vi (r := r10) (As := [iv x1]) (rest := []) (w := wC g ad o) E (c_X8_exists l g ad o x1 r10 hc11) okm_X8_exists okw_X8_exists w_517 rfl (wC_1 g ad o) rfl rfl (Nat.le_of_ble_eq_true rfl) ⟨Nat.le_of_ble_eq_true rfl, Nat.le_of_ble_eq_true rfl⟩ gdX11_best_5 ?_
  refine g_if_eq E 22 gdX11_best_8 (by decide) h (fun h => ?_) (fun h => ?_)
  ·
    refine g_sub E [] rfl ?_
    exact j22 o h
  ·
    refine g_aload_n E gdX11_best_11 rfl 0 rfl ?_
    refine g_get (T := TX11) E fw_X11 0 (wC_0 g ad o) rfl 0 (by decide) w_458 rfl rfl gdX11_best_12 ?_
    refine g_iload_n E gdX11_best_15 rfl 2 rfl ?_
    obtain ⟨r12, hc13, h⟩ := qB_of h
    refine g_Vi (r := r12) (As := [iv x2]) (rest := []) (w := wC g ad o) E (c_X8_exists l g ad o x2 r12 hc13) okm_X8_exists okw_X8_exists w_517 rfl (wC_1 g ad o) rfl rfl (Nat.le_of_ble_eq_true rfl) ⟨Nat.le_of_ble_eq_true rfl, Nat.le_of_ble_eq_true rfl⟩ gdX11_best_16 ?_
    refine g_if_ne E 24 gdX11_best_19 (by decide) h (fun h => ?_) (fun h => ?_)
    ·
      refine g_aload_n E gdX11_best_24 rfl 0 rfl ?_
      refine g_iload_n E gdX11_best_25 rfl 1 rfl ?_
      refine g_iload_n E gdX11_best_26 rfl 2 rfl ?_
      obtain ⟨r14, hc15, h⟩ := qB_of h
      refine g_Vi (r := r14) (As := [iv x1, iv x2]) (rest := []) (w := wC g ad o) E (c_X11_weighingFault l g ad o x1 x2 r14 hc15) okm_X11_weighingFault okw_X11_weighingFault w_1373 rfl (wC_0 g ad o) rfl rfl (Nat.le_of_ble_eq_true rfl) ⟨Nat.le_of_ble_eq_true rfl, Nat.le_of_ble_eq_true rfl⟩ gdX11_best_27 ?_
      refine g_istore_n E [(3, iv r14), (0, .ref (ad 0)), (1, iv x1), (2, iv x2)] gdX11_best_30 rfl (by decide) rfl ?_
      refine g_iload_n E gdX11_best_31 rfl 0 rfl ?_
      refine g_if_eq E 41 gdX11_best_32 (by decide) h (fun h => ?_) (fun h => ?_)
      ·
        refine g_bipush E gdX11_best_41 (by decide) ?_
        refine g_istore E [(4, iv (-9)), (3, iv r14), (0, .ref (ad 0)), (1, iv x1), (2, iv x2)] gdX11_best_43 (by decide) rfl ?_
        refine g_iconst E gdX11_best_45 ?_
        refine g_istore E [(5, iv 0), (4, iv (-9)), (3, iv r14), (0, .ref (ad 0)), (1, iv x1), (2, iv x2)] gdX11_best_46 (by decide) rfl ?_
        refine g_iconst E gdX11_best_48 ?_
        refine g_istore E [(6, iv 0), (5, iv 0), (4, iv (-9)), (3, iv r14), (0, .ref (ad 0)), (1, iv x1), (2, iv x2)] gdX11_best_49 (by decide) rfl ?_
        refine g_sub E [4, 5, 6, 2, 1, 0] rfl ?_
        exact j51 o x1 x2 (-9) 0 0 h
      ·
        refine g_aload_n E gdX11_best_35 rfl 1 rfl ?_
        refine g_iload_n E gdX11_best_36 rfl 0 rfl ?_
        obtain ⟨r16, o18, hc17, h⟩ := qB2_of h
        refine g_Vi (r := r16) (As := [iv r14]) (rest := []) (w := wC g ad o18) E (c_X11_found l g ad o r14 (r16, o18) hc17) okm_X11_found okw_X11_found w_521 rfl (wC_0 g ad o) rfl rfl (Nat.le_of_ble_eq_true rfl) ⟨Nat.le_of_ble_eq_true rfl, Nat.le_of_ble_eq_true rfl⟩ gdX11_best_37 ?_
        exact g_iret E hQ (by rw [← Option.some.inj h]) (by rw [← Option.some.inj h]) gdX11_best_40
    ·
      refine g_sub E [] rfl ?_
      exact j22 o h
set_option maxHeartbeats 4000000 in
set_option maxRecDepth 100000 in
theorem c_X3_isCell (l : Launch) (g : GG) (ws : va_W) (x0 : Int) (v : Int) (h : s_X3_isCell x0 = some v) : CI l g yX3_isCell cX3_isCell 1 (some .boolean) 0 0 ws [iv x0] v ws := by
  refine met_I (by decide) (Nat.le_of_ble_eq_true rfl) ?_
  intro X E hQ
  show Go X 0 ws [(0, iv x0)] []
  have j15 : ∀ (y0 : Int), b_X3_isCell_15 y0 = some v → Go X 15 ws [] [iv y0] := by
    intro y0 h
    unfold b_X3_isCell_15 at h
    obtain ⟨hz, h⟩ := qZ_of h
    exact g_zret E hQ hz (Option.some.inj h) rfl gdX3_isCell_15
  have j14 : b_X3_isCell_14  = some v → Go X 14 ws [] [] := by
    intro h
    unfold b_X3_isCell_14 at h
    refine g_iconst E gdX3_isCell_14 ?_
    exact j15 0 h
  unfold s_X3_isCell at h
  refine g_iload_n E gdX3_isCell_0 rfl 0 rfl ?_
  refine g_if_lt E 14 gdX3_isCell_1 (by decide) h (fun h => ?_) (fun h => ?_)
  ·
    refine g_sub E [] rfl ?_
    exact j14  h
  ·
    refine g_iload_n E gdX3_isCell_4 rfl 0 rfl ?_
    refine g_bipush E gdX3_isCell_5 (by decide) ?_
    refine g_icmp_ge E 14 gdX3_isCell_7 (by decide) h (fun h => ?_) (fun h => ?_)
    ·
      refine g_sub E [] rfl ?_
      exact j14  h
    ·
      refine g_iconst E gdX3_isCell_10 ?_
      refine g_goto E 15 gdX3_isCell_11 (by decide) ?_
      refine g_sub E [] rfl ?_
      exact j15 1 h
set_option maxHeartbeats 4000000 in
set_option maxRecDepth 100000 in
theorem c_X1_isUse (l : Launch) (g : GG) (ws : va_W) (x0 : Int) (v : Int) (h : s_X1_isUse x0 = some v) : CI l g yX1_isUse cX1_isUse 1 (some .boolean) 0 0 ws [iv x0] v ws := by
  refine met_I (by decide) (Nat.le_of_ble_eq_true rfl) ?_
  intro X E hQ
  show Go X 0 ws [(0, iv x0)] []
  have j14 : ∀ (y0 : Int), b_X1_isUse_14 y0 = some v → Go X 14 ws [] [iv y0] := by
    intro y0 h
    unfold b_X1_isUse_14 at h
    obtain ⟨hz, h⟩ := qZ_of h
    exact g_zret E hQ hz (Option.some.inj h) rfl gdX1_isUse_14
  have j13 : b_X1_isUse_13  = some v → Go X 13 ws [] [] := by
    intro h
    unfold b_X1_isUse_13 at h
    refine g_iconst E gdX1_isUse_13 ?_
    exact j14 0 h
  unfold s_X1_isUse at h
  refine g_iload_n E gdX1_isUse_0 rfl 0 rfl ?_
  refine g_if_lt E 13 gdX1_isUse_1 (by decide) h (fun h => ?_) (fun h => ?_)
  ·
    refine g_sub E [] rfl ?_
    exact j13  h
  ·
    refine g_iload_n E gdX1_isUse_4 rfl 0 rfl ?_
    refine g_iconst E gdX1_isUse_5 ?_
    refine g_icmp_gt E 13 gdX1_isUse_6 (by decide) h (fun h => ?_) (fun h => ?_)
    ·
      refine g_sub E [] rfl ?_
      exact j13  h
    ·
      refine g_iconst E gdX1_isUse_9 ?_
      refine g_goto E 14 gdX1_isUse_10 (by decide) ?_
      refine g_sub E [] rfl ?_
      exact j14 1 h
set_option maxHeartbeats 4000000 in
set_option maxRecDepth 100000 in
theorem c_X1_isWorth (l : Launch) (g : GG) (ws : va_W) (x0 : Int) (v : Int) (h : s_X1_isWorth x0 = some v) : CI l g yX1_isWorth cX1_isWorth 1 (some .boolean) 0 0 ws [iv x0] v ws := by
  refine met_I (by decide) (Nat.le_of_ble_eq_true rfl) ?_
  intro X E hQ
  show Go X 0 ws [(0, iv x0)] []
  have j16 : ∀ (y0 : Int), b_X1_isWorth_16 y0 = some v → Go X 16 ws [] [iv y0] := by
    intro y0 h
    unfold b_X1_isWorth_16 at h
    obtain ⟨hz, h⟩ := qZ_of h
    exact g_zret E hQ hz (Option.some.inj h) rfl gdX1_isWorth_16
  have j15 : b_X1_isWorth_15  = some v → Go X 15 ws [] [] := by
    intro h
    unfold b_X1_isWorth_15 at h
    refine g_iconst E gdX1_isWorth_15 ?_
    exact j16 0 h
  unfold s_X1_isWorth at h
  refine g_iload_n E gdX1_isWorth_0 rfl 0 rfl ?_
  refine g_iconst E gdX1_isWorth_1 ?_
  refine g_icmp_lt E 15 gdX1_isWorth_2 (by decide) h (fun h => ?_) (fun h => ?_)
  ·
    refine g_sub E [] rfl ?_
    exact j15  h
  ·
    refine g_iload_n E gdX1_isWorth_5 rfl 0 rfl ?_
    refine g_ldc (k := 100000) E gdX1_isWorth_6 w_642 (by decide) ?_
    refine g_icmp_gt E 15 gdX1_isWorth_8 (by decide) h (fun h => ?_) (fun h => ?_)
    ·
      refine g_sub E [] rfl ?_
      exact j15  h
    ·
      refine g_iconst E gdX1_isWorth_11 ?_
      refine g_goto E 16 gdX1_isWorth_12 (by decide) ?_
      refine g_sub E [] rfl ?_
      exact j16 1 h
set_option maxHeartbeats 4000000 in
set_option maxRecDepth 100000 in
theorem c_X1_number (l : Launch) (g : GG) (ad : Nat → Nat) (o : OO) (v : Int) (h : s_X1_number o = some v) : CI l g yX1_number cX1_number 1 (some .int) 0 0 (wC g ad o) [.ref (ad 10)] v (wC g ad o) := by
  refine met_I (by decide) (Nat.le_of_ble_eq_true rfl) ?_
  intro X E hQ
  show Go X 0 (wC g ad o) [(0, .ref (ad 10))] []
  unfold s_X1_number at h
  refine g_aload_n E gdX1_number_0 rfl 0 rfl ?_
  refine g_get (T := TX1) E fw_X1 10 (wC_10 g ad o) rfl 12 (by decide) w_172 rfl rfl gdX1_number_1 ?_
  exact g_iret E hQ (Option.some.inj h) rfl gdX1_number_4
