set_option maxRecDepth 200000 in
theorem w_1428 : Cond.code yX3_hash cX3_hash 4 (some .long) ∈ tb := tb_mem 1428 (by rfl) rfl
set_option maxRecDepth 200000 in
theorem w_1426 : Cond.instanceMethod yX3_hash ∈ tb := tb_mem 1426 (by decide +kernel) rfl
set_option maxRecDepth 200000 in
theorem w_1427 : Cond.selects "CityRoad$Ground" yX3_hash yX3_hash ∈ tb := tb_mem 1427 (by decide +kernel) rfl
set_option maxRecDepth 200000 in
theorem w_1425 : Cond.methodLink "CityRoad" 487 yX3_hash ∈ tb := tb_mem 1425 (by decide +kernel) rfl
set_option maxRecDepth 200000 in
theorem w_1433 : Cond.code yX1_hash cX1_hash 5 (some .long) ∈ tb := tb_mem 1433 (by rfl) rfl
set_option maxRecDepth 200000 in
theorem w_1431 : Cond.instanceMethod yX1_hash ∈ tb := tb_mem 1431 (by decide +kernel) rfl
set_option maxRecDepth 200000 in
theorem w_1432 : Cond.selects "CityRoad$Buildings" yX1_hash yX1_hash ∈ tb := tb_mem 1432 (by decide +kernel) rfl
set_option maxRecDepth 200000 in
theorem w_1430 : Cond.methodLink "CityRoad" 490 yX1_hash ∈ tb := tb_mem 1430 (by decide +kernel) rfl
set_option maxRecDepth 200000 in
theorem w_1439 : Cond.code yX5_hash cX5_hash 5 (some .long) ∈ tb := tb_mem 1439 (by rfl) rfl
set_option maxRecDepth 200000 in
theorem w_1437 : Cond.instanceMethod yX5_hash ∈ tb := tb_mem 1437 (by decide +kernel) rfl
set_option maxRecDepth 200000 in
theorem w_1438 : Cond.selects "CityRoad$Persons" yX5_hash yX5_hash ∈ tb := tb_mem 1438 (by decide +kernel) rfl
set_option maxRecDepth 200000 in
theorem w_1436 : Cond.methodLink "CityRoad" 491 yX5_hash ∈ tb := tb_mem 1436 (by decide +kernel) rfl
set_option maxRecDepth 200000 in
theorem w_1445 : Cond.code yX7_hash cX7_hash 4 (some .long) ∈ tb := tb_mem 1445 (by rfl) rfl
set_option maxRecDepth 200000 in
theorem w_1443 : Cond.instanceMethod yX7_hash ∈ tb := tb_mem 1443 (by decide +kernel) rfl
set_option maxRecDepth 200000 in
theorem w_1444 : Cond.selects "CityRoad$Rules" yX7_hash yX7_hash ∈ tb := tb_mem 1444 (by decide +kernel) rfl
set_option maxRecDepth 200000 in
theorem w_1442 : Cond.methodLink "CityRoad" 492 yX7_hash ∈ tb := tb_mem 1442 (by decide +kernel) rfl
set_option maxRecDepth 200000 in
theorem w_1450 : Cond.code yX4_hash cX4_hash 5 (some .long) ∈ tb := tb_mem 1450 (by rfl) rfl
set_option maxRecDepth 200000 in
theorem w_1448 : Cond.instanceMethod yX4_hash ∈ tb := tb_mem 1448 (by decide +kernel) rfl
set_option maxRecDepth 200000 in
theorem w_1449 : Cond.selects "CityRoad$Marks" yX4_hash yX4_hash ∈ tb := tb_mem 1449 (by decide +kernel) rfl
set_option maxRecDepth 200000 in
theorem w_1447 : Cond.methodLink "CityRoad" 493 yX4_hash ∈ tb := tb_mem 1447 (by decide +kernel) rfl
set_option maxRecDepth 200000 in
theorem w_1458 : Cond.code yX8_hash cX8_hash 5 (some .long) ∈ tb := tb_mem 1458 (by rfl) rfl
set_option maxRecDepth 200000 in
theorem w_1456 : Cond.instanceMethod yX8_hash ∈ tb := tb_mem 1456 (by decide +kernel) rfl
set_option maxRecDepth 200000 in
theorem w_1457 : Cond.selects "CityRoad$Shelf" yX8_hash yX8_hash ∈ tb := tb_mem 1457 (by decide +kernel) rfl
set_option maxRecDepth 200000 in
theorem w_1455 : Cond.methodLink "CityRoad" 494 yX8_hash ∈ tb := tb_mem 1455 (by decide +kernel) rfl
set_option maxRecDepth 200000 in
theorem w_1423 : Cond.constantLong "CityRoad" 482 (31) ∈ tb := tb_mem 1423 (by decide +kernel) rfl
set_option maxRecDepth 200000 in
theorem w_1396 : Cond.code yX11_count cX11_count 2 (some .int) ∈ tb := tb_mem 1396 (by rfl) rfl
set_option maxRecDepth 200000 in
theorem w_1394 : Cond.instanceMethod yX11_count ∈ tb := tb_mem 1394 (by decide +kernel) rfl
set_option maxRecDepth 200000 in
theorem w_1395 : Cond.selects "CityRoad" yX11_count yX11_count ∈ tb := tb_mem 1395 (by decide +kernel) rfl
set_option maxRecDepth 200000 in
theorem w_1424 : Cond.methodLink "CityRoad" 484 yX11_count ∈ tb := tb_mem 1424 (by decide +kernel) rfl
set_option maxRecDepth 200000 in
theorem w_1422 : Cond.constantLong "CityRoad" 480 (17) ∈ tb := tb_mem 1422 (by decide +kernel) rfl
set_option maxRecDepth 200000 in
theorem w_1113 : Cond.code yX2_bought cX2_bought 2 (some .int) ∈ tb := tb_mem 1113 (by rfl) rfl
set_option maxRecDepth 200000 in
theorem w_1111 : Cond.instanceMethod yX2_bought ∈ tb := tb_mem 1111 (by decide +kernel) rfl
set_option maxRecDepth 200000 in
theorem w_1112 : Cond.selects "CityRoad$Dealings" yX2_bought yX2_bought ∈ tb := tb_mem 1112 (by decide +kernel) rfl
set_option maxRecDepth 200000 in
theorem w_1110 : Cond.methodLink "CityRoad" 518 yX2_bought ∈ tb := tb_mem 1110 (by decide +kernel) rfl
set_option maxRecDepth 200000 in
theorem w_944 : Cond.code yX1_cellOfOne cX1_cellOfOne 2 (some .int) ∈ tb := tb_mem 944 (by rfl) rfl
set_option maxRecDepth 200000 in
theorem w_942 : Cond.instanceMethod yX1_cellOfOne ∈ tb := tb_mem 942 (by decide +kernel) rfl
set_option maxRecDepth 200000 in
theorem w_943 : Cond.selects "CityRoad$Buildings" yX1_cellOfOne yX1_cellOfOne ∈ tb := tb_mem 943 (by decide +kernel) rfl
set_option maxRecDepth 200000 in
theorem w_941 : Cond.methodLink "CityRoad" 282 yX1_cellOfOne ∈ tb := tb_mem 941 (by decide +kernel) rfl
set_option maxRecDepth 200000 in
theorem w_902 : Cond.methodLink "CityRoad" 262 yX3_has ∈ tb := tb_mem 902 (by decide +kernel) rfl
set_option maxRecDepth 200000 in
theorem w_922 : Cond.code yX4_shownOn cX4_shownOn 2 (some .int) ∈ tb := tb_mem 922 (by rfl) rfl
set_option maxRecDepth 200000 in
theorem w_920 : Cond.instanceMethod yX4_shownOn ∈ tb := tb_mem 920 (by decide +kernel) rfl
set_option maxRecDepth 200000 in
theorem w_921 : Cond.selects "CityRoad$Marks" yX4_shownOn yX4_shownOn ∈ tb := tb_mem 921 (by decide +kernel) rfl
set_option maxRecDepth 200000 in
theorem w_919 : Cond.methodLink "CityRoad" 272 yX4_shownOn ∈ tb := tb_mem 919 (by decide +kernel) rfl
set_option maxRecDepth 200000 in
theorem w_1109 : Cond.code yX2_dayOfBuy cX2_dayOfBuy 2 (some .int) ∈ tb := tb_mem 1109 (by rfl) rfl
set_option maxRecDepth 200000 in
theorem w_1107 : Cond.instanceMethod yX2_dayOfBuy ∈ tb := tb_mem 1107 (by decide +kernel) rfl
set_option maxRecDepth 200000 in
theorem w_1108 : Cond.selects "CityRoad$Dealings" yX2_dayOfBuy yX2_dayOfBuy ∈ tb := tb_mem 1108 (by decide +kernel) rfl
set_option maxRecDepth 200000 in
theorem w_1106 : Cond.methodLink "CityRoad" 515 yX2_dayOfBuy ∈ tb := tb_mem 1106 (by decide +kernel) rfl
set_option maxRecDepth 200000 in
theorem w_306 : Cond.fieldLink "CityRoad$Dealings" 27 "CityRoad$Dealings" "heardDays" "[I" ∈ tb := tb_mem 306 (by decide +kernel) rfl
set_option maxRecDepth 200000 in
theorem w_308 : Cond.fieldLink "CityRoad$Dealings" 34 "CityRoad$Dealings" "heards" "I" ∈ tb := tb_mem 308 (by decide +kernel) rfl
set_option maxRecDepth 200000 in
theorem w_304 : Cond.fieldLink "CityRoad$Dealings" 21 "CityRoad$Dealings" "hearers" "[I" ∈ tb := tb_mem 304 (by decide +kernel) rfl
set_option maxRecDepth 200000 in
theorem w_305 : Cond.fieldLink "CityRoad$Dealings" 24 "CityRoad$Dealings" "lines" "[I" ∈ tb := tb_mem 305 (by decide +kernel) rfl
set_option maxRecDepth 200000 in
theorem w_1089 : Cond.code yX2_heardOn cX2_heardOn 4 (some .int) ∈ tb := tb_mem 1089 (by rfl) rfl
set_option maxRecDepth 200000 in
theorem w_1087 : Cond.instanceMethod yX2_heardOn ∈ tb := tb_mem 1087 (by decide +kernel) rfl
set_option maxRecDepth 200000 in
theorem w_1088 : Cond.selects "CityRoad$Dealings" yX2_heardOn yX2_heardOn ∈ tb := tb_mem 1088 (by decide +kernel) rfl
set_option maxRecDepth 200000 in
theorem w_1118 : Cond.methodLink "CityRoad$Dealings" 37 yX2_heardOn ∈ tb := tb_mem 1118 (by decide +kernel) rfl
set_option maxRecDepth 200000 in
theorem w_1126 : Cond.code yX5_areKin cX5_areKin 3 (some .boolean) ∈ tb := tb_mem 1126 (by rfl) rfl
set_option maxRecDepth 200000 in
theorem w_1124 : Cond.instanceMethod yX5_areKin ∈ tb := tb_mem 1124 (by decide +kernel) rfl
set_option maxRecDepth 200000 in
theorem w_1125 : Cond.selects "CityRoad$Persons" yX5_areKin yX5_areKin ∈ tb := tb_mem 1125 (by decide +kernel) rfl
set_option maxRecDepth 200000 in
theorem w_1123 : Cond.methodLink "CityRoad$Dealings" 41 yX5_areKin ∈ tb := tb_mem 1123 (by decide +kernel) rfl
set_option maxRecDepth 200000 in
theorem w_1105 : Cond.code yX11_isEarly cX11_isEarly 4 (some .boolean) ∈ tb := tb_mem 1105 (by rfl) rfl
set_option maxRecDepth 200000 in
theorem w_1104 : Cond.instanceMethod yX11_isEarly ∈ tb := tb_mem 1104 (by decide +kernel) rfl
set_option maxRecDepth 200000 in
theorem w_12 : Cond.selects "CityRoad" yX11_isEarly yX11_isEarly ∈ tb := tb_mem 12 (by decide +kernel) rfl
set_option maxRecDepth 200000 in
theorem w_1102 : Cond.methodLink "CityRoad" 359 yX11_isEarly ∈ tb := tb_mem 1102 (by decide +kernel) rfl
set_option maxRecDepth 200000 in
theorem w_1117 : Cond.code yX2_buyerHeard cX2_buyerHeard 4 (some .boolean) ∈ tb := tb_mem 1117 (by rfl) rfl
set_option maxRecDepth 200000 in
theorem w_1115 : Cond.instanceMethod yX2_buyerHeard ∈ tb := tb_mem 1115 (by decide +kernel) rfl
set_option maxRecDepth 200000 in
theorem w_1116 : Cond.selects "CityRoad$Dealings" yX2_buyerHeard yX2_buyerHeard ∈ tb := tb_mem 1116 (by decide +kernel) rfl
set_option maxRecDepth 200000 in
theorem w_1114 : Cond.methodLink "CityRoad" 362 yX2_buyerHeard ∈ tb := tb_mem 1114 (by decide +kernel) rfl
set_option maxRecDepth 200000 in
theorem w_1122 : Cond.code yX2_kinHeard cX2_kinHeard 5 (some .boolean) ∈ tb := tb_mem 1122 (by rfl) rfl
set_option maxRecDepth 200000 in
theorem w_1120 : Cond.instanceMethod yX2_kinHeard ∈ tb := tb_mem 1120 (by decide +kernel) rfl
set_option maxRecDepth 200000 in
theorem w_1121 : Cond.selects "CityRoad$Dealings" yX2_kinHeard yX2_kinHeard ∈ tb := tb_mem 1121 (by decide +kernel) rfl
set_option maxRecDepth 200000 in
theorem w_1119 : Cond.methodLink "CityRoad" 365 yX2_kinHeard ∈ tb := tb_mem 1119 (by decide +kernel) rfl
set_option maxRecDepth 200000 in
theorem w_830 : Cond.methodLink "CityRoad$Ground" 36 yX3_isWater ∈ tb := tb_mem 830 (by decide +kernel) rfl
set_option maxRecDepth 200000 in
theorem w_1184 : Cond.methodLink "CityRoad$Ground" 43 yX3_bit ∈ tb := tb_mem 1184 (by decide +kernel) rfl
set_option maxRecDepth 200000 in
theorem w_1197 : Cond.code yX1_firstIn cX1_firstIn 6 (some .int) ∈ tb := tb_mem 1197 (by rfl) rfl
set_option maxRecDepth 200000 in
theorem w_1196 : Cond.instanceMethod yX1_firstIn ∈ tb := tb_mem 1196 (by decide +kernel) rfl
set_option maxRecDepth 200000 in
theorem w_20 : Cond.selects "CityRoad$Buildings" yX1_firstIn yX1_firstIn ∈ tb := tb_mem 20 (by decide +kernel) rfl
set_option maxRecDepth 200000 in
theorem w_1194 : Cond.methodLink "CityRoad$Buildings" 97 yX1_firstIn ∈ tb := tb_mem 1194 (by decide +kernel) rfl
set_option maxRecDepth 200000 in
theorem w_1198 : Cond.methodLink "CityRoad$Buildings" 101 yX3_spread ∈ tb := tb_mem 1198 (by decide +kernel) rfl
set_option maxRecDepth 200000 in
theorem w_171 : Cond.fieldLink "CityRoad$Buildings" 48 "CityRoad$Buildings" "walkers" "[I" ∈ tb := tb_mem 171 (by decide +kernel) rfl
set_option maxRecDepth 200000 in
theorem w_1199 : Cond.constantLong "CityRoad$Buildings" 95 (-1) ∈ tb := tb_mem 1199 (by decide +kernel) rfl
set_option maxRecDepth 200000 in
theorem w_1193 : Cond.code yX1_nearest cX1_nearest 12 (some .int) ∈ tb := tb_mem 1193 (by rfl) rfl
set_option maxRecDepth 200000 in
theorem w_1192 : Cond.instanceMethod yX1_nearest ∈ tb := tb_mem 1192 (by decide +kernel) rfl
set_option maxRecDepth 200000 in
theorem w_19 : Cond.selects "CityRoad$Buildings" yX1_nearest yX1_nearest ∈ tb := tb_mem 19 (by decide +kernel) rfl
set_option maxRecDepth 200000 in
theorem w_1190 : Cond.methodLink "CityRoad$Buildings" 91 yX1_nearest ∈ tb := tb_mem 1190 (by decide +kernel) rfl
set_option maxRecDepth 200000 in
theorem w_159 : Cond.methodLink "CityRoad$Buildings" 51 yJ7_fill_53178 ∈ tb := tb_mem 159 (by decide +kernel) rfl
set_option maxRecDepth 200000 in
theorem w_474 : Cond.fieldLink "CityRoad" 337 "CityRoad" "set" "J" ∈ tb := tb_mem 474 (by decide +kernel) rfl
set_option maxRecDepth 200000 in
theorem w_1200 : Cond.methodLink "CityRoad" 393 yJ13_bitCount_95d88 ∈ tb := tb_mem 1200 (by decide +kernel) rfl
set_option maxRecDepth 200000 in
theorem w_1183 : Cond.code yX3_water cX3_water 4 (some .long) ∈ tb := tb_mem 1183 (by rfl) rfl
set_option maxRecDepth 200000 in
theorem w_1181 : Cond.instanceMethod yX3_water ∈ tb := tb_mem 1181 (by decide +kernel) rfl
set_option maxRecDepth 200000 in
theorem w_1182 : Cond.selects "CityRoad$Ground" yX3_water yX3_water ∈ tb := tb_mem 1182 (by decide +kernel) rfl
set_option maxRecDepth 200000 in
theorem w_1180 : Cond.methodLink "CityRoad" 383 yX3_water ∈ tb := tb_mem 1180 (by decide +kernel) rfl
set_option maxRecDepth 200000 in
theorem w_1189 : Cond.code yX1_shopsLeft cX1_shopsLeft 11 (some .long) ∈ tb := tb_mem 1189 (by rfl) rfl
set_option maxRecDepth 200000 in
theorem w_1187 : Cond.instanceMethod yX1_shopsLeft ∈ tb := tb_mem 1187 (by decide +kernel) rfl
set_option maxRecDepth 200000 in
theorem w_1188 : Cond.selects "CityRoad$Buildings" yX1_shopsLeft yX1_shopsLeft ∈ tb := tb_mem 1188 (by decide +kernel) rfl
set_option maxRecDepth 200000 in
theorem w_1186 : Cond.methodLink "CityRoad" 389 yX1_shopsLeft ∈ tb := tb_mem 1186 (by decide +kernel) rfl
set_option maxRecDepth 200000 in
theorem w_1178 : Cond.code yX1_off cX1_off 7 (some .long) ∈ tb := tb_mem 1178 (by rfl) rfl
set_option maxRecDepth 200000 in
theorem w_1176 : Cond.instanceMethod yX1_off ∈ tb := tb_mem 1176 (by decide +kernel) rfl
set_option maxRecDepth 200000 in
theorem w_1177 : Cond.selects "CityRoad$Buildings" yX1_off yX1_off ∈ tb := tb_mem 1177 (by decide +kernel) rfl
set_option maxRecDepth 200000 in
theorem w_1175 : Cond.methodLink "CityRoad" 379 yX1_off ∈ tb := tb_mem 1175 (by decide +kernel) rfl
set_option maxRecDepth 200000 in
theorem w_604 : Cond.fieldLink "CityRoad$Rules" 25 "CityRoad$Rules" "LETTERS" "[I" ∈ tb := tb_mem 604 (by decide +kernel) rfl
set_option maxRecDepth 200000 in
theorem w_546 : Cond.code yX8_holds cX8_holds 3 (some .boolean) ∈ tb := tb_mem 546 (by rfl) rfl
set_option maxRecDepth 200000 in
theorem w_544 : Cond.instanceMethod yX8_holds ∈ tb := tb_mem 544 (by decide +kernel) rfl
set_option maxRecDepth 200000 in
theorem w_545 : Cond.selects "CityRoad$Shelf" yX8_holds yX8_holds ∈ tb := tb_mem 545 (by decide +kernel) rfl
set_option maxRecDepth 200000 in
theorem w_609 : Cond.methodLink "CityRoad$Rules" 28 yX8_holds ∈ tb := tb_mem 609 (by decide +kernel) rfl
set_option maxRecDepth 200000 in
theorem w_597 : Cond.methodLink "CityRoad$Rules" 34 yX8_at ∈ tb := tb_mem 597 (by decide +kernel) rfl
set_option maxRecDepth 200000 in
theorem w_612 : Cond.code yX7_isDigit cX7_isDigit 1 (some .boolean) ∈ tb := tb_mem 612 (by rfl) rfl
set_option maxRecDepth 200000 in
theorem w_611 : Cond.static yX7_isDigit ∈ tb := tb_mem 611 (by decide +kernel) rfl
set_option maxRecDepth 200000 in
theorem w_610 : Cond.methodLink "CityRoad$Rules" 38 yX7_isDigit ∈ tb := tb_mem 610 (by decide +kernel) rfl
set_option maxRecDepth 200000 in
theorem w_593 : Cond.methodLink "CityRoad$Rules" 42 yX8_sizeOf ∈ tb := tb_mem 593 (by decide +kernel) rfl
set_option maxRecDepth 200000 in
theorem w_603 : Cond.code yX7_letterOf cX7_letterOf 2 (some .int) ∈ tb := tb_mem 603 (by rfl) rfl
set_option maxRecDepth 200000 in
theorem w_602 : Cond.static yX7_letterOf ∈ tb := tb_mem 602 (by decide +kernel) rfl
set_option maxRecDepth 200000 in
theorem w_601 : Cond.methodLink "CityRoad$Rules" 46 yX7_letterOf ∈ tb := tb_mem 601 (by decide +kernel) rfl
set_option maxRecDepth 200000 in
theorem w_608 : Cond.code yX7_digitsAt cX7_digitsAt 4 (some .int) ∈ tb := tb_mem 608 (by rfl) rfl
set_option maxRecDepth 200000 in
theorem w_607 : Cond.static yX7_digitsAt ∈ tb := tb_mem 607 (by decide +kernel) rfl
set_option maxRecDepth 200000 in
theorem w_606 : Cond.methodLink "CityRoad$Rules" 49 yX7_digitsAt ∈ tb := tb_mem 606 (by decide +kernel) rfl
set_option maxRecDepth 200000 in
theorem w_592 : Cond.code yX7_firstFault cX7_firstFault 5 (some .int) ∈ tb := tb_mem 592 (by rfl) rfl
set_option maxRecDepth 200000 in
theorem w_591 : Cond.static yX7_firstFault ∈ tb := tb_mem 591 (by decide +kernel) rfl
set_option maxRecDepth 200000 in
theorem w_590 : Cond.methodLink "CityRoad" 132 yX7_firstFault ∈ tb := tb_mem 590 (by decide +kernel) rfl
set_option maxRecDepth 200000 in
theorem w_770 : Cond.code yX7_isLetter cX7_isLetter 1 (some .boolean) ∈ tb := tb_mem 770 (by rfl) rfl
set_option maxRecDepth 200000 in
theorem w_769 : Cond.static yX7_isLetter ∈ tb := tb_mem 769 (by decide +kernel) rfl
set_option maxRecDepth 200000 in
theorem w_768 : Cond.methodLink "CityRoad" 209 yX7_isLetter ∈ tb := tb_mem 768 (by decide +kernel) rfl
set_option maxRecDepth 200000 in
theorem w_686 : Cond.code yX11_isDay cX11_isDay 1 (some .boolean) ∈ tb := tb_mem 686 (by rfl) rfl
set_option maxRecDepth 200000 in
theorem w_685 : Cond.static yX11_isDay ∈ tb := tb_mem 685 (by decide +kernel) rfl
set_option maxRecDepth 200000 in
theorem w_684 : Cond.methodLink "CityRoad" 180 yX11_isDay ∈ tb := tb_mem 684 (by decide +kernel) rfl
set_option maxRecDepth 200000 in
theorem w_259 : Cond.fieldLink "CityRoad$Marks" 39 "CityRoad$Marks" "amounts" "[I" ∈ tb := tb_mem 259 (by decide +kernel) rfl
set_option maxRecDepth 200000 in
theorem w_261 : Cond.fieldLink "CityRoad$Marks" 45 "CityRoad$Marks" "dates" "[I" ∈ tb := tb_mem 261 (by decide +kernel) rfl
set_option maxRecDepth 200000 in
theorem w_872 : Cond.code yX4_add cX4_add 5 (some .int) ∈ tb := tb_mem 872 (by rfl) rfl
set_option maxRecDepth 200000 in
theorem w_870 : Cond.instanceMethod yX4_add ∈ tb := tb_mem 870 (by decide +kernel) rfl
set_option maxRecDepth 200000 in
theorem w_871 : Cond.selects "CityRoad$Marks" yX4_add yX4_add ∈ tb := tb_mem 871 (by decide +kernel) rfl
set_option maxRecDepth 200000 in
theorem w_869 : Cond.methodLink "CityRoad" 235 yX4_add ∈ tb := tb_mem 869 (by decide +kernel) rfl
set_option maxRecDepth 200000 in
theorem w_1002 : Cond.code yX4_setGrant cX4_setGrant 4 none ∈ tb := tb_mem 1002 (by rfl) rfl
set_option maxRecDepth 200000 in
theorem w_1000 : Cond.instanceMethod yX4_setGrant ∈ tb := tb_mem 1000 (by decide +kernel) rfl
set_option maxRecDepth 200000 in
theorem w_1001 : Cond.selects "CityRoad$Marks" yX4_setGrant yX4_setGrant ∈ tb := tb_mem 1001 (by decide +kernel) rfl
set_option maxRecDepth 200000 in
theorem w_999 : Cond.methodLink "CityRoad" 314 yX4_setGrant ∈ tb := tb_mem 999 (by decide +kernel) rfl
set_option maxRecDepth 200000 in
theorem w_1241 : Cond.code yX4_dateOf cX4_dateOf 2 (some .int) ∈ tb := tb_mem 1241 (by rfl) rfl
set_option maxRecDepth 200000 in
theorem w_1239 : Cond.instanceMethod yX4_dateOf ∈ tb := tb_mem 1239 (by decide +kernel) rfl
set_option maxRecDepth 200000 in
theorem w_1240 : Cond.selects "CityRoad$Marks" yX4_dateOf yX4_dateOf ∈ tb := tb_mem 1240 (by decide +kernel) rfl
set_option maxRecDepth 200000 in
theorem w_1238 : Cond.methodLink "CityRoad" 436 yX4_dateOf ∈ tb := tb_mem 1238 (by decide +kernel) rfl
set_option maxRecDepth 200000 in
theorem w_1049 : Cond.code yX4_amountOf cX4_amountOf 2 (some .int) ∈ tb := tb_mem 1049 (by rfl) rfl
set_option maxRecDepth 200000 in
theorem w_1047 : Cond.instanceMethod yX4_amountOf ∈ tb := tb_mem 1047 (by decide +kernel) rfl
set_option maxRecDepth 200000 in
theorem w_1048 : Cond.selects "CityRoad$Marks" yX4_amountOf yX4_amountOf ∈ tb := tb_mem 1048 (by decide +kernel) rfl
set_option maxRecDepth 200000 in
theorem w_1046 : Cond.methodLink "CityRoad" 331 yX4_amountOf ∈ tb := tb_mem 1046 (by decide +kernel) rfl
set_option maxRecDepth 200000 in
theorem w_1318 : Cond.constantLong "CityRoad" 439 (10) ∈ tb := tb_mem 1318 (by decide +kernel) rfl
set_option maxRecDepth 200000 in
theorem w_413 : Cond.fieldLink "CityRoad" 434 "CityRoad$Acts" "number" "I" ∈ tb := tb_mem 413 (by decide +kernel) rfl
theorem gdX11_digest_31 : decode cX11_digest 31 = .ok (.aload_n 0, 1) := by decide +kernel
theorem gdX11_digest_32 : decode cX11_digest 32 = .ok (.getfield 26, 3) := by decide +kernel
theorem gdX11_digest_35 : decode cX11_digest 35 = .ok (.lload_n 1, 1) := by decide +kernel
theorem gdX11_digest_36 : decode cX11_digest 36 = .ok (.invokevirtual 487, 3) := by decide +kernel
theorem gdX11_digest_39 : decode cX11_digest 39 = .ok (.lstore_n 1, 1) := by decide +kernel
theorem gdX11_digest_40 : decode cX11_digest 40 = .ok (.aload_n 0, 1) := by decide +kernel
theorem gdX11_digest_41 : decode cX11_digest 41 = .ok (.getfield 33, 3) := by decide +kernel
theorem gdX11_digest_44 : decode cX11_digest 44 = .ok (.lload_n 1, 1) := by decide +kernel
theorem gdX11_digest_45 : decode cX11_digest 45 = .ok (.invokevirtual 490, 3) := by decide +kernel
theorem gdX11_digest_48 : decode cX11_digest 48 = .ok (.lstore_n 1, 1) := by decide +kernel
theorem gdX11_digest_49 : decode cX11_digest 49 = .ok (.aload_n 0, 1) := by decide +kernel
theorem gdX11_digest_50 : decode cX11_digest 50 = .ok (.getfield 40, 3) := by decide +kernel
theorem gdX11_digest_53 : decode cX11_digest 53 = .ok (.lload_n 1, 1) := by decide +kernel
theorem gdX11_digest_54 : decode cX11_digest 54 = .ok (.invokevirtual 491, 3) := by decide +kernel
theorem gdX11_digest_57 : decode cX11_digest 57 = .ok (.lstore_n 1, 1) := by decide +kernel
theorem gdX11_digest_58 : decode cX11_digest 58 = .ok (.aload_n 0, 1) := by decide +kernel
theorem gdX11_digest_59 : decode cX11_digest 59 = .ok (.getfield 45, 3) := by decide +kernel
theorem gdX11_digest_62 : decode cX11_digest 62 = .ok (.lload_n 1, 1) := by decide +kernel
theorem gdX11_digest_63 : decode cX11_digest 63 = .ok (.invokevirtual 492, 3) := by decide +kernel
theorem gdX11_digest_66 : decode cX11_digest 66 = .ok (.lstore_n 1, 1) := by decide +kernel
theorem gdX11_digest_67 : decode cX11_digest 67 = .ok (.aload_n 0, 1) := by decide +kernel
theorem gdX11_digest_68 : decode cX11_digest 68 = .ok (.getfield 52, 3) := by decide +kernel
theorem gdX11_digest_71 : decode cX11_digest 71 = .ok (.lload_n 1, 1) := by decide +kernel
theorem gdX11_digest_72 : decode cX11_digest 72 = .ok (.invokevirtual 493, 3) := by decide +kernel
theorem gdX11_digest_75 : decode cX11_digest 75 = .ok (.lstore_n 1, 1) := by decide +kernel
theorem gdX11_digest_76 : decode cX11_digest 76 = .ok (.aload_n 0, 1) := by decide +kernel
theorem gdX11_digest_77 : decode cX11_digest 77 = .ok (.getfield 12, 3) := by decide +kernel
theorem gdX11_digest_80 : decode cX11_digest 80 = .ok (.lload_n 1, 1) := by decide +kernel
theorem gdX11_digest_81 : decode cX11_digest 81 = .ok (.invokevirtual 494, 3) := by decide +kernel
theorem gdX11_digest_84 : decode cX11_digest 84 = .ok (.lstore_n 1, 1) := by decide +kernel
theorem gdX11_digest_85 : decode cX11_digest 85 = .ok (.aload_n 0, 1) := by decide +kernel
theorem gdX11_digest_86 : decode cX11_digest 86 = .ok (.getfield 20, 3) := by decide +kernel
theorem gdX11_digest_89 : decode cX11_digest 89 = .ok (.lload_n 1, 1) := by decide +kernel
theorem gdX11_digest_90 : decode cX11_digest 90 = .ok (.invokevirtual 494, 3) := by decide +kernel
theorem gdX11_digest_93 : decode cX11_digest 93 = .ok (.lreturn, 1) := by decide +kernel
theorem gdX11_digest_6 : decode cX11_digest 6 = .ok (.iload_n 3, 1) := by decide +kernel
theorem gdX11_digest_7 : decode cX11_digest 7 = .ok (.bipush 9, 2) := by decide +kernel
theorem gdX11_digest_9 : decode cX11_digest 9 = .ok (.if_icmp .gt 22, 3) := by decide +kernel
theorem gdX11_digest_12 : decode cX11_digest 12 = .ok (.ldc2_w 482, 3) := by decide +kernel
theorem gdX11_digest_15 : decode cX11_digest 15 = .ok (.lload_n 1, 1) := by decide +kernel
theorem gdX11_digest_16 : decode cX11_digest 16 = .ok (.lmul, 1) := by decide +kernel
theorem gdX11_digest_17 : decode cX11_digest 17 = .ok (.aload_n 0, 1) := by decide +kernel
theorem gdX11_digest_18 : decode cX11_digest 18 = .ok (.iload_n 3, 1) := by decide +kernel
theorem gdX11_digest_19 : decode cX11_digest 19 = .ok (.invokevirtual 484, 3) := by decide +kernel
theorem gdX11_digest_22 : decode cX11_digest 22 = .ok (.i2l, 1) := by decide +kernel
theorem gdX11_digest_23 : decode cX11_digest 23 = .ok (.ladd, 1) := by decide +kernel
theorem gdX11_digest_24 : decode cX11_digest 24 = .ok (.lstore_n 1, 1) := by decide +kernel
theorem gdX11_digest_25 : decode cX11_digest 25 = .ok (.iinc 3 1, 3) := by decide +kernel
theorem gdX11_digest_28 : decode cX11_digest 28 = .ok (.goto (-22), 3) := by decide +kernel
theorem gdX11_digest_0 : decode cX11_digest 0 = .ok (.ldc2_w 480, 3) := by decide +kernel
theorem gdX11_digest_3 : decode cX11_digest 3 = .ok (.lstore_n 1, 1) := by decide +kernel
theorem gdX11_digest_4 : decode cX11_digest 4 = .ok (.iconst 0, 1) := by decide +kernel
theorem gdX11_digest_5 : decode cX11_digest 5 = .ok (.istore_n 3, 1) := by decide +kernel
theorem gdX4_shownOn_0 : decode cX4_shownOn 0 = .ok (.aload_n 0, 1) := by decide +kernel
theorem gdX4_shownOn_1 : decode cX4_shownOn 1 = .ok (.getfield 36, 3) := by decide +kernel
theorem gdX4_shownOn_4 : decode cX4_shownOn 4 = .ok (.iload_n 1, 1) := by decide +kernel
theorem gdX4_shownOn_5 : decode cX4_shownOn 5 = .ok (.iaload, 1) := by decide +kernel
theorem gdX4_shownOn_6 : decode cX4_shownOn 6 = .ok (.ireturn, 1) := by decide +kernel
theorem gdX2_dayOfBuy_0 : decode cX2_dayOfBuy 0 = .ok (.aload_n 0, 1) := by decide +kernel
theorem gdX2_dayOfBuy_1 : decode cX2_dayOfBuy 1 = .ok (.getfield 18, 3) := by decide +kernel
theorem gdX2_dayOfBuy_4 : decode cX2_dayOfBuy 4 = .ok (.iload_n 1, 1) := by decide +kernel
theorem gdX2_dayOfBuy_5 : decode cX2_dayOfBuy 5 = .ok (.iaload, 1) := by decide +kernel
theorem gdX2_dayOfBuy_6 : decode cX2_dayOfBuy 6 = .ok (.ireturn, 1) := by decide +kernel
theorem gdX2_bought_0 : decode cX2_bought 0 = .ok (.aload_n 0, 1) := by decide +kernel
theorem gdX2_bought_1 : decode cX2_bought 1 = .ok (.getfield 11, 3) := by decide +kernel
theorem gdX2_bought_4 : decode cX2_bought 4 = .ok (.iload_n 1, 1) := by decide +kernel
theorem gdX2_bought_5 : decode cX2_bought 5 = .ok (.iaload, 1) := by decide +kernel
theorem gdX2_bought_6 : decode cX2_bought 6 = .ok (.ireturn, 1) := by decide +kernel
theorem gdX1_cellOfOne_0 : decode cX1_cellOfOne 0 = .ok (.aload_n 0, 1) := by decide +kernel
theorem gdX1_cellOfOne_1 : decode cX1_cellOfOne 1 = .ok (.getfield 11, 3) := by decide +kernel
theorem gdX1_cellOfOne_4 : decode cX1_cellOfOne 4 = .ok (.iload_n 1, 1) := by decide +kernel
theorem gdX1_cellOfOne_5 : decode cX1_cellOfOne 5 = .ok (.iaload, 1) := by decide +kernel
theorem gdX1_cellOfOne_6 : decode cX1_cellOfOne 6 = .ok (.ireturn, 1) := by decide +kernel
theorem gdX11_isEarly_29 : decode cX11_isEarly 29 = .ok (.aload_n 0, 1) := by decide +kernel
theorem gdX11_isEarly_30 : decode cX11_isEarly 30 = .ok (.getfield 52, 3) := by decide +kernel
theorem gdX11_isEarly_33 : decode cX11_isEarly 33 = .ok (.iload_n 2, 1) := by decide +kernel
theorem gdX11_isEarly_34 : decode cX11_isEarly 34 = .ok (.invokevirtual 254, 3) := by decide +kernel
theorem gdX11_isEarly_37 : decode cX11_isEarly 37 = .ok (.aload_n 0, 1) := by decide +kernel
theorem gdX11_isEarly_38 : decode cX11_isEarly 38 = .ok (.getfield 33, 3) := by decide +kernel
theorem gdX11_isEarly_41 : decode cX11_isEarly 41 = .ok (.aload_n 0, 1) := by decide +kernel
theorem gdX11_isEarly_42 : decode cX11_isEarly 42 = .ok (.getfield 59, 3) := by decide +kernel
theorem gdX11_isEarly_45 : decode cX11_isEarly 45 = .ok (.iload_n 1, 1) := by decide +kernel
theorem gdX11_isEarly_46 : decode cX11_isEarly 46 = .ok (.invokevirtual 518, 3) := by decide +kernel
theorem gdX11_isEarly_49 : decode cX11_isEarly 49 = .ok (.invokevirtual 282, 3) := by decide +kernel
theorem gdX11_isEarly_52 : decode cX11_isEarly 52 = .ok (.invokestatic 262, 3) := by decide +kernel
theorem gdX11_isEarly_55 : decode cX11_isEarly 55 = .ok (.ireturn, 1) := by decide +kernel
theorem gdX11_isEarly_0 : decode cX11_isEarly 0 = .ok (.aload_n 0, 1) := by decide +kernel
theorem gdX11_isEarly_1 : decode cX11_isEarly 1 = .ok (.getfield 52, 3) := by decide +kernel
theorem gdX11_isEarly_4 : decode cX11_isEarly 4 = .ok (.iload_n 2, 1) := by decide +kernel
theorem gdX11_isEarly_5 : decode cX11_isEarly 5 = .ok (.invokevirtual 272, 3) := by decide +kernel
theorem gdX11_isEarly_8 : decode cX11_isEarly 8 = .ok (.istore_n 3, 1) := by decide +kernel
theorem gdX11_isEarly_9 : decode cX11_isEarly 9 = .ok (.iload_n 3, 1) := by decide +kernel
theorem gdX11_isEarly_10 : decode cX11_isEarly 10 = .ok (.bipush (-9), 2) := by decide +kernel
theorem gdX11_isEarly_12 : decode cX11_isEarly 12 = .ok (.if_icmp .eq 17, 3) := by decide +kernel
theorem gdX11_isEarly_15 : decode cX11_isEarly 15 = .ok (.aload_n 0, 1) := by decide +kernel
theorem gdX11_isEarly_16 : decode cX11_isEarly 16 = .ok (.getfield 59, 3) := by decide +kernel
theorem gdX11_isEarly_19 : decode cX11_isEarly 19 = .ok (.iload_n 1, 1) := by decide +kernel
theorem gdX11_isEarly_20 : decode cX11_isEarly 20 = .ok (.invokevirtual 515, 3) := by decide +kernel
theorem gdX11_isEarly_23 : decode cX11_isEarly 23 = .ok (.iload_n 3, 1) := by decide +kernel
theorem gdX11_isEarly_24 : decode cX11_isEarly 24 = .ok (.if_icmp .lt 5, 3) := by decide +kernel
theorem gdX11_isEarly_27 : decode cX11_isEarly 27 = .ok (.iconst 0, 1) := by decide +kernel
theorem gdX11_isEarly_28 : decode cX11_isEarly 28 = .ok (.ireturn, 1) := by decide +kernel
theorem gdX2_heardOn_30 : decode cX2_heardOn 30 = .ok (.aload_n 0, 1) := by decide +kernel
theorem gdX2_heardOn_31 : decode cX2_heardOn 31 = .ok (.getfield 27, 3) := by decide +kernel
theorem gdX2_heardOn_34 : decode cX2_heardOn 34 = .ok (.iload_n 3, 1) := by decide +kernel
theorem gdX2_heardOn_35 : decode cX2_heardOn 35 = .ok (.iaload, 1) := by decide +kernel
theorem gdX2_heardOn_36 : decode cX2_heardOn 36 = .ok (.ireturn, 1) := by decide +kernel
theorem gdX2_heardOn_43 : decode cX2_heardOn 43 = .ok (.bipush (-9), 2) := by decide +kernel
theorem gdX2_heardOn_45 : decode cX2_heardOn 45 = .ok (.ireturn, 1) := by decide +kernel
theorem gdX2_heardOn_37 : decode cX2_heardOn 37 = .ok (.iinc 3 1, 3) := by decide +kernel
theorem gdX2_heardOn_40 : decode cX2_heardOn 40 = .ok (.goto (-38), 3) := by decide +kernel
theorem gdX2_heardOn_2 : decode cX2_heardOn 2 = .ok (.iload_n 3, 1) := by decide +kernel
theorem gdX2_heardOn_3 : decode cX2_heardOn 3 = .ok (.aload_n 0, 1) := by decide +kernel
theorem gdX2_heardOn_4 : decode cX2_heardOn 4 = .ok (.getfield 34, 3) := by decide +kernel
theorem gdX2_heardOn_7 : decode cX2_heardOn 7 = .ok (.if_icmp .ge 36, 3) := by decide +kernel
theorem gdX2_heardOn_10 : decode cX2_heardOn 10 = .ok (.aload_n 0, 1) := by decide +kernel
theorem gdX2_heardOn_11 : decode cX2_heardOn 11 = .ok (.getfield 21, 3) := by decide +kernel
theorem gdX2_heardOn_14 : decode cX2_heardOn 14 = .ok (.iload_n 3, 1) := by decide +kernel
theorem gdX2_heardOn_15 : decode cX2_heardOn 15 = .ok (.iaload, 1) := by decide +kernel
theorem gdX2_heardOn_16 : decode cX2_heardOn 16 = .ok (.iload_n 1, 1) := by decide +kernel
theorem gdX2_heardOn_17 : decode cX2_heardOn 17 = .ok (.if_icmp .ne 20, 3) := by decide +kernel
theorem gdX2_heardOn_20 : decode cX2_heardOn 20 = .ok (.aload_n 0, 1) := by decide +kernel
theorem gdX2_heardOn_21 : decode cX2_heardOn 21 = .ok (.getfield 24, 3) := by decide +kernel
theorem gdX2_heardOn_24 : decode cX2_heardOn 24 = .ok (.iload_n 3, 1) := by decide +kernel
theorem gdX2_heardOn_25 : decode cX2_heardOn 25 = .ok (.iaload, 1) := by decide +kernel
theorem gdX2_heardOn_26 : decode cX2_heardOn 26 = .ok (.iload_n 2, 1) := by decide +kernel
theorem gdX2_heardOn_27 : decode cX2_heardOn 27 = .ok (.if_icmp .ne 10, 3) := by decide +kernel
theorem gdX2_heardOn_0 : decode cX2_heardOn 0 = .ok (.iconst 0, 1) := by decide +kernel
theorem gdX2_heardOn_1 : decode cX2_heardOn 1 = .ok (.istore_n 3, 1) := by decide +kernel
theorem gdX2_buyerHeard_33 : decode cX2_buyerHeard 33 = .ok (.ireturn, 1) := by decide +kernel
theorem gdX2_buyerHeard_32 : decode cX2_buyerHeard 32 = .ok (.iconst 0, 1) := by decide +kernel
theorem gdX2_buyerHeard_0 : decode cX2_buyerHeard 0 = .ok (.aload_n 0, 1) := by decide +kernel
theorem gdX2_buyerHeard_1 : decode cX2_buyerHeard 1 = .ok (.aload_n 0, 1) := by decide +kernel
theorem gdX2_buyerHeard_2 : decode cX2_buyerHeard 2 = .ok (.getfield 15, 3) := by decide +kernel
theorem gdX2_buyerHeard_5 : decode cX2_buyerHeard 5 = .ok (.iload_n 1, 1) := by decide +kernel
theorem gdX2_buyerHeard_6 : decode cX2_buyerHeard 6 = .ok (.iaload, 1) := by decide +kernel
theorem gdX2_buyerHeard_7 : decode cX2_buyerHeard 7 = .ok (.iload_n 2, 1) := by decide +kernel
theorem gdX2_buyerHeard_8 : decode cX2_buyerHeard 8 = .ok (.invokevirtual 37, 3) := by decide +kernel
theorem gdX2_buyerHeard_11 : decode cX2_buyerHeard 11 = .ok (.istore_n 3, 1) := by decide +kernel
theorem gdX2_buyerHeard_12 : decode cX2_buyerHeard 12 = .ok (.iload_n 3, 1) := by decide +kernel
theorem gdX2_buyerHeard_13 : decode cX2_buyerHeard 13 = .ok (.bipush (-9), 2) := by decide +kernel
theorem gdX2_buyerHeard_15 : decode cX2_buyerHeard 15 = .ok (.if_icmp .eq 17, 3) := by decide +kernel
theorem gdX2_buyerHeard_18 : decode cX2_buyerHeard 18 = .ok (.iload_n 3, 1) := by decide +kernel
theorem gdX2_buyerHeard_19 : decode cX2_buyerHeard 19 = .ok (.aload_n 0, 1) := by decide +kernel
theorem gdX2_buyerHeard_20 : decode cX2_buyerHeard 20 = .ok (.getfield 18, 3) := by decide +kernel
theorem gdX2_buyerHeard_23 : decode cX2_buyerHeard 23 = .ok (.iload_n 1, 1) := by decide +kernel
theorem gdX2_buyerHeard_24 : decode cX2_buyerHeard 24 = .ok (.iaload, 1) := by decide +kernel
theorem gdX2_buyerHeard_25 : decode cX2_buyerHeard 25 = .ok (.if_icmp .gt 7, 3) := by decide +kernel
theorem gdX2_buyerHeard_28 : decode cX2_buyerHeard 28 = .ok (.iconst 1, 1) := by decide +kernel
theorem gdX2_buyerHeard_29 : decode cX2_buyerHeard 29 = .ok (.goto 4, 3) := by decide +kernel
theorem gdX5_areKin_20 : decode cX5_areKin 20 = .ok (.ireturn, 1) := by decide +kernel
theorem gdX5_areKin_0 : decode cX5_areKin 0 = .ok (.aload_n 0, 1) := by decide +kernel
theorem gdX5_areKin_1 : decode cX5_areKin 1 = .ok (.getfield 22, 3) := by decide +kernel
theorem gdX5_areKin_4 : decode cX5_areKin 4 = .ok (.iload_n 1, 1) := by decide +kernel
theorem gdX5_areKin_5 : decode cX5_areKin 5 = .ok (.iaload, 1) := by decide +kernel
theorem gdX5_areKin_6 : decode cX5_areKin 6 = .ok (.aload_n 0, 1) := by decide +kernel
theorem gdX5_areKin_7 : decode cX5_areKin 7 = .ok (.getfield 22, 3) := by decide +kernel
theorem gdX5_areKin_10 : decode cX5_areKin 10 = .ok (.iload_n 2, 1) := by decide +kernel
theorem gdX5_areKin_11 : decode cX5_areKin 11 = .ok (.iaload, 1) := by decide +kernel
theorem gdX5_areKin_12 : decode cX5_areKin 12 = .ok (.if_icmp .ne 7, 3) := by decide +kernel
theorem gdX5_areKin_19 : decode cX5_areKin 19 = .ok (.iconst 0, 1) := by decide +kernel
theorem gdX5_areKin_15 : decode cX5_areKin 15 = .ok (.iconst 1, 1) := by decide +kernel
theorem gdX5_areKin_16 : decode cX5_areKin 16 = .ok (.goto 4, 3) := by decide +kernel
theorem gdX2_kinHeard_62 : decode cX2_kinHeard 62 = .ok (.iconst 1, 1) := by decide +kernel
theorem gdX2_kinHeard_63 : decode cX2_kinHeard 63 = .ok (.ireturn, 1) := by decide +kernel
theorem gdX2_kinHeard_70 : decode cX2_kinHeard 70 = .ok (.iconst 0, 1) := by decide +kernel
theorem gdX2_kinHeard_71 : decode cX2_kinHeard 71 = .ok (.ireturn, 1) := by decide +kernel
theorem gdX2_kinHeard_64 : decode cX2_kinHeard 64 = .ok (.iinc 4 1, 3) := by decide +kernel
theorem gdX2_kinHeard_67 : decode cX2_kinHeard 67 = .ok (.goto (-64), 3) := by decide +kernel
theorem gdX2_kinHeard_3 : decode cX2_kinHeard 3 = .ok (.iload 4, 2) := by decide +kernel
theorem gdX2_kinHeard_5 : decode cX2_kinHeard 5 = .ok (.aload_n 0, 1) := by decide +kernel
theorem gdX2_kinHeard_6 : decode cX2_kinHeard 6 = .ok (.getfield 34, 3) := by decide +kernel
theorem gdX2_kinHeard_9 : decode cX2_kinHeard 9 = .ok (.if_icmp .ge 61, 3) := by decide +kernel
theorem gdX2_kinHeard_12 : decode cX2_kinHeard 12 = .ok (.aload_n 0, 1) := by decide +kernel
theorem gdX2_kinHeard_13 : decode cX2_kinHeard 13 = .ok (.getfield 24, 3) := by decide +kernel
theorem gdX2_kinHeard_16 : decode cX2_kinHeard 16 = .ok (.iload 4, 2) := by decide +kernel
theorem gdX2_kinHeard_18 : decode cX2_kinHeard 18 = .ok (.iaload, 1) := by decide +kernel
theorem gdX2_kinHeard_19 : decode cX2_kinHeard 19 = .ok (.iload_n 3, 1) := by decide +kernel
theorem gdX2_kinHeard_20 : decode cX2_kinHeard 20 = .ok (.if_icmp .ne 44, 3) := by decide +kernel
theorem gdX2_kinHeard_23 : decode cX2_kinHeard 23 = .ok (.aload_n 0, 1) := by decide +kernel
theorem gdX2_kinHeard_24 : decode cX2_kinHeard 24 = .ok (.getfield 27, 3) := by decide +kernel
theorem gdX2_kinHeard_27 : decode cX2_kinHeard 27 = .ok (.iload 4, 2) := by decide +kernel
theorem gdX2_kinHeard_29 : decode cX2_kinHeard 29 = .ok (.iaload, 1) := by decide +kernel
theorem gdX2_kinHeard_30 : decode cX2_kinHeard 30 = .ok (.aload_n 0, 1) := by decide +kernel
theorem gdX2_kinHeard_31 : decode cX2_kinHeard 31 = .ok (.getfield 18, 3) := by decide +kernel
theorem gdX2_kinHeard_34 : decode cX2_kinHeard 34 = .ok (.iload_n 2, 1) := by decide +kernel
theorem gdX2_kinHeard_35 : decode cX2_kinHeard 35 = .ok (.iaload, 1) := by decide +kernel
theorem gdX2_kinHeard_36 : decode cX2_kinHeard 36 = .ok (.if_icmp .le 6, 3) := by decide +kernel
theorem gdX2_kinHeard_42 : decode cX2_kinHeard 42 = .ok (.aload_n 1, 1) := by decide +kernel
theorem gdX2_kinHeard_43 : decode cX2_kinHeard 43 = .ok (.aload_n 0, 1) := by decide +kernel
theorem gdX2_kinHeard_44 : decode cX2_kinHeard 44 = .ok (.getfield 21, 3) := by decide +kernel
theorem gdX2_kinHeard_47 : decode cX2_kinHeard 47 = .ok (.iload 4, 2) := by decide +kernel
theorem gdX2_kinHeard_49 : decode cX2_kinHeard 49 = .ok (.iaload, 1) := by decide +kernel
theorem gdX2_kinHeard_50 : decode cX2_kinHeard 50 = .ok (.aload_n 0, 1) := by decide +kernel
theorem gdX2_kinHeard_51 : decode cX2_kinHeard 51 = .ok (.getfield 15, 3) := by decide +kernel
theorem gdX2_kinHeard_54 : decode cX2_kinHeard 54 = .ok (.iload_n 2, 1) := by decide +kernel
theorem gdX2_kinHeard_55 : decode cX2_kinHeard 55 = .ok (.iaload, 1) := by decide +kernel
theorem gdX2_kinHeard_56 : decode cX2_kinHeard 56 = .ok (.invokevirtual 41, 3) := by decide +kernel
theorem gdX2_kinHeard_59 : decode cX2_kinHeard 59 = .ok (.ifCond .eq 5, 3) := by decide +kernel
theorem gdX2_kinHeard_39 : decode cX2_kinHeard 39 = .ok (.goto 25, 3) := by decide +kernel
theorem gdX2_kinHeard_0 : decode cX2_kinHeard 0 = .ok (.iconst 0, 1) := by decide +kernel
theorem gdX2_kinHeard_1 : decode cX2_kinHeard 1 = .ok (.istore 4, 2) := by decide +kernel
theorem gdX11_early_108 : decode cX11_early 108 = .ok (.bipush 100, 2) := by decide +kernel
theorem gdX11_early_110 : decode cX11_early 110 = .ok (.iload_n 2, 1) := by decide +kernel
theorem gdX11_early_111 : decode cX11_early 111 = .ok (.imul, 1) := by decide +kernel
theorem gdX11_early_112 : decode cX11_early 112 = .ok (.iload_n 3, 1) := by decide +kernel
theorem gdX11_early_113 : decode cX11_early 113 = .ok (.iadd, 1) := by decide +kernel
theorem gdX11_early_114 : decode cX11_early 114 = .ok (.ireturn, 1) := by decide +kernel
theorem gdX11_early_102 : decode cX11_early 102 = .ok (.iinc 4 1, 3) := by decide +kernel
theorem gdX11_early_105 : decode cX11_early 105 = .ok (.goto (-67), 3) := by decide +kernel
theorem gdX11_early_38 : decode cX11_early 38 = .ok (.iload 4, 2) := by decide +kernel
theorem gdX11_early_40 : decode cX11_early 40 = .ok (.aload_n 0, 1) := by decide +kernel
theorem gdX11_early_41 : decode cX11_early 41 = .ok (.getfield 59, 3) := by decide +kernel
theorem gdX11_early_44 : decode cX11_early 44 = .ok (.invokevirtual 341, 3) := by decide +kernel
theorem gdX11_early_47 : decode cX11_early 47 = .ok (.if_icmp .ge 61, 3) := by decide +kernel
theorem gdX11_early_50 : decode cX11_early 50 = .ok (.aload_n 0, 1) := by decide +kernel
theorem gdX11_early_51 : decode cX11_early 51 = .ok (.iload 4, 2) := by decide +kernel
theorem gdX11_early_53 : decode cX11_early 53 = .ok (.iload_n 1, 1) := by decide +kernel
theorem gdX11_early_54 : decode cX11_early 54 = .ok (.invokevirtual 359, 3) := by decide +kernel
theorem gdX11_early_57 : decode cX11_early 57 = .ok (.ifCond .ne 6, 3) := by decide +kernel
theorem gdX11_early_63 : decode cX11_early 63 = .ok (.aload_n 0, 1) := by decide +kernel
theorem gdX11_early_64 : decode cX11_early 64 = .ok (.getfield 59, 3) := by decide +kernel
theorem gdX11_early_67 : decode cX11_early 67 = .ok (.iload 4, 2) := by decide +kernel
theorem gdX11_early_69 : decode cX11_early 69 = .ok (.iload_n 1, 1) := by decide +kernel
theorem gdX11_early_70 : decode cX11_early 70 = .ok (.invokevirtual 362, 3) := by decide +kernel
theorem gdX11_early_73 : decode cX11_early 73 = .ok (.ifCond .eq 9, 3) := by decide +kernel
theorem gdX11_early_82 : decode cX11_early 82 = .ok (.aload_n 0, 1) := by decide +kernel
theorem gdX11_early_83 : decode cX11_early 83 = .ok (.getfield 59, 3) := by decide +kernel
theorem gdX11_early_86 : decode cX11_early 86 = .ok (.aload_n 0, 1) := by decide +kernel
theorem gdX11_early_87 : decode cX11_early 87 = .ok (.getfield 40, 3) := by decide +kernel
theorem gdX11_early_90 : decode cX11_early 90 = .ok (.iload 4, 2) := by decide +kernel
theorem gdX11_early_92 : decode cX11_early 92 = .ok (.iload_n 1, 1) := by decide +kernel
theorem gdX11_early_93 : decode cX11_early 93 = .ok (.invokevirtual 365, 3) := by decide +kernel
theorem gdX11_early_96 : decode cX11_early 96 = .ok (.ifCond .eq 6, 3) := by decide +kernel
theorem gdX11_early_99 : decode cX11_early 99 = .ok (.iinc 3 1, 3) := by decide +kernel
theorem gdX11_early_76 : decode cX11_early 76 = .ok (.iinc 2 1, 3) := by decide +kernel
theorem gdX11_early_79 : decode cX11_early 79 = .ok (.goto 23, 3) := by decide +kernel
theorem gdX11_early_60 : decode cX11_early 60 = .ok (.goto 42, 3) := by decide +kernel
theorem gdX11_early_0 : decode cX11_early 0 = .ok (.aload_n 0, 1) := by decide +kernel
theorem gdX11_early_1 : decode cX11_early 1 = .ok (.getfield 52, 3) := by decide +kernel
theorem gdX11_early_4 : decode cX11_early 4 = .ok (.iload_n 1, 1) := by decide +kernel
theorem gdX11_early_5 : decode cX11_early 5 = .ok (.invokevirtual 250, 3) := by decide +kernel
theorem gdX11_early_8 : decode cX11_early 8 = .ok (.ifCond .ne 5, 3) := by decide +kernel
theorem gdX11_early_13 : decode cX11_early 13 = .ok (.aload_n 0, 1) := by decide +kernel
theorem gdX11_early_14 : decode cX11_early 14 = .ok (.getfield 52, 3) := by decide +kernel
theorem gdX11_early_17 : decode cX11_early 17 = .ok (.iload_n 1, 1) := by decide +kernel
theorem gdX11_early_18 : decode cX11_early 18 = .ok (.iconst 1, 1) := by decide +kernel
theorem gdX11_early_19 : decode cX11_early 19 = .ok (.invokevirtual 251, 3) := by decide +kernel
theorem gdX11_early_22 : decode cX11_early 22 = .ok (.ifCond .ne 9, 3) := by decide +kernel
theorem gdX11_early_31 : decode cX11_early 31 = .ok (.iconst 0, 1) := by decide +kernel
theorem gdX11_early_32 : decode cX11_early 32 = .ok (.istore_n 2, 1) := by decide +kernel
theorem gdX11_early_33 : decode cX11_early 33 = .ok (.iconst 0, 1) := by decide +kernel
theorem gdX11_early_34 : decode cX11_early 34 = .ok (.istore_n 3, 1) := by decide +kernel
theorem gdX11_early_35 : decode cX11_early 35 = .ok (.iconst 0, 1) := by decide +kernel
theorem gdX11_early_36 : decode cX11_early 36 = .ok (.istore 4, 2) := by decide +kernel
theorem gdX11_early_25 : decode cX11_early 25 = .ok (.aload_n 0, 1) := by decide +kernel
theorem gdX11_early_26 : decode cX11_early 26 = .ok (.iconst 3, 1) := by decide +kernel
theorem gdX11_early_27 : decode cX11_early 27 = .ok (.invokevirtual 99, 3) := by decide +kernel
theorem gdX11_early_30 : decode cX11_early 30 = .ok (.ireturn, 1) := by decide +kernel
theorem gdX11_early_11 : decode cX11_early 11 = .ok (.iconst (-1), 1) := by decide +kernel
theorem gdX11_early_12 : decode cX11_early 12 = .ok (.ireturn, 1) := by decide +kernel
theorem gdX1_off_54 : decode cX1_off 54 = .ok (.lload 4, 2) := by decide +kernel
theorem gdX1_off_56 : decode cX1_off 56 = .ok (.lreturn, 1) := by decide +kernel
theorem gdX1_off_48 : decode cX1_off 48 = .ok (.iinc 6 1, 3) := by decide +kernel
theorem gdX1_off_51 : decode cX1_off 51 = .ok (.goto (-45), 3) := by decide +kernel
theorem gdX1_off_6 : decode cX1_off 6 = .ok (.iload 6, 2) := by decide +kernel
theorem gdX1_off_8 : decode cX1_off 8 = .ok (.aload_n 0, 1) := by decide +kernel
theorem gdX1_off_9 : decode cX1_off 9 = .ok (.getfield 58, 3) := by decide +kernel
theorem gdX1_off_12 : decode cX1_off 12 = .ok (.if_icmp .ge 42, 3) := by decide +kernel
theorem gdX1_off_15 : decode cX1_off 15 = .ok (.aload_n 0, 1) := by decide +kernel
theorem gdX1_off_16 : decode cX1_off 16 = .ok (.iload 6, 2) := by decide +kernel
theorem gdX1_off_18 : decode cX1_off 18 = .ok (.iload_n 3, 1) := by decide +kernel
theorem gdX1_off_19 : decode cX1_off 19 = .ok (.invokevirtual 69, 3) := by decide +kernel
theorem gdX1_off_22 : decode cX1_off 22 = .ok (.ifCond .eq 26, 3) := by decide +kernel
theorem gdX1_off_25 : decode cX1_off 25 = .ok (.lload_n 1, 1) := by decide +kernel
theorem gdX1_off_26 : decode cX1_off 26 = .ok (.aload_n 0, 1) := by decide +kernel
theorem gdX1_off_27 : decode cX1_off 27 = .ok (.getfield 11, 3) := by decide +kernel
theorem gdX1_off_30 : decode cX1_off 30 = .ok (.iload 6, 2) := by decide +kernel
theorem gdX1_off_32 : decode cX1_off 32 = .ok (.iaload, 1) := by decide +kernel
theorem gdX1_off_33 : decode cX1_off 33 = .ok (.invokestatic 87, 3) := by decide +kernel
theorem gdX1_off_36 : decode cX1_off 36 = .ok (.ifCond .ne 12, 3) := by decide +kernel
theorem gdX1_off_39 : decode cX1_off 39 = .ok (.lload 4, 2) := by decide +kernel
theorem gdX1_off_41 : decode cX1_off 41 = .ok (.lconst 1, 1) := by decide +kernel
theorem gdX1_off_42 : decode cX1_off 42 = .ok (.iload 6, 2) := by decide +kernel
theorem gdX1_off_44 : decode cX1_off 44 = .ok (.lshl, 1) := by decide +kernel
theorem gdX1_off_45 : decode cX1_off 45 = .ok (.lor, 1) := by decide +kernel
theorem gdX1_off_46 : decode cX1_off 46 = .ok (.lstore 4, 2) := by decide +kernel
theorem gdX1_off_0 : decode cX1_off 0 = .ok (.lconst 0, 1) := by decide +kernel
theorem gdX1_off_1 : decode cX1_off 1 = .ok (.lstore 4, 2) := by decide +kernel
theorem gdX1_off_3 : decode cX1_off 3 = .ok (.iconst 0, 1) := by decide +kernel
theorem gdX1_off_4 : decode cX1_off 4 = .ok (.istore 6, 2) := by decide +kernel
theorem gdX3_water_31 : decode cX3_water 31 = .ok (.lload_n 1, 1) := by decide +kernel
theorem gdX3_water_32 : decode cX3_water 32 = .ok (.lreturn, 1) := by decide +kernel
theorem gdX3_water_25 : decode cX3_water 25 = .ok (.iinc 3 1, 3) := by decide +kernel
theorem gdX3_water_28 : decode cX3_water 28 = .ok (.goto (-24), 3) := by decide +kernel
theorem gdX3_water_4 : decode cX3_water 4 = .ok (.iload_n 3, 1) := by decide +kernel
theorem gdX3_water_5 : decode cX3_water 5 = .ok (.bipush 64, 2) := by decide +kernel
theorem gdX3_water_7 : decode cX3_water 7 = .ok (.if_icmp .ge 24, 3) := by decide +kernel
theorem gdX3_water_10 : decode cX3_water 10 = .ok (.aload_n 0, 1) := by decide +kernel
theorem gdX3_water_11 : decode cX3_water 11 = .ok (.iload_n 3, 1) := by decide +kernel
theorem gdX3_water_12 : decode cX3_water 12 = .ok (.invokevirtual 36, 3) := by decide +kernel
theorem gdX3_water_15 : decode cX3_water 15 = .ok (.ifCond .eq 10, 3) := by decide +kernel
theorem gdX3_water_18 : decode cX3_water 18 = .ok (.lload_n 1, 1) := by decide +kernel
theorem gdX3_water_19 : decode cX3_water 19 = .ok (.iload_n 3, 1) := by decide +kernel
theorem gdX3_water_20 : decode cX3_water 20 = .ok (.invokestatic 43, 3) := by decide +kernel
theorem gdX3_water_23 : decode cX3_water 23 = .ok (.lor, 1) := by decide +kernel
theorem gdX3_water_24 : decode cX3_water 24 = .ok (.lstore_n 1, 1) := by decide +kernel
theorem gdX3_water_0 : decode cX3_water 0 = .ok (.lconst 0, 1) := by decide +kernel
theorem gdX3_water_1 : decode cX3_water 1 = .ok (.lstore_n 1, 1) := by decide +kernel
theorem gdX3_water_2 : decode cX3_water 2 = .ok (.iconst 0, 1) := by decide +kernel
theorem gdX3_water_3 : decode cX3_water 3 = .ok (.istore_n 3, 1) := by decide +kernel
theorem gdX1_firstIn_37 : decode cX1_firstIn 37 = .ok (.iload 5, 2) := by decide +kernel
theorem gdX1_firstIn_39 : decode cX1_firstIn 39 = .ok (.ireturn, 1) := by decide +kernel
theorem gdX1_firstIn_46 : decode cX1_firstIn 46 = .ok (.bipush (-9), 2) := by decide +kernel
theorem gdX1_firstIn_48 : decode cX1_firstIn 48 = .ok (.ireturn, 1) := by decide +kernel
theorem gdX1_firstIn_40 : decode cX1_firstIn 40 = .ok (.iinc 5 1, 3) := by decide +kernel
theorem gdX1_firstIn_43 : decode cX1_firstIn 43 = .ok (.goto (-40), 3) := by decide +kernel
theorem gdX1_firstIn_3 : decode cX1_firstIn 3 = .ok (.iload 5, 2) := by decide +kernel
theorem gdX1_firstIn_5 : decode cX1_firstIn 5 = .ok (.aload_n 0, 1) := by decide +kernel
theorem gdX1_firstIn_6 : decode cX1_firstIn 6 = .ok (.getfield 58, 3) := by decide +kernel
theorem gdX1_firstIn_9 : decode cX1_firstIn 9 = .ok (.if_icmp .ge 37, 3) := by decide +kernel
theorem gdX1_firstIn_12 : decode cX1_firstIn 12 = .ok (.lload_n 3, 1) := by decide +kernel
theorem gdX1_firstIn_13 : decode cX1_firstIn 13 = .ok (.iload 5, 2) := by decide +kernel
theorem gdX1_firstIn_15 : decode cX1_firstIn 15 = .ok (.lushr, 1) := by decide +kernel
theorem gdX1_firstIn_16 : decode cX1_firstIn 16 = .ok (.lconst 1, 1) := by decide +kernel
theorem gdX1_firstIn_17 : decode cX1_firstIn 17 = .ok (.land, 1) := by decide +kernel
theorem gdX1_firstIn_18 : decode cX1_firstIn 18 = .ok (.lconst 1, 1) := by decide +kernel
theorem gdX1_firstIn_19 : decode cX1_firstIn 19 = .ok (.lcmp, 1) := by decide +kernel
theorem gdX1_firstIn_20 : decode cX1_firstIn 20 = .ok (.ifCond .ne 20, 3) := by decide +kernel
theorem gdX1_firstIn_23 : decode cX1_firstIn 23 = .ok (.lload_n 1, 1) := by decide +kernel
theorem gdX1_firstIn_24 : decode cX1_firstIn 24 = .ok (.aload_n 0, 1) := by decide +kernel
theorem gdX1_firstIn_25 : decode cX1_firstIn 25 = .ok (.getfield 11, 3) := by decide +kernel
theorem gdX1_firstIn_28 : decode cX1_firstIn 28 = .ok (.iload 5, 2) := by decide +kernel
theorem gdX1_firstIn_30 : decode cX1_firstIn 30 = .ok (.iaload, 1) := by decide +kernel
theorem gdX1_firstIn_31 : decode cX1_firstIn 31 = .ok (.invokestatic 87, 3) := by decide +kernel
theorem gdX1_firstIn_34 : decode cX1_firstIn 34 = .ok (.ifCond .eq 6, 3) := by decide +kernel
theorem gdX1_firstIn_0 : decode cX1_firstIn 0 = .ok (.iconst 0, 1) := by decide +kernel
theorem gdX1_firstIn_1 : decode cX1_firstIn 1 = .ok (.istore 5, 2) := by decide +kernel
theorem gdX1_nearest_32 : decode cX1_nearest 32 = .ok (.iload 9, 2) := by decide +kernel
theorem gdX1_nearest_34 : decode cX1_nearest 34 = .ok (.ireturn, 1) := by decide +kernel
theorem gdX1_nearest_53 : decode cX1_nearest 53 = .ok (.bipush (-9), 2) := by decide +kernel
theorem gdX1_nearest_55 : decode cX1_nearest 55 = .ok (.ireturn, 1) := by decide +kernel
theorem gdX1_nearest_66 : decode cX1_nearest 66 = .ok (.bipush (-9), 2) := by decide +kernel
theorem gdX1_nearest_68 : decode cX1_nearest 68 = .ok (.ireturn, 1) := by decide +kernel
theorem gdX1_nearest_9 : decode cX1_nearest 9 = .ok (.iload 8, 2) := by decide +kernel
theorem gdX1_nearest_11 : decode cX1_nearest 11 = .ok (.bipush 64, 2) := by decide +kernel
theorem gdX1_nearest_13 : decode cX1_nearest 13 = .ok (.if_icmp .ge 53, 3) := by decide +kernel
theorem gdX1_nearest_16 : decode cX1_nearest 16 = .ok (.aload_n 0, 1) := by decide +kernel
theorem gdX1_nearest_17 : decode cX1_nearest 17 = .ok (.lload 6, 2) := by decide +kernel
theorem gdX1_nearest_19 : decode cX1_nearest 19 = .ok (.lload_n 2, 1) := by decide +kernel
theorem gdX1_nearest_20 : decode cX1_nearest 20 = .ok (.invokevirtual 97, 3) := by decide +kernel
theorem gdX1_nearest_23 : decode cX1_nearest 23 = .ok (.istore 9, 2) := by decide +kernel
theorem gdX1_nearest_25 : decode cX1_nearest 25 = .ok (.iload 9, 2) := by decide +kernel
theorem gdX1_nearest_27 : decode cX1_nearest 27 = .ok (.bipush (-9), 2) := by decide +kernel
theorem gdX1_nearest_29 : decode cX1_nearest 29 = .ok (.if_icmp .eq 6, 3) := by decide +kernel
theorem gdX1_nearest_35 : decode cX1_nearest 35 = .ok (.lload 6, 2) := by decide +kernel
theorem gdX1_nearest_37 : decode cX1_nearest 37 = .ok (.invokestatic 101, 3) := by decide +kernel
theorem gdX1_nearest_40 : decode cX1_nearest 40 = .ok (.lload 4, 2) := by decide +kernel
theorem gdX1_nearest_42 : decode cX1_nearest 42 = .ok (.land, 1) := by decide +kernel
theorem gdX1_nearest_43 : decode cX1_nearest 43 = .ok (.lstore 10, 2) := by decide +kernel
theorem gdX1_nearest_45 : decode cX1_nearest 45 = .ok (.lload 10, 2) := by decide +kernel
theorem gdX1_nearest_47 : decode cX1_nearest 47 = .ok (.lload 6, 2) := by decide +kernel
theorem gdX1_nearest_49 : decode cX1_nearest 49 = .ok (.lcmp, 1) := by decide +kernel
theorem gdX1_nearest_50 : decode cX1_nearest 50 = .ok (.ifCond .ne 6, 3) := by decide +kernel
theorem gdX1_nearest_56 : decode cX1_nearest 56 = .ok (.lload 10, 2) := by decide +kernel
theorem gdX1_nearest_58 : decode cX1_nearest 58 = .ok (.lstore 6, 2) := by decide +kernel
theorem gdX1_nearest_60 : decode cX1_nearest 60 = .ok (.iinc 8 1, 3) := by decide +kernel
theorem gdX1_nearest_63 : decode cX1_nearest 63 = .ok (.goto (-54), 3) := by decide +kernel
theorem gdX1_nearest_0 : decode cX1_nearest 0 = .ok (.iload_n 1, 1) := by decide +kernel
theorem gdX1_nearest_1 : decode cX1_nearest 1 = .ok (.invokestatic 73, 3) := by decide +kernel
theorem gdX1_nearest_4 : decode cX1_nearest 4 = .ok (.lstore 6, 2) := by decide +kernel
theorem gdX1_nearest_6 : decode cX1_nearest 6 = .ok (.iconst 0, 1) := by decide +kernel
theorem gdX1_nearest_7 : decode cX1_nearest 7 = .ok (.istore 8, 2) := by decide +kernel
theorem gdX1_shopsLeft_139 : decode cX1_shopsLeft 139 = .ok (.lload 8, 2) := by decide +kernel
theorem gdX1_shopsLeft_141 : decode cX1_shopsLeft 141 = .ok (.lreturn, 1) := by decide +kernel
theorem gdX1_shopsLeft_133 : decode cX1_shopsLeft 133 = .ok (.iinc 10 1, 3) := by decide +kernel
theorem gdX1_shopsLeft_136 : decode cX1_shopsLeft 136 = .ok (.goto (-37), 3) := by decide +kernel
theorem gdX1_shopsLeft_99 : decode cX1_shopsLeft 99 = .ok (.iload 10, 2) := by decide +kernel
theorem gdX1_shopsLeft_101 : decode cX1_shopsLeft 101 = .ok (.aload_n 0, 1) := by decide +kernel
theorem gdX1_shopsLeft_102 : decode cX1_shopsLeft 102 = .ok (.getfield 58, 3) := by decide +kernel
theorem gdX1_shopsLeft_105 : decode cX1_shopsLeft 105 = .ok (.if_icmp .ge 34, 3) := by decide +kernel
theorem gdX1_shopsLeft_108 : decode cX1_shopsLeft 108 = .ok (.aload_n 0, 1) := by decide +kernel
theorem gdX1_shopsLeft_109 : decode cX1_shopsLeft 109 = .ok (.getfield 48, 3) := by decide +kernel
theorem gdX1_shopsLeft_112 : decode cX1_shopsLeft 112 = .ok (.iload 10, 2) := by decide +kernel
theorem gdX1_shopsLeft_114 : decode cX1_shopsLeft 114 = .ok (.iaload, 1) := by decide +kernel
theorem gdX1_shopsLeft_115 : decode cX1_shopsLeft 115 = .ok (.iload 7, 2) := by decide +kernel
theorem gdX1_shopsLeft_117 : decode cX1_shopsLeft 117 = .ok (.if_icmp .ge 16, 3) := by decide +kernel
theorem gdX1_shopsLeft_120 : decode cX1_shopsLeft 120 = .ok (.lload 8, 2) := by decide +kernel
theorem gdX1_shopsLeft_122 : decode cX1_shopsLeft 122 = .ok (.lconst 1, 1) := by decide +kernel
theorem gdX1_shopsLeft_123 : decode cX1_shopsLeft 123 = .ok (.iload 10, 2) := by decide +kernel
theorem gdX1_shopsLeft_125 : decode cX1_shopsLeft 125 = .ok (.lshl, 1) := by decide +kernel
theorem gdX1_shopsLeft_126 : decode cX1_shopsLeft 126 = .ok (.ldc2_w 95, 3) := by decide +kernel
theorem gdX1_shopsLeft_129 : decode cX1_shopsLeft 129 = .ok (.lxor, 1) := by decide +kernel
theorem gdX1_shopsLeft_130 : decode cX1_shopsLeft 130 = .ok (.land, 1) := by decide +kernel
theorem gdX1_shopsLeft_131 : decode cX1_shopsLeft 131 = .ok (.lstore 8, 2) := by decide +kernel
theorem gdX1_shopsLeft_93 : decode cX1_shopsLeft 93 = .ok (.lload_n 1, 1) := by decide +kernel
theorem gdX1_shopsLeft_94 : decode cX1_shopsLeft 94 = .ok (.lstore 8, 2) := by decide +kernel
theorem gdX1_shopsLeft_96 : decode cX1_shopsLeft 96 = .ok (.iconst 0, 1) := by decide +kernel
theorem gdX1_shopsLeft_97 : decode cX1_shopsLeft 97 = .ok (.istore 10, 2) := by decide +kernel
theorem gdX1_shopsLeft_87 : decode cX1_shopsLeft 87 = .ok (.iinc 8 1, 3) := by decide +kernel
theorem gdX1_shopsLeft_90 : decode cX1_shopsLeft 90 = .ok (.goto (-79), 3) := by decide +kernel
theorem gdX1_shopsLeft_11 : decode cX1_shopsLeft 11 = .ok (.iload 8, 2) := by decide +kernel
theorem gdX1_shopsLeft_13 : decode cX1_shopsLeft 13 = .ok (.aload_n 0, 1) := by decide +kernel
theorem gdX1_shopsLeft_14 : decode cX1_shopsLeft 14 = .ok (.getfield 58, 3) := by decide +kernel
theorem gdX1_shopsLeft_17 : decode cX1_shopsLeft 17 = .ok (.if_icmp .ge 76, 3) := by decide +kernel
theorem gdX1_shopsLeft_20 : decode cX1_shopsLeft 20 = .ok (.aload_n 0, 1) := by decide +kernel
theorem gdX1_shopsLeft_21 : decode cX1_shopsLeft 21 = .ok (.getfield 21, 3) := by decide +kernel
theorem gdX1_shopsLeft_24 : decode cX1_shopsLeft 24 = .ok (.iload 8, 2) := by decide +kernel
theorem gdX1_shopsLeft_26 : decode cX1_shopsLeft 26 = .ok (.iaload, 1) := by decide +kernel
theorem gdX1_shopsLeft_27 : decode cX1_shopsLeft 27 = .ok (.ifCond .eq 60, 3) := by decide +kernel
theorem gdX1_shopsLeft_30 : decode cX1_shopsLeft 30 = .ok (.lload_n 3, 1) := by decide +kernel
theorem gdX1_shopsLeft_31 : decode cX1_shopsLeft 31 = .ok (.aload_n 0, 1) := by decide +kernel
theorem gdX1_shopsLeft_32 : decode cX1_shopsLeft 32 = .ok (.getfield 11, 3) := by decide +kernel
theorem gdX1_shopsLeft_35 : decode cX1_shopsLeft 35 = .ok (.iload 8, 2) := by decide +kernel
theorem gdX1_shopsLeft_37 : decode cX1_shopsLeft 37 = .ok (.iaload, 1) := by decide +kernel
theorem gdX1_shopsLeft_38 : decode cX1_shopsLeft 38 = .ok (.invokestatic 87, 3) := by decide +kernel
theorem gdX1_shopsLeft_41 : decode cX1_shopsLeft 41 = .ok (.ifCond .eq 6, 3) := by decide +kernel
theorem gdX1_shopsLeft_47 : decode cX1_shopsLeft 47 = .ok (.aload_n 0, 1) := by decide +kernel
theorem gdX1_shopsLeft_48 : decode cX1_shopsLeft 48 = .ok (.aload_n 0, 1) := by decide +kernel
theorem gdX1_shopsLeft_49 : decode cX1_shopsLeft 49 = .ok (.getfield 11, 3) := by decide +kernel
theorem gdX1_shopsLeft_52 : decode cX1_shopsLeft 52 = .ok (.iload 8, 2) := by decide +kernel
theorem gdX1_shopsLeft_54 : decode cX1_shopsLeft 54 = .ok (.iaload, 1) := by decide +kernel
theorem gdX1_shopsLeft_55 : decode cX1_shopsLeft 55 = .ok (.lload_n 1, 1) := by decide +kernel
theorem gdX1_shopsLeft_56 : decode cX1_shopsLeft 56 = .ok (.lload 5, 2) := by decide +kernel
theorem gdX1_shopsLeft_58 : decode cX1_shopsLeft 58 = .ok (.invokevirtual 91, 3) := by decide +kernel
theorem gdX1_shopsLeft_61 : decode cX1_shopsLeft 61 = .ok (.istore 9, 2) := by decide +kernel
theorem gdX1_shopsLeft_63 : decode cX1_shopsLeft 63 = .ok (.iload 9, 2) := by decide +kernel
theorem gdX1_shopsLeft_65 : decode cX1_shopsLeft 65 = .ok (.bipush (-9), 2) := by decide +kernel
theorem gdX1_shopsLeft_67 : decode cX1_shopsLeft 67 = .ok (.if_icmp .eq 20, 3) := by decide +kernel
theorem gdX1_shopsLeft_70 : decode cX1_shopsLeft 70 = .ok (.aload_n 0, 1) := by decide +kernel
theorem gdX1_shopsLeft_71 : decode cX1_shopsLeft 71 = .ok (.getfield 48, 3) := by decide +kernel
theorem gdX1_shopsLeft_74 : decode cX1_shopsLeft 74 = .ok (.iload 9, 2) := by decide +kernel
theorem gdX1_shopsLeft_76 : decode cX1_shopsLeft 76 = .ok (.dup2, 1) := by decide +kernel
theorem gdX1_shopsLeft_77 : decode cX1_shopsLeft 77 = .ok (.iaload, 1) := by decide +kernel
theorem gdX1_shopsLeft_78 : decode cX1_shopsLeft 78 = .ok (.aload_n 0, 1) := by decide +kernel
theorem gdX1_shopsLeft_79 : decode cX1_shopsLeft 79 = .ok (.getfield 21, 3) := by decide +kernel
theorem gdX1_shopsLeft_82 : decode cX1_shopsLeft 82 = .ok (.iload 8, 2) := by decide +kernel
theorem gdX1_shopsLeft_84 : decode cX1_shopsLeft 84 = .ok (.iaload, 1) := by decide +kernel
theorem gdX1_shopsLeft_85 : decode cX1_shopsLeft 85 = .ok (.iadd, 1) := by decide +kernel
theorem gdX1_shopsLeft_86 : decode cX1_shopsLeft 86 = .ok (.iastore, 1) := by decide +kernel
theorem gdX1_shopsLeft_44 : decode cX1_shopsLeft 44 = .ok (.goto 43, 3) := by decide +kernel
theorem gdX1_shopsLeft_0 : decode cX1_shopsLeft 0 = .ok (.aload_n 0, 1) := by decide +kernel
theorem gdX1_shopsLeft_1 : decode cX1_shopsLeft 1 = .ok (.getfield 48, 3) := by decide +kernel
theorem gdX1_shopsLeft_4 : decode cX1_shopsLeft 4 = .ok (.iconst 0, 1) := by decide +kernel
theorem gdX1_shopsLeft_5 : decode cX1_shopsLeft 5 = .ok (.invokestatic 51, 3) := by decide +kernel
theorem gdX1_shopsLeft_8 : decode cX1_shopsLeft 8 = .ok (.iconst 0, 1) := by decide +kernel
theorem gdX1_shopsLeft_9 : decode cX1_shopsLeft 9 = .ok (.istore 8, 2) := by decide +kernel
theorem gdX11_fall_21 : decode cX11_fall 21 = .ok (.iconst (-1), 1) := by decide +kernel
theorem gdX11_fall_22 : decode cX11_fall 22 = .ok (.ireturn, 1) := by decide +kernel
theorem gdX11_fall_129 : decode cX11_fall 129 = .ok (.aload_n 0, 1) := by decide +kernel
theorem gdX11_fall_130 : decode cX11_fall 130 = .ok (.lload 6, 2) := by decide +kernel
theorem gdX11_fall_132 : decode cX11_fall 132 = .ok (.lload 8, 2) := by decide +kernel
theorem gdX11_fall_134 : decode cX11_fall 134 = .ok (.ldc2_w 387, 3) := by decide +kernel
theorem gdX11_fall_137 : decode cX11_fall 137 = .ok (.lxor, 1) := by decide +kernel
theorem gdX11_fall_138 : decode cX11_fall 138 = .ok (.land, 1) := by decide +kernel
theorem gdX11_fall_139 : decode cX11_fall 139 = .ok (.putfield 337, 3) := by decide +kernel
theorem gdX11_fall_142 : decode cX11_fall 142 = .ok (.aload_n 0, 1) := by decide +kernel
theorem gdX11_fall_143 : decode cX11_fall 143 = .ok (.getfield 337, 3) := by decide +kernel
theorem gdX11_fall_146 : decode cX11_fall 146 = .ok (.invokestatic 393, 3) := by decide +kernel
theorem gdX11_fall_149 : decode cX11_fall 149 = .ok (.ireturn, 1) := by decide +kernel
theorem gdX11_fall_116 : decode cX11_fall 116 = .ok (.goto 13, 3) := by decide +kernel
theorem gdX11_fall_75 : decode cX11_fall 75 = .ok (.iload 10, 2) := by decide +kernel
theorem gdX11_fall_77 : decode cX11_fall 77 = .ok (.iload_n 2, 1) := by decide +kernel
theorem gdX11_fall_78 : decode cX11_fall 78 = .ok (.if_icmp .ge 51, 3) := by decide +kernel
theorem gdX11_fall_81 : decode cX11_fall 81 = .ok (.aload_n 0, 1) := by decide +kernel
theorem gdX11_fall_82 : decode cX11_fall 82 = .ok (.getfield 33, 3) := by decide +kernel
theorem gdX11_fall_85 : decode cX11_fall 85 = .ok (.lload 8, 2) := by decide +kernel
theorem gdX11_fall_87 : decode cX11_fall 87 = .ok (.lload_n 3, 1) := by decide +kernel
theorem gdX11_fall_88 : decode cX11_fall 88 = .ok (.lload_n 3, 1) := by decide +kernel
theorem gdX11_fall_89 : decode cX11_fall 89 = .ok (.aload_n 0, 1) := by decide +kernel
theorem gdX11_fall_90 : decode cX11_fall 90 = .ok (.getfield 26, 3) := by decide +kernel
theorem gdX11_fall_93 : decode cX11_fall 93 = .ok (.invokevirtual 383, 3) := by decide +kernel
theorem gdX11_fall_96 : decode cX11_fall 96 = .ok (.lor, 1) := by decide +kernel
theorem gdX11_fall_97 : decode cX11_fall 97 = .ok (.ldc2_w 387, 3) := by decide +kernel
theorem gdX11_fall_100 : decode cX11_fall 100 = .ok (.lxor, 1) := by decide +kernel
theorem gdX11_fall_101 : decode cX11_fall 101 = .ok (.iload 5, 2) := by decide +kernel
theorem gdX11_fall_103 : decode cX11_fall 103 = .ok (.invokevirtual 389, 3) := by decide +kernel
theorem gdX11_fall_106 : decode cX11_fall 106 = .ok (.lstore 11, 2) := by decide +kernel
theorem gdX11_fall_108 : decode cX11_fall 108 = .ok (.lload 11, 2) := by decide +kernel
theorem gdX11_fall_110 : decode cX11_fall 110 = .ok (.lload 8, 2) := by decide +kernel
theorem gdX11_fall_112 : decode cX11_fall 112 = .ok (.lcmp, 1) := by decide +kernel
theorem gdX11_fall_113 : decode cX11_fall 113 = .ok (.ifCond .ne 6, 3) := by decide +kernel
theorem gdX11_fall_119 : decode cX11_fall 119 = .ok (.lload 11, 2) := by decide +kernel
theorem gdX11_fall_121 : decode cX11_fall 121 = .ok (.lstore 8, 2) := by decide +kernel
theorem gdX11_fall_123 : decode cX11_fall 123 = .ok (.iinc 10 1, 3) := by decide +kernel
theorem gdX11_fall_126 : decode cX11_fall 126 = .ok (.goto (-51), 3) := by decide +kernel
theorem gdX11_fall_0 : decode cX11_fall 0 = .ok (.aload_n 0, 1) := by decide +kernel
theorem gdX11_fall_1 : decode cX11_fall 1 = .ok (.getfield 52, 3) := by decide +kernel
theorem gdX11_fall_4 : decode cX11_fall 4 = .ok (.iload_n 1, 1) := by decide +kernel
theorem gdX11_fall_5 : decode cX11_fall 5 = .ok (.invokevirtual 250, 3) := by decide +kernel
theorem gdX11_fall_8 : decode cX11_fall 8 = .ok (.ifCond .eq 13, 3) := by decide +kernel
theorem gdX11_fall_11 : decode cX11_fall 11 = .ok (.iload_n 2, 1) := by decide +kernel
theorem gdX11_fall_12 : decode cX11_fall 12 = .ok (.ifCond .lt 9, 3) := by decide +kernel
theorem gdX11_fall_15 : decode cX11_fall 15 = .ok (.iload_n 2, 1) := by decide +kernel
theorem gdX11_fall_16 : decode cX11_fall 16 = .ok (.bipush 20, 2) := by decide +kernel
theorem gdX11_fall_18 : decode cX11_fall 18 = .ok (.if_icmp .le 5, 3) := by decide +kernel
theorem gdX11_fall_23 : decode cX11_fall 23 = .ok (.aload_n 0, 1) := by decide +kernel
theorem gdX11_fall_24 : decode cX11_fall 24 = .ok (.getfield 52, 3) := by decide +kernel
theorem gdX11_fall_27 : decode cX11_fall 27 = .ok (.iload_n 1, 1) := by decide +kernel
theorem gdX11_fall_28 : decode cX11_fall 28 = .ok (.iconst 1, 1) := by decide +kernel
theorem gdX11_fall_29 : decode cX11_fall 29 = .ok (.invokevirtual 251, 3) := by decide +kernel
theorem gdX11_fall_32 : decode cX11_fall 32 = .ok (.ifCond .ne 9, 3) := by decide +kernel
theorem gdX11_fall_41 : decode cX11_fall 41 = .ok (.aload_n 0, 1) := by decide +kernel
theorem gdX11_fall_42 : decode cX11_fall 42 = .ok (.getfield 52, 3) := by decide +kernel
theorem gdX11_fall_45 : decode cX11_fall 45 = .ok (.iload_n 1, 1) := by decide +kernel
theorem gdX11_fall_46 : decode cX11_fall 46 = .ok (.invokevirtual 254, 3) := by decide +kernel
theorem gdX11_fall_49 : decode cX11_fall 49 = .ok (.lstore_n 3, 1) := by decide +kernel
theorem gdX11_fall_50 : decode cX11_fall 50 = .ok (.aload_n 0, 1) := by decide +kernel
theorem gdX11_fall_51 : decode cX11_fall 51 = .ok (.iconst 4, 1) := by decide +kernel
theorem gdX11_fall_52 : decode cX11_fall 52 = .ok (.invokevirtual 228, 3) := by decide +kernel
theorem gdX11_fall_55 : decode cX11_fall 55 = .ok (.istore 5, 2) := by decide +kernel
theorem gdX11_fall_57 : decode cX11_fall 57 = .ok (.aload_n 0, 1) := by decide +kernel
theorem gdX11_fall_58 : decode cX11_fall 58 = .ok (.getfield 33, 3) := by decide +kernel
theorem gdX11_fall_61 : decode cX11_fall 61 = .ok (.lload_n 3, 1) := by decide +kernel
theorem gdX11_fall_62 : decode cX11_fall 62 = .ok (.iconst 1, 1) := by decide +kernel
theorem gdX11_fall_63 : decode cX11_fall 63 = .ok (.invokevirtual 379, 3) := by decide +kernel
theorem gdX11_fall_66 : decode cX11_fall 66 = .ok (.lstore 6, 2) := by decide +kernel
theorem gdX11_fall_68 : decode cX11_fall 68 = .ok (.lload 6, 2) := by decide +kernel
theorem gdX11_fall_70 : decode cX11_fall 70 = .ok (.lstore 8, 2) := by decide +kernel
theorem gdX11_fall_72 : decode cX11_fall 72 = .ok (.iconst 0, 1) := by decide +kernel
theorem gdX11_fall_73 : decode cX11_fall 73 = .ok (.istore 10, 2) := by decide +kernel
theorem gdX11_fall_35 : decode cX11_fall 35 = .ok (.aload_n 0, 1) := by decide +kernel
theorem gdX11_fall_36 : decode cX11_fall 36 = .ok (.iconst 3, 1) := by decide +kernel
theorem gdX11_fall_37 : decode cX11_fall 37 = .ok (.invokevirtual 99, 3) := by decide +kernel
theorem gdX11_fall_40 : decode cX11_fall 40 = .ok (.ireturn, 1) := by decide +kernel
theorem gdX7_letterOf_17 : decode cX7_letterOf 17 = .ok (.iload_n 1, 1) := by decide +kernel
theorem gdX7_letterOf_18 : decode cX7_letterOf 18 = .ok (.ireturn, 1) := by decide +kernel
theorem gdX7_letterOf_25 : decode cX7_letterOf 25 = .ok (.bipush (-9), 2) := by decide +kernel
theorem gdX7_letterOf_27 : decode cX7_letterOf 27 = .ok (.ireturn, 1) := by decide +kernel
theorem gdX7_letterOf_2 : decode cX7_letterOf 2 = .ok (.iload_n 1, 1) := by decide +kernel
theorem gdX7_letterOf_3 : decode cX7_letterOf 3 = .ok (.bipush 8, 2) := by decide +kernel
theorem gdX7_letterOf_5 : decode cX7_letterOf 5 = .ok (.if_icmp .ge 20, 3) := by decide +kernel
theorem gdX7_letterOf_8 : decode cX7_letterOf 8 = .ok (.getstatic 25, 3) := by decide +kernel
theorem gdX7_letterOf_11 : decode cX7_letterOf 11 = .ok (.iload_n 1, 1) := by decide +kernel
theorem gdX7_letterOf_12 : decode cX7_letterOf 12 = .ok (.iaload, 1) := by decide +kernel
theorem gdX7_letterOf_13 : decode cX7_letterOf 13 = .ok (.iload_n 0, 1) := by decide +kernel
theorem gdX7_letterOf_14 : decode cX7_letterOf 14 = .ok (.if_icmp .ne 5, 3) := by decide +kernel
theorem gdX7_letterOf_19 : decode cX7_letterOf 19 = .ok (.iinc 1 1, 3) := by decide +kernel
theorem gdX7_letterOf_22 : decode cX7_letterOf 22 = .ok (.goto (-20), 3) := by decide +kernel
theorem gdX7_letterOf_0 : decode cX7_letterOf 0 = .ok (.iconst 0, 1) := by decide +kernel
theorem gdX7_letterOf_1 : decode cX7_letterOf 1 = .ok (.istore_n 1, 1) := by decide +kernel
theorem gdX8_holds_19 : decode cX8_holds 19 = .ok (.ireturn, 1) := by decide +kernel
theorem gdX8_holds_18 : decode cX8_holds 18 = .ok (.iconst 0, 1) := by decide +kernel
theorem gdX8_holds_0 : decode cX8_holds 0 = .ok (.iload_n 2, 1) := by decide +kernel
theorem gdX8_holds_1 : decode cX8_holds 1 = .ok (.ifCond .lt 17, 3) := by decide +kernel
theorem gdX8_holds_4 : decode cX8_holds 4 = .ok (.iload_n 2, 1) := by decide +kernel
theorem gdX8_holds_5 : decode cX8_holds 5 = .ok (.aload_n 0, 1) := by decide +kernel
theorem gdX8_holds_6 : decode cX8_holds 6 = .ok (.getfield 9, 3) := by decide +kernel
theorem gdX8_holds_9 : decode cX8_holds 9 = .ok (.iload_n 1, 1) := by decide +kernel
theorem gdX8_holds_10 : decode cX8_holds 10 = .ok (.iaload, 1) := by decide +kernel
theorem gdX8_holds_11 : decode cX8_holds 11 = .ok (.if_icmp .ge 7, 3) := by decide +kernel
theorem gdX8_holds_14 : decode cX8_holds 14 = .ok (.iconst 1, 1) := by decide +kernel
theorem gdX8_holds_15 : decode cX8_holds 15 = .ok (.goto 4, 3) := by decide +kernel
theorem gdX7_isDigit_17 : decode cX7_isDigit 17 = .ok (.ireturn, 1) := by decide +kernel
theorem gdX7_isDigit_16 : decode cX7_isDigit 16 = .ok (.iconst 0, 1) := by decide +kernel
theorem gdX7_isDigit_0 : decode cX7_isDigit 0 = .ok (.iload_n 0, 1) := by decide +kernel
theorem gdX7_isDigit_1 : decode cX7_isDigit 1 = .ok (.bipush 48, 2) := by decide +kernel
theorem gdX7_isDigit_3 : decode cX7_isDigit 3 = .ok (.if_icmp .lt 13, 3) := by decide +kernel
theorem gdX7_isDigit_6 : decode cX7_isDigit 6 = .ok (.iload_n 0, 1) := by decide +kernel
theorem gdX7_isDigit_7 : decode cX7_isDigit 7 = .ok (.bipush 57, 2) := by decide +kernel
theorem gdX7_isDigit_9 : decode cX7_isDigit 9 = .ok (.if_icmp .gt 7, 3) := by decide +kernel
theorem gdX7_isDigit_12 : decode cX7_isDigit 12 = .ok (.iconst 1, 1) := by decide +kernel
theorem gdX7_isDigit_13 : decode cX7_isDigit 13 = .ok (.goto 4, 3) := by decide +kernel
theorem gdX7_digitsAt_38 : decode cX7_digitsAt 38 = .ok (.iload_n 3, 1) := by decide +kernel
theorem gdX7_digitsAt_39 : decode cX7_digitsAt 39 = .ok (.ireturn, 1) := by decide +kernel
theorem gdX7_digitsAt_2 : decode cX7_digitsAt 2 = .ok (.iload_n 3, 1) := by decide +kernel
theorem gdX7_digitsAt_3 : decode cX7_digitsAt 3 = .ok (.iconst 4, 1) := by decide +kernel
theorem gdX7_digitsAt_4 : decode cX7_digitsAt 4 = .ok (.if_icmp .ge 34, 3) := by decide +kernel
theorem gdX7_digitsAt_7 : decode cX7_digitsAt 7 = .ok (.aload_n 0, 1) := by decide +kernel
theorem gdX7_digitsAt_8 : decode cX7_digitsAt 8 = .ok (.iload_n 1, 1) := by decide +kernel
theorem gdX7_digitsAt_9 : decode cX7_digitsAt 9 = .ok (.iload_n 2, 1) := by decide +kernel
theorem gdX7_digitsAt_10 : decode cX7_digitsAt 10 = .ok (.iload_n 3, 1) := by decide +kernel
theorem gdX7_digitsAt_11 : decode cX7_digitsAt 11 = .ok (.iadd, 1) := by decide +kernel
theorem gdX7_digitsAt_12 : decode cX7_digitsAt 12 = .ok (.invokevirtual 28, 3) := by decide +kernel
theorem gdX7_digitsAt_15 : decode cX7_digitsAt 15 = .ok (.ifCond .eq 23, 3) := by decide +kernel
theorem gdX7_digitsAt_18 : decode cX7_digitsAt 18 = .ok (.aload_n 0, 1) := by decide +kernel
theorem gdX7_digitsAt_19 : decode cX7_digitsAt 19 = .ok (.iload_n 1, 1) := by decide +kernel
theorem gdX7_digitsAt_20 : decode cX7_digitsAt 20 = .ok (.iload_n 2, 1) := by decide +kernel
theorem gdX7_digitsAt_21 : decode cX7_digitsAt 21 = .ok (.iload_n 3, 1) := by decide +kernel
theorem gdX7_digitsAt_22 : decode cX7_digitsAt 22 = .ok (.iadd, 1) := by decide +kernel
theorem gdX7_digitsAt_23 : decode cX7_digitsAt 23 = .ok (.invokevirtual 34, 3) := by decide +kernel
theorem gdX7_digitsAt_26 : decode cX7_digitsAt 26 = .ok (.invokestatic 38, 3) := by decide +kernel
theorem gdX7_digitsAt_29 : decode cX7_digitsAt 29 = .ok (.ifCond .eq 9, 3) := by decide +kernel
theorem gdX7_digitsAt_32 : decode cX7_digitsAt 32 = .ok (.iinc 3 1, 3) := by decide +kernel
theorem gdX7_digitsAt_35 : decode cX7_digitsAt 35 = .ok (.goto (-33), 3) := by decide +kernel
theorem gdX7_digitsAt_0 : decode cX7_digitsAt 0 = .ok (.iconst 0, 1) := by decide +kernel
theorem gdX7_digitsAt_1 : decode cX7_digitsAt 1 = .ok (.istore_n 3, 1) := by decide +kernel
theorem gdX7_firstFault_39 : decode cX7_firstFault 39 = .ok (.iload_n 2, 1) := by decide +kernel
theorem gdX7_firstFault_40 : decode cX7_firstFault 40 = .ok (.iconst 1, 1) := by decide +kernel
theorem gdX7_firstFault_41 : decode cX7_firstFault 41 = .ok (.isub, 1) := by decide +kernel
theorem gdX7_firstFault_42 : decode cX7_firstFault 42 = .ok (.ireturn, 1) := by decide +kernel
theorem gdX7_firstFault_56 : decode cX7_firstFault 56 = .ok (.iload_n 2, 1) := by decide +kernel
theorem gdX7_firstFault_57 : decode cX7_firstFault 57 = .ok (.ireturn, 1) := by decide +kernel
theorem gdX7_firstFault_66 : decode cX7_firstFault 66 = .ok (.bipush (-9), 2) := by decide +kernel
theorem gdX7_firstFault_68 : decode cX7_firstFault 68 = .ok (.ireturn, 1) := by decide +kernel
theorem gdX7_firstFault_2 : decode cX7_firstFault 2 = .ok (.iload_n 2, 1) := by decide +kernel
theorem gdX7_firstFault_3 : decode cX7_firstFault 3 = .ok (.aload_n 0, 1) := by decide +kernel
theorem gdX7_firstFault_4 : decode cX7_firstFault 4 = .ok (.iload_n 1, 1) := by decide +kernel
theorem gdX7_firstFault_5 : decode cX7_firstFault 5 = .ok (.invokevirtual 42, 3) := by decide +kernel
theorem gdX7_firstFault_8 : decode cX7_firstFault 8 = .ok (.if_icmp .ge 58, 3) := by decide +kernel
theorem gdX7_firstFault_11 : decode cX7_firstFault 11 = .ok (.aload_n 0, 1) := by decide +kernel
theorem gdX7_firstFault_12 : decode cX7_firstFault 12 = .ok (.iload_n 1, 1) := by decide +kernel
theorem gdX7_firstFault_13 : decode cX7_firstFault 13 = .ok (.iload_n 2, 1) := by decide +kernel
theorem gdX7_firstFault_14 : decode cX7_firstFault 14 = .ok (.invokevirtual 34, 3) := by decide +kernel
theorem gdX7_firstFault_17 : decode cX7_firstFault 17 = .ok (.istore_n 3, 1) := by decide +kernel
theorem gdX7_firstFault_18 : decode cX7_firstFault 18 = .ok (.iinc 2 1, 3) := by decide +kernel
theorem gdX7_firstFault_21 : decode cX7_firstFault 21 = .ok (.iload_n 3, 1) := by decide +kernel
theorem gdX7_firstFault_22 : decode cX7_firstFault 22 = .ok (.bipush 32, 2) := by decide +kernel
theorem gdX7_firstFault_24 : decode cX7_firstFault 24 = .ok (.if_icmp .ne 6, 3) := by decide +kernel
theorem gdX7_firstFault_30 : decode cX7_firstFault 30 = .ok (.iload_n 3, 1) := by decide +kernel
theorem gdX7_firstFault_31 : decode cX7_firstFault 31 = .ok (.invokestatic 46, 3) := by decide +kernel
theorem gdX7_firstFault_34 : decode cX7_firstFault 34 = .ok (.bipush (-9), 2) := by decide +kernel
theorem gdX7_firstFault_36 : decode cX7_firstFault 36 = .ok (.if_icmp .ne 7, 3) := by decide +kernel
theorem gdX7_firstFault_43 : decode cX7_firstFault 43 = .ok (.aload_n 0, 1) := by decide +kernel
theorem gdX7_firstFault_44 : decode cX7_firstFault 44 = .ok (.iload_n 1, 1) := by decide +kernel
theorem gdX7_firstFault_45 : decode cX7_firstFault 45 = .ok (.iload_n 2, 1) := by decide +kernel
theorem gdX7_firstFault_46 : decode cX7_firstFault 46 = .ok (.invokestatic 49, 3) := by decide +kernel
theorem gdX7_firstFault_49 : decode cX7_firstFault 49 = .ok (.istore 4, 2) := by decide +kernel
theorem gdX7_firstFault_51 : decode cX7_firstFault 51 = .ok (.iload 4, 2) := by decide +kernel
theorem gdX7_firstFault_53 : decode cX7_firstFault 53 = .ok (.ifCond .ne 5, 3) := by decide +kernel
theorem gdX7_firstFault_58 : decode cX7_firstFault 58 = .ok (.iload_n 2, 1) := by decide +kernel
theorem gdX7_firstFault_59 : decode cX7_firstFault 59 = .ok (.iload 4, 2) := by decide +kernel
theorem gdX7_firstFault_61 : decode cX7_firstFault 61 = .ok (.iadd, 1) := by decide +kernel
theorem gdX7_firstFault_62 : decode cX7_firstFault 62 = .ok (.istore_n 2, 1) := by decide +kernel
theorem gdX7_firstFault_63 : decode cX7_firstFault 63 = .ok (.goto (-61), 3) := by decide +kernel
theorem gdX7_firstFault_27 : decode cX7_firstFault 27 = .ok (.goto (-25), 3) := by decide +kernel
theorem gdX7_firstFault_0 : decode cX7_firstFault 0 = .ok (.iconst 0, 1) := by decide +kernel
theorem gdX7_firstFault_1 : decode cX7_firstFault 1 = .ok (.istore_n 2, 1) := by decide +kernel
theorem gdX11_fault_0 : decode cX11_fault 0 = .ok (.aload_n 0, 1) := by decide +kernel
theorem gdX11_fault_1 : decode cX11_fault 1 = .ok (.getfield 20, 3) := by decide +kernel
theorem gdX11_fault_4 : decode cX11_fault 4 = .ok (.iload_n 1, 1) := by decide +kernel
theorem gdX11_fault_5 : decode cX11_fault 5 = .ok (.invokevirtual 95, 3) := by decide +kernel
theorem gdX11_fault_8 : decode cX11_fault 8 = .ok (.ifCond .ne 5, 3) := by decide +kernel
theorem gdX11_fault_13 : decode cX11_fault 13 = .ok (.aload_n 0, 1) := by decide +kernel
theorem gdX11_fault_14 : decode cX11_fault 14 = .ok (.getfield 20, 3) := by decide +kernel
theorem gdX11_fault_17 : decode cX11_fault 17 = .ok (.iload_n 1, 1) := by decide +kernel
theorem gdX11_fault_18 : decode cX11_fault 18 = .ok (.invokevirtual 106, 3) := by decide +kernel
theorem gdX11_fault_21 : decode cX11_fault 21 = .ok (.ifCond .ne 9, 3) := by decide +kernel
theorem gdX11_fault_30 : decode cX11_fault 30 = .ok (.aload_n 0, 1) := by decide +kernel
theorem gdX11_fault_31 : decode cX11_fault 31 = .ok (.getfield 20, 3) := by decide +kernel
theorem gdX11_fault_34 : decode cX11_fault 34 = .ok (.iload_n 1, 1) := by decide +kernel
theorem gdX11_fault_35 : decode cX11_fault 35 = .ok (.invokestatic 132, 3) := by decide +kernel
theorem gdX11_fault_38 : decode cX11_fault 38 = .ok (.ireturn, 1) := by decide +kernel
theorem gdX11_fault_24 : decode cX11_fault 24 = .ok (.aload_n 0, 1) := by decide +kernel
theorem gdX11_fault_25 : decode cX11_fault 25 = .ok (.iconst 1, 1) := by decide +kernel
theorem gdX11_fault_26 : decode cX11_fault 26 = .ok (.invokevirtual 99, 3) := by decide +kernel
theorem gdX11_fault_29 : decode cX11_fault 29 = .ok (.ireturn, 1) := by decide +kernel
theorem gdX11_fault_11 : decode cX11_fault 11 = .ok (.iconst (-1), 1) := by decide +kernel
theorem gdX11_fault_12 : decode cX11_fault 12 = .ok (.ireturn, 1) := by decide +kernel
theorem gdX11_finding_0 : decode cX11_finding 0 = .ok (.aload_n 0, 1) := by decide +kernel
theorem gdX11_finding_1 : decode cX11_finding 1 = .ok (.getfield 477, 3) := by decide +kernel
theorem gdX11_finding_4 : decode cX11_finding 4 = .ok (.ireturn, 1) := by decide +kernel
theorem gdX11_findings_10 : decode cX11_findings 10 = .ok (.iconst (-1), 1) := by decide +kernel
theorem gdX11_findings_11 : decode cX11_findings 11 = .ok (.ireturn, 1) := by decide +kernel
theorem gdX11_findings_0 : decode cX11_findings 0 = .ok (.iload_n 1, 1) := by decide +kernel
theorem gdX11_findings_1 : decode cX11_findings 1 = .ok (.iconst 1, 1) := by decide +kernel
theorem gdX11_findings_2 : decode cX11_findings 2 = .ok (.if_icmp .lt 8, 3) := by decide +kernel
theorem gdX11_findings_5 : decode cX11_findings 5 = .ok (.iload_n 1, 1) := by decide +kernel
theorem gdX11_findings_6 : decode cX11_findings 6 = .ok (.iconst 5, 1) := by decide +kernel
theorem gdX11_findings_7 : decode cX11_findings 7 = .ok (.if_icmp .le 5, 3) := by decide +kernel
theorem gdX11_findings_12 : decode cX11_findings 12 = .ok (.aload_n 0, 1) := by decide +kernel
theorem gdX11_findings_13 : decode cX11_findings 13 = .ok (.getfield 91, 3) := by decide +kernel
theorem gdX11_findings_16 : decode cX11_findings 16 = .ok (.iload_n 1, 1) := by decide +kernel
theorem gdX11_findings_17 : decode cX11_findings 17 = .ok (.iaload, 1) := by decide +kernel
theorem gdX11_findings_18 : decode cX11_findings 18 = .ok (.ireturn, 1) := by decide +kernel
theorem gdX7_isLetter_15 : decode cX7_isLetter 15 = .ok (.ireturn, 1) := by decide +kernel
theorem gdX7_isLetter_14 : decode cX7_isLetter 14 = .ok (.iconst 0, 1) := by decide +kernel
theorem gdX7_isLetter_0 : decode cX7_isLetter 0 = .ok (.iload_n 0, 1) := by decide +kernel
theorem gdX7_isLetter_1 : decode cX7_isLetter 1 = .ok (.ifCond .lt 13, 3) := by decide +kernel
theorem gdX7_isLetter_4 : decode cX7_isLetter 4 = .ok (.iload_n 0, 1) := by decide +kernel
theorem gdX7_isLetter_5 : decode cX7_isLetter 5 = .ok (.bipush 8, 2) := by decide +kernel
theorem gdX7_isLetter_7 : decode cX7_isLetter 7 = .ok (.if_icmp .ge 7, 3) := by decide +kernel
theorem gdX7_isLetter_10 : decode cX7_isLetter 10 = .ok (.iconst 1, 1) := by decide +kernel
theorem gdX7_isLetter_11 : decode cX7_isLetter 11 = .ok (.goto 4, 3) := by decide +kernel
theorem gdX11_isDay_16 : decode cX11_isDay 16 = .ok (.ireturn, 1) := by decide +kernel
theorem gdX11_isDay_15 : decode cX11_isDay 15 = .ok (.iconst 0, 1) := by decide +kernel
theorem gdX11_isDay_0 : decode cX11_isDay 0 = .ok (.iload_n 0, 1) := by decide +kernel
theorem gdX11_isDay_1 : decode cX11_isDay 1 = .ok (.ifCond .lt 14, 3) := by decide +kernel
theorem gdX11_isDay_4 : decode cX11_isDay 4 = .ok (.iload_n 0, 1) := by decide +kernel
theorem gdX11_isDay_5 : decode cX11_isDay 5 = .ok (.sipush 999, 3) := by decide +kernel
theorem gdX11_isDay_8 : decode cX11_isDay 8 = .ok (.if_icmp .gt 7, 3) := by decide +kernel
theorem gdX11_isDay_11 : decode cX11_isDay 11 = .ok (.iconst 1, 1) := by decide +kernel
theorem gdX11_isDay_12 : decode cX11_isDay 12 = .ok (.goto 4, 3) := by decide +kernel
theorem gdX11_force_21 : decode cX11_force 21 = .ok (.iconst (-1), 1) := by decide +kernel
theorem gdX11_force_22 : decode cX11_force 22 = .ok (.ireturn, 1) := by decide +kernel
theorem gdX11_force_0 : decode cX11_force 0 = .ok (.iload_n 1, 1) := by decide +kernel
theorem gdX11_force_1 : decode cX11_force 1 = .ok (.invokestatic 209, 3) := by decide +kernel
theorem gdX11_force_4 : decode cX11_force 4 = .ok (.ifCond .eq 17, 3) := by decide +kernel
theorem gdX11_force_7 : decode cX11_force 7 = .ok (.iload_n 2, 1) := by decide +kernel
theorem gdX11_force_8 : decode cX11_force 8 = .ok (.invokestatic 180, 3) := by decide +kernel
theorem gdX11_force_11 : decode cX11_force 11 = .ok (.ifCond .eq 10, 3) := by decide +kernel
theorem gdX11_force_14 : decode cX11_force 14 = .ok (.iload_n 3, 1) := by decide +kernel
theorem gdX11_force_15 : decode cX11_force 15 = .ok (.invokestatic 180, 3) := by decide +kernel
theorem gdX11_force_18 : decode cX11_force 18 = .ok (.ifCond .ne 5, 3) := by decide +kernel
theorem gdX11_force_23 : decode cX11_force 23 = .ok (.aload_n 0, 1) := by decide +kernel
theorem gdX11_force_24 : decode cX11_force 24 = .ok (.getfield 45, 3) := by decide +kernel
theorem gdX11_force_27 : decode cX11_force 27 = .ok (.iload_n 1, 1) := by decide +kernel
theorem gdX11_force_28 : decode cX11_force 28 = .ok (.iload_n 2, 1) := by decide +kernel
theorem gdX11_force_29 : decode cX11_force 29 = .ok (.iload_n 3, 1) := by decide +kernel
theorem gdX11_force_30 : decode cX11_force 30 = .ok (.invokevirtual 212, 3) := by decide +kernel
theorem gdX11_force_33 : decode cX11_force 33 = .ok (.ireturn, 1) := by decide +kernel
theorem gdX4_add_0 : decode cX4_add 0 = .ok (.aload_n 0, 1) := by decide +kernel
theorem gdX4_add_1 : decode cX4_add 1 = .ok (.getfield 54, 3) := by decide +kernel
theorem gdX4_add_4 : decode cX4_add 4 = .ok (.istore 4, 2) := by decide +kernel
theorem gdX4_add_6 : decode cX4_add 6 = .ok (.aload_n 0, 1) := by decide +kernel
theorem gdX4_add_7 : decode cX4_add 7 = .ok (.dup, 1) := by decide +kernel
theorem gdX4_add_8 : decode cX4_add 8 = .ok (.getfield 54, 3) := by decide +kernel
theorem gdX4_add_11 : decode cX4_add 11 = .ok (.iconst 1, 1) := by decide +kernel
theorem gdX4_add_12 : decode cX4_add 12 = .ok (.iadd, 1) := by decide +kernel
theorem gdX4_add_13 : decode cX4_add 13 = .ok (.putfield 54, 3) := by decide +kernel
theorem gdX4_add_16 : decode cX4_add 16 = .ok (.aload_n 0, 1) := by decide +kernel
theorem gdX4_add_17 : decode cX4_add 17 = .ok (.getfield 11, 3) := by decide +kernel
theorem gdX4_add_20 : decode cX4_add 20 = .ok (.iload 4, 2) := by decide +kernel
theorem gdX4_add_22 : decode cX4_add 22 = .ok (.iload_n 1, 1) := by decide +kernel
theorem gdX4_add_23 : decode cX4_add 23 = .ok (.iastore, 1) := by decide +kernel
theorem gdX4_add_24 : decode cX4_add 24 = .ok (.aload_n 0, 1) := by decide +kernel
theorem gdX4_add_25 : decode cX4_add 25 = .ok (.getfield 15, 3) := by decide +kernel
theorem gdX4_add_28 : decode cX4_add 28 = .ok (.iload 4, 2) := by decide +kernel
theorem gdX4_add_30 : decode cX4_add 30 = .ok (.iload_n 2, 1) := by decide +kernel
theorem gdX4_add_31 : decode cX4_add 31 = .ok (.iastore, 1) := by decide +kernel
theorem gdX4_add_32 : decode cX4_add 32 = .ok (.aload_n 0, 1) := by decide +kernel
theorem gdX4_add_33 : decode cX4_add 33 = .ok (.getfield 18, 3) := by decide +kernel
theorem gdX4_add_36 : decode cX4_add 36 = .ok (.iload 4, 2) := by decide +kernel
theorem gdX4_add_38 : decode cX4_add 38 = .ok (.iload_n 3, 1) := by decide +kernel
theorem gdX4_add_39 : decode cX4_add 39 = .ok (.iastore, 1) := by decide +kernel
theorem gdX4_add_40 : decode cX4_add 40 = .ok (.aload_n 0, 1) := by decide +kernel
theorem gdX4_add_41 : decode cX4_add 41 = .ok (.getfield 36, 3) := by decide +kernel
theorem gdX4_add_44 : decode cX4_add 44 = .ok (.iload 4, 2) := by decide +kernel
theorem gdX4_add_46 : decode cX4_add 46 = .ok (.bipush (-9), 2) := by decide +kernel
theorem gdX4_add_48 : decode cX4_add 48 = .ok (.iastore, 1) := by decide +kernel
theorem gdX4_add_49 : decode cX4_add 49 = .ok (.iload 4, 2) := by decide +kernel
theorem gdX4_add_51 : decode cX4_add 51 = .ok (.ireturn, 1) := by decide +kernel
theorem gdX4_setGrant_0 : decode cX4_setGrant 0 = .ok (.aload_n 0, 1) := by decide +kernel
theorem gdX4_setGrant_1 : decode cX4_setGrant 1 = .ok (.getfield 39, 3) := by decide +kernel
theorem gdX4_setGrant_4 : decode cX4_setGrant 4 = .ok (.iload_n 1, 1) := by decide +kernel
theorem gdX4_setGrant_5 : decode cX4_setGrant 5 = .ok (.iload_n 2, 1) := by decide +kernel
theorem gdX4_setGrant_6 : decode cX4_setGrant 6 = .ok (.iastore, 1) := by decide +kernel
theorem gdX4_setGrant_7 : decode cX4_setGrant 7 = .ok (.aload_n 0, 1) := by decide +kernel
theorem gdX4_setGrant_8 : decode cX4_setGrant 8 = .ok (.getfield 45, 3) := by decide +kernel
theorem gdX4_setGrant_11 : decode cX4_setGrant 11 = .ok (.iload_n 1, 1) := by decide +kernel
theorem gdX4_setGrant_12 : decode cX4_setGrant 12 = .ok (.iload_n 3, 1) := by decide +kernel
theorem gdX4_setGrant_13 : decode cX4_setGrant 13 = .ok (.iastore, 1) := by decide +kernel
theorem gdX4_setGrant_14 : decode cX4_setGrant 14 = .ok (.return_, 1) := by decide +kernel
theorem gdX11_grant_18 : decode cX11_grant 18 = .ok (.iconst (-1), 1) := by decide +kernel
theorem gdX11_grant_19 : decode cX11_grant 19 = .ok (.ireturn, 1) := by decide +kernel
theorem gdX11_grant_0 : decode cX11_grant 0 = .ok (.iload_n 1, 1) := by decide +kernel
theorem gdX11_grant_1 : decode cX11_grant 1 = .ok (.iconst 1, 1) := by decide +kernel
theorem gdX11_grant_2 : decode cX11_grant 2 = .ok (.if_icmp .lt 16, 3) := by decide +kernel
theorem gdX11_grant_5 : decode cX11_grant 5 = .ok (.iload_n 1, 1) := by decide +kernel
theorem gdX11_grant_6 : decode cX11_grant 6 = .ok (.bipush 10, 2) := by decide +kernel
theorem gdX11_grant_8 : decode cX11_grant 8 = .ok (.if_icmp .gt 10, 3) := by decide +kernel
theorem gdX11_grant_11 : decode cX11_grant 11 = .ok (.iload_n 2, 1) := by decide +kernel
theorem gdX11_grant_12 : decode cX11_grant 12 = .ok (.invokestatic 180, 3) := by decide +kernel
theorem gdX11_grant_15 : decode cX11_grant 15 = .ok (.ifCond .ne 5, 3) := by decide +kernel
theorem gdX11_grant_20 : decode cX11_grant 20 = .ok (.aload_n 0, 1) := by decide +kernel
theorem gdX11_grant_21 : decode cX11_grant 21 = .ok (.getfield 52, 3) := by decide +kernel
theorem gdX11_grant_24 : decode cX11_grant 24 = .ok (.invokevirtual 218, 3) := by decide +kernel
theorem gdX11_grant_27 : decode cX11_grant 27 = .ok (.bipush 24, 2) := by decide +kernel
theorem gdX11_grant_29 : decode cX11_grant 29 = .ok (.if_icmp .lt 6, 3) := by decide +kernel
theorem gdX11_grant_35 : decode cX11_grant 35 = .ok (.aload_n 0, 1) := by decide +kernel
theorem gdX11_grant_36 : decode cX11_grant 36 = .ok (.getfield 52, 3) := by decide +kernel
theorem gdX11_grant_39 : decode cX11_grant 39 = .ok (.iconst 5, 1) := by decide +kernel
theorem gdX11_grant_40 : decode cX11_grant 40 = .ok (.aload_n 0, 1) := by decide +kernel
theorem gdX11_grant_41 : decode cX11_grant 41 = .ok (.getfield 136, 3) := by decide +kernel
theorem gdX11_grant_44 : decode cX11_grant 44 = .ok (.bipush (-9), 2) := by decide +kernel
theorem gdX11_grant_46 : decode cX11_grant 46 = .ok (.invokevirtual 235, 3) := by decide +kernel
theorem gdX11_grant_49 : decode cX11_grant 49 = .ok (.istore_n 3, 1) := by decide +kernel
theorem gdX11_grant_50 : decode cX11_grant 50 = .ok (.aload_n 0, 1) := by decide +kernel
theorem gdX11_grant_51 : decode cX11_grant 51 = .ok (.getfield 52, 3) := by decide +kernel
theorem gdX11_grant_54 : decode cX11_grant 54 = .ok (.iload_n 3, 1) := by decide +kernel
theorem gdX11_grant_55 : decode cX11_grant 55 = .ok (.iload_n 1, 1) := by decide +kernel
theorem gdX11_grant_56 : decode cX11_grant 56 = .ok (.iload_n 2, 1) := by decide +kernel
theorem gdX11_grant_57 : decode cX11_grant 57 = .ok (.invokevirtual 314, 3) := by decide +kernel
theorem gdX11_grant_60 : decode cX11_grant 60 = .ok (.iload_n 3, 1) := by decide +kernel
theorem gdX11_grant_61 : decode cX11_grant 61 = .ok (.ireturn, 1) := by decide +kernel
theorem gdX11_grant_32 : decode cX11_grant 32 = .ok (.bipush (-2), 2) := by decide +kernel
theorem gdX11_grant_34 : decode cX11_grant 34 = .ok (.ireturn, 1) := by decide +kernel
theorem gdX4_dateOf_0 : decode cX4_dateOf 0 = .ok (.aload_n 0, 1) := by decide +kernel
theorem gdX4_dateOf_1 : decode cX4_dateOf 1 = .ok (.getfield 45, 3) := by decide +kernel
theorem gdX4_dateOf_4 : decode cX4_dateOf 4 = .ok (.iload_n 1, 1) := by decide +kernel
theorem gdX4_dateOf_5 : decode cX4_dateOf 5 = .ok (.iaload, 1) := by decide +kernel
theorem gdX4_dateOf_6 : decode cX4_dateOf 6 = .ok (.ireturn, 1) := by decide +kernel
theorem gdX4_amountOf_0 : decode cX4_amountOf 0 = .ok (.aload_n 0, 1) := by decide +kernel
theorem gdX4_amountOf_1 : decode cX4_amountOf 1 = .ok (.getfield 39, 3) := by decide +kernel
theorem gdX4_amountOf_4 : decode cX4_amountOf 4 = .ok (.iload_n 1, 1) := by decide +kernel
theorem gdX4_amountOf_5 : decode cX4_amountOf 5 = .ok (.iaload, 1) := by decide +kernel
theorem gdX4_amountOf_6 : decode cX4_amountOf 6 = .ok (.ireturn, 1) := by decide +kernel
theorem gdX11_grants_22 : decode cX11_grants 22 = .ok (.iconst (-1), 1) := by decide +kernel
theorem gdX11_grants_23 : decode cX11_grants 23 = .ok (.ireturn, 1) := by decide +kernel
theorem gdX11_grants_48 : decode cX11_grants 48 = .ok (.aload_n 0, 1) := by decide +kernel
theorem gdX11_grants_49 : decode cX11_grants 49 = .ok (.iconst 3, 1) := by decide +kernel
theorem gdX11_grants_50 : decode cX11_grants 50 = .ok (.invokevirtual 99, 3) := by decide +kernel
theorem gdX11_grants_53 : decode cX11_grants 53 = .ok (.ireturn, 1) := by decide +kernel
theorem gdX11_grants_144 : decode cX11_grants 144 = .ok (.ireturn, 1) := by decide +kernel
theorem gdX11_grants_131 : decode cX11_grants 131 = .ok (.putfield 417, 3) := by decide +kernel
theorem gdX11_grants_134 : decode cX11_grants 134 = .ok (.iload 4, 2) := by decide +kernel
theorem gdX11_grants_136 : decode cX11_grants 136 = .ok (.ifCond .lt 7, 3) := by decide +kernel
theorem gdX11_grants_143 : decode cX11_grants 143 = .ok (.iconst 0, 1) := by decide +kernel
theorem gdX11_grants_139 : decode cX11_grants 139 = .ok (.iconst 1, 1) := by decide +kernel
theorem gdX11_grants_140 : decode cX11_grants 140 = .ok (.goto 4, 3) := by decide +kernel
theorem gdX11_grants_78 : decode cX11_grants 78 = .ok (.istore_n 3, 1) := by decide +kernel
theorem gdX11_grants_79 : decode cX11_grants 79 = .ok (.aload_n 0, 1) := by decide +kernel
theorem gdX11_grants_80 : decode cX11_grants 80 = .ok (.getfield 52, 3) := by decide +kernel
theorem gdX11_grants_83 : decode cX11_grants 83 = .ok (.iload_n 1, 1) := by decide +kernel
theorem gdX11_grants_84 : decode cX11_grants 84 = .ok (.invokevirtual 436, 3) := by decide +kernel
theorem gdX11_grants_87 : decode cX11_grants 87 = .ok (.iload_n 3, 1) := by decide +kernel
theorem gdX11_grants_88 : decode cX11_grants 88 = .ok (.isub, 1) := by decide +kernel
theorem gdX11_grants_89 : decode cX11_grants 89 = .ok (.istore 4, 2) := by decide +kernel
theorem gdX11_grants_91 : decode cX11_grants 91 = .ok (.aload_n 0, 1) := by decide +kernel
theorem gdX11_grants_92 : decode cX11_grants 92 = .ok (.iload 4, 2) := by decide +kernel
theorem gdX11_grants_94 : decode cX11_grants 94 = .ok (.invokevirtual 117, 3) := by decide +kernel
theorem gdX11_grants_97 : decode cX11_grants 97 = .ok (.pop, 1) := by decide +kernel
theorem gdX11_grants_98 : decode cX11_grants 98 = .ok (.aload_n 0, 1) := by decide +kernel
theorem gdX11_grants_99 : decode cX11_grants 99 = .ok (.iload 4, 2) := by decide +kernel
theorem gdX11_grants_101 : decode cX11_grants 101 = .ok (.ifCond .lt 29, 3) := by decide +kernel
theorem gdX11_grants_130 : decode cX11_grants 130 = .ok (.lconst 0, 1) := by decide +kernel
theorem gdX11_grants_104 : decode cX11_grants 104 = .ok (.aload_n 0, 1) := by decide +kernel
theorem gdX11_grants_105 : decode cX11_grants 105 = .ok (.getfield 52, 3) := by decide +kernel
theorem gdX11_grants_108 : decode cX11_grants 108 = .ok (.iload_n 2, 1) := by decide +kernel
theorem gdX11_grants_109 : decode cX11_grants 109 = .ok (.invokevirtual 334, 3) := by decide +kernel
theorem gdX11_grants_112 : decode cX11_grants 112 = .ok (.i2l, 1) := by decide +kernel
theorem gdX11_grants_113 : decode cX11_grants 113 = .ok (.aload_n 0, 1) := by decide +kernel
theorem gdX11_grants_114 : decode cX11_grants 114 = .ok (.getfield 52, 3) := by decide +kernel
theorem gdX11_grants_117 : decode cX11_grants 117 = .ok (.iload_n 1, 1) := by decide +kernel
theorem gdX11_grants_118 : decode cX11_grants 118 = .ok (.invokevirtual 331, 3) := by decide +kernel
theorem gdX11_grants_121 : decode cX11_grants 121 = .ok (.i2l, 1) := by decide +kernel
theorem gdX11_grants_122 : decode cX11_grants 122 = .ok (.lmul, 1) := by decide +kernel
theorem gdX11_grants_123 : decode cX11_grants 123 = .ok (.ldc2_w 439, 3) := by decide +kernel
theorem gdX11_grants_126 : decode cX11_grants 126 = .ok (.ldiv, 1) := by decide +kernel
theorem gdX11_grants_127 : decode cX11_grants 127 = .ok (.goto 4, 3) := by decide +kernel
theorem gdX11_grants_0 : decode cX11_grants 0 = .ok (.aload_n 0, 1) := by decide +kernel
theorem gdX11_grants_1 : decode cX11_grants 1 = .ok (.getfield 52, 3) := by decide +kernel
theorem gdX11_grants_4 : decode cX11_grants 4 = .ok (.iload_n 1, 1) := by decide +kernel
theorem gdX11_grants_5 : decode cX11_grants 5 = .ok (.invokevirtual 250, 3) := by decide +kernel
theorem gdX11_grants_8 : decode cX11_grants 8 = .ok (.ifCond .eq 14, 3) := by decide +kernel
theorem gdX11_grants_11 : decode cX11_grants 11 = .ok (.aload_n 0, 1) := by decide +kernel
theorem gdX11_grants_12 : decode cX11_grants 12 = .ok (.getfield 52, 3) := by decide +kernel
theorem gdX11_grants_15 : decode cX11_grants 15 = .ok (.iload_n 2, 1) := by decide +kernel
theorem gdX11_grants_16 : decode cX11_grants 16 = .ok (.invokevirtual 250, 3) := by decide +kernel
theorem gdX11_grants_19 : decode cX11_grants 19 = .ok (.ifCond .ne 5, 3) := by decide +kernel
theorem gdX11_grants_24 : decode cX11_grants 24 = .ok (.aload_n 0, 1) := by decide +kernel
theorem gdX11_grants_25 : decode cX11_grants 25 = .ok (.getfield 52, 3) := by decide +kernel
theorem gdX11_grants_28 : decode cX11_grants 28 = .ok (.iload_n 1, 1) := by decide +kernel
theorem gdX11_grants_29 : decode cX11_grants 29 = .ok (.iconst 5, 1) := by decide +kernel
theorem gdX11_grants_30 : decode cX11_grants 30 = .ok (.invokevirtual 251, 3) := by decide +kernel
theorem gdX11_grants_33 : decode cX11_grants 33 = .ok (.ifCond .eq 15, 3) := by decide +kernel
theorem gdX11_grants_36 : decode cX11_grants 36 = .ok (.aload_n 0, 1) := by decide +kernel
theorem gdX11_grants_37 : decode cX11_grants 37 = .ok (.getfield 52, 3) := by decide +kernel
theorem gdX11_grants_40 : decode cX11_grants 40 = .ok (.iload_n 2, 1) := by decide +kernel
theorem gdX11_grants_41 : decode cX11_grants 41 = .ok (.iconst 1, 1) := by decide +kernel
theorem gdX11_grants_42 : decode cX11_grants 42 = .ok (.invokevirtual 251, 3) := by decide +kernel
theorem gdX11_grants_45 : decode cX11_grants 45 = .ok (.ifCond .ne 9, 3) := by decide +kernel
theorem gdX11_grants_54 : decode cX11_grants 54 = .ok (.aload_n 0, 1) := by decide +kernel
theorem gdX11_grants_55 : decode cX11_grants 55 = .ok (.getfield 80, 3) := by decide +kernel
theorem gdX11_grants_58 : decode cX11_grants 58 = .ok (.getfield 434, 3) := by decide +kernel
theorem gdX11_grants_61 : decode cX11_grants 61 = .ok (.ifCond .le 13, 3) := by decide +kernel
theorem gdX11_grants_74 : decode cX11_grants 74 = .ok (.aload_n 0, 1) := by decide +kernel
theorem gdX11_grants_75 : decode cX11_grants 75 = .ok (.getfield 136, 3) := by decide +kernel
theorem gdX11_grants_64 : decode cX11_grants 64 = .ok (.aload_n 0, 1) := by decide +kernel
theorem gdX11_grants_65 : decode cX11_grants 65 = .ok (.getfield 80, 3) := by decide +kernel
theorem gdX11_grants_68 : decode cX11_grants 68 = .ok (.getfield 424, 3) := by decide +kernel
theorem gdX11_grants_71 : decode cX11_grants 71 = .ok (.goto 7, 3) := by decide +kernel
theorem okm_X3_hash : okM yX3_hash cX3_hash 4 (some .long) 1 := ⟨w_1428, w_93, by decide +kernel, by decide +kernel, by decide +kernel⟩
theorem okw_X3_hash : okV yX3_hash := ⟨w_1426, w_1427⟩
theorem okm_X1_hash : okM yX1_hash cX1_hash 5 (some .long) 1 := ⟨w_1433, w_94, by decide +kernel, by decide +kernel, by decide +kernel⟩
theorem okw_X1_hash : okV yX1_hash := ⟨w_1431, w_1432⟩
theorem okm_X5_hash : okM yX5_hash cX5_hash 5 (some .long) 1 := ⟨w_1439, w_95, by decide +kernel, by decide +kernel, by decide +kernel⟩
theorem okw_X5_hash : okV yX5_hash := ⟨w_1437, w_1438⟩
theorem okm_X7_hash : okM yX7_hash cX7_hash 4 (some .long) 1 := ⟨w_1445, w_96, by decide +kernel, by decide +kernel, by decide +kernel⟩
theorem okw_X7_hash : okV yX7_hash := ⟨w_1443, w_1444⟩
theorem okm_X4_hash : okM yX4_hash cX4_hash 5 (some .long) 1 := ⟨w_1450, w_97, by decide +kernel, by decide +kernel, by decide +kernel⟩
theorem okw_X4_hash : okV yX4_hash := ⟨w_1448, w_1449⟩
theorem okm_X8_hash : okM yX8_hash cX8_hash 5 (some .long) 1 := ⟨w_1458, w_90, by decide +kernel, by decide +kernel, by decide +kernel⟩
theorem okw_X8_hash : okV yX8_hash := ⟨w_1456, w_1457⟩
theorem okm_X11_count : okM yX11_count cX11_count 2 (some .int) 1 := ⟨w_1396, w_89, by decide +kernel, by decide +kernel, by decide +kernel⟩
theorem okw_X11_count : okV yX11_count := ⟨w_1394, w_1395⟩
theorem okm_X2_bought : okM yX2_bought cX2_bought 2 (some .int) 1 := ⟨w_1113, w_98, by decide +kernel, by decide +kernel, by decide +kernel⟩
theorem okw_X2_bought : okV yX2_bought := ⟨w_1111, w_1112⟩
theorem okm_X1_cellOfOne : okM yX1_cellOfOne cX1_cellOfOne 2 (some .int) 1 := ⟨w_944, w_94, by decide +kernel, by decide +kernel, by decide +kernel⟩
theorem okw_X1_cellOfOne : okV yX1_cellOfOne := ⟨w_942, w_943⟩
theorem okm_X4_shownOn : okM yX4_shownOn cX4_shownOn 2 (some .int) 1 := ⟨w_922, w_97, by decide +kernel, by decide +kernel, by decide +kernel⟩
theorem okw_X4_shownOn : okV yX4_shownOn := ⟨w_920, w_921⟩
theorem okm_X2_dayOfBuy : okM yX2_dayOfBuy cX2_dayOfBuy 2 (some .int) 1 := ⟨w_1109, w_98, by decide +kernel, by decide +kernel, by decide +kernel⟩
theorem okw_X2_dayOfBuy : okV yX2_dayOfBuy := ⟨w_1107, w_1108⟩
theorem okm_X2_heardOn : okM yX2_heardOn cX2_heardOn 4 (some .int) 2 := ⟨w_1089, w_98, by decide +kernel, by decide +kernel, by decide +kernel⟩
theorem okw_X2_heardOn : okV yX2_heardOn := ⟨w_1087, w_1088⟩
theorem okm_X5_areKin : okM yX5_areKin cX5_areKin 3 (some .boolean) 2 := ⟨w_1126, w_95, by decide +kernel, by decide +kernel, by decide +kernel⟩
theorem okw_X5_areKin : okV yX5_areKin := ⟨w_1124, w_1125⟩
theorem okm_X11_isEarly : okM yX11_isEarly cX11_isEarly 4 (some .boolean) 2 := ⟨w_1105, w_89, by decide +kernel, by decide +kernel, by decide +kernel⟩
theorem okw_X11_isEarly : okV yX11_isEarly := ⟨w_1104, w_12⟩
theorem okm_X2_buyerHeard : okM yX2_buyerHeard cX2_buyerHeard 4 (some .boolean) 2 := ⟨w_1117, w_98, by decide +kernel, by decide +kernel, by decide +kernel⟩
theorem okw_X2_buyerHeard : okV yX2_buyerHeard := ⟨w_1115, w_1116⟩
theorem okm_X2_kinHeard : okM yX2_kinHeard cX2_kinHeard 5 (some .boolean) 3 := ⟨w_1122, w_98, by decide +kernel, by decide +kernel, by decide +kernel⟩
theorem okw_X2_kinHeard : okV yX2_kinHeard := ⟨w_1120, w_1121⟩
theorem okm_X1_firstIn : okM yX1_firstIn cX1_firstIn 6 (some .int) 2 := ⟨w_1197, w_94, by decide +kernel, by decide +kernel, by decide +kernel⟩
theorem okw_X1_firstIn : okV yX1_firstIn := ⟨w_1196, w_20⟩
theorem okm_X1_nearest : okM yX1_nearest cX1_nearest 12 (some .int) 3 := ⟨w_1193, w_94, by decide +kernel, by decide +kernel, by decide +kernel⟩
theorem okw_X1_nearest : okV yX1_nearest := ⟨w_1192, w_19⟩
theorem okm_X3_water : okM yX3_water cX3_water 4 (some .long) 0 := ⟨w_1183, w_93, by decide +kernel, by decide +kernel, by decide +kernel⟩
theorem okw_X3_water : okV yX3_water := ⟨w_1181, w_1182⟩
theorem okm_X1_shopsLeft : okM yX1_shopsLeft cX1_shopsLeft 11 (some .long) 4 := ⟨w_1189, w_94, by decide +kernel, by decide +kernel, by decide +kernel⟩
theorem okw_X1_shopsLeft : okV yX1_shopsLeft := ⟨w_1187, w_1188⟩
theorem okm_X1_off : okM yX1_off cX1_off 7 (some .long) 2 := ⟨w_1178, w_94, by decide +kernel, by decide +kernel, by decide +kernel⟩
theorem okw_X1_off : okV yX1_off := ⟨w_1176, w_1177⟩
theorem okm_X8_holds : okM yX8_holds cX8_holds 3 (some .boolean) 2 := ⟨w_546, w_90, by decide +kernel, by decide +kernel, by decide +kernel⟩
theorem okw_X8_holds : okV yX8_holds := ⟨w_544, w_545⟩
theorem okm_X7_isDigit : okM yX7_isDigit cX7_isDigit 1 (some .boolean) 1 := ⟨w_612, w_96, by decide +kernel, by decide +kernel, by decide +kernel⟩
theorem okm_X7_letterOf : okM yX7_letterOf cX7_letterOf 2 (some .int) 1 := ⟨w_603, w_96, by decide +kernel, by decide +kernel, by decide +kernel⟩
theorem okm_X7_digitsAt : okM yX7_digitsAt cX7_digitsAt 4 (some .int) 3 := ⟨w_608, w_96, by decide +kernel, by decide +kernel, by decide +kernel⟩
theorem okm_X7_firstFault : okM yX7_firstFault cX7_firstFault 5 (some .int) 2 := ⟨w_592, w_96, by decide +kernel, by decide +kernel, by decide +kernel⟩
theorem okm_X7_isLetter : okM yX7_isLetter cX7_isLetter 1 (some .boolean) 1 := ⟨w_770, w_96, by decide +kernel, by decide +kernel, by decide +kernel⟩
theorem okm_X11_isDay : okM yX11_isDay cX11_isDay 1 (some .boolean) 1 := ⟨w_686, w_89, by decide +kernel, by decide +kernel, by decide +kernel⟩
theorem okm_X4_add : okM yX4_add cX4_add 5 (some .int) 3 := ⟨w_872, w_97, by decide +kernel, by decide +kernel, by decide +kernel⟩
theorem okw_X4_add : okV yX4_add := ⟨w_870, w_871⟩
theorem okm_X4_setGrant : okM yX4_setGrant cX4_setGrant 4 none 3 := ⟨w_1002, w_97, by decide +kernel, by decide +kernel, by decide +kernel⟩
theorem okw_X4_setGrant : okV yX4_setGrant := ⟨w_1000, w_1001⟩
theorem okm_X4_dateOf : okM yX4_dateOf cX4_dateOf 2 (some .int) 1 := ⟨w_1241, w_97, by decide +kernel, by decide +kernel, by decide +kernel⟩
theorem okw_X4_dateOf : okV yX4_dateOf := ⟨w_1239, w_1240⟩
theorem okm_X4_amountOf : okM yX4_amountOf cX4_amountOf 2 (some .int) 1 := ⟨w_1049, w_97, by decide +kernel, by decide +kernel, by decide +kernel⟩
theorem okw_X4_amountOf : okV yX4_amountOf := ⟨w_1047, w_1048⟩
set_option maxHeartbeats 4000000 in
set_option maxRecDepth 100000 in
theorem c_X8_hash__4 (l : Launch) (g : GG) (ad : Nat → Nat) (o : OO) (z1 : Int64) (v : Int64) (h : s_X8_hash__4 o z1 = some v) : CL l g yX8_hash cX8_hash 5 (some .long) 1 22 (wC g ad o) [.ref (ad 4), .long z1] v (wC g ad o) := by
  refine met_L (by decide) (Nat.le_of_ble_eq_true rfl) ?_
  intro X E hQ
  show Go X 0 (wC g ad o) [(0, .ref (ad 4)), (1, .long z1)] []
  have j65 : ∀ (z1 : Int64), b_X8_hash__4_65 o z1 = some v → Go X 65 (wC g ad o) [(1, .long z1)] [] := by
    intro z1 h
    unfold b_X8_hash__4_65 at h
    refine g_lload_n E gdX8_hash_65 rfl 0 rfl ?_
    exact g_lret E hQ (Option.some.inj h) rfl gdX8_hash_66
  have j59 : ∀ (z1 : Int64) (x3 : Int) (v : (Int64 × Int) ⊕ ((Int64))), b_X8_hash__4_59 o z1 x3 = some v → (∀ (z1 : Int64) (x3 : Int), v = .inl (z1, x3) → Go X 2 (wC g ad o) [(0, .ref (ad 4)), (1, .long z1), (3, iv x3)] []) → (∀ (z1 : Int64), v = .inr (z1) → Go X 65 (wC g ad o) [(1, .long z1)] []) → Go X 59 (wC g ad o) [(0, .ref (ad 4)), (1, .long z1), (3, iv x3)] [] := by
    intro z1 x3 v h k0 k1
    unfold b_X8_hash__4_59 at h
    refine g_iinc E [(3, iv (x3 + 1)), (0, .ref (ad 4)), (1, .long z1)] gdX8_hash_59 2 rfl (by decide) rfl ?_
    refine g_goto E 2 gdX8_hash_62 (by decide) ?_
    refine g_sub E [1, 2, 0] rfl ?_
    exact k0 z1 (x3 + 1) (Option.some.inj h).symm
  have l27 : ∀ (x3 : Int) (r : (Int64)) (s0 : Int64 × Int), loopW (fun s => l_X8_hash__4_27 o x3 s.1 s.2) s0 = some r → (∀ (z1 : Int64), r = (z1) → Go X 59 (wC g ad o) [(0, .ref (ad 4)), (1, .long z1), (3, iv x3)] []) → Go X 27 (wC g ad o) [(0, .ref (ad 4)), (1, .long s0.1), (3, iv x3), (4, iv s0.2)] [] := by
    intro x3 r s0 h k1
    refine loop_rule (Head := fun s0 => Go X 27 (wC g ad o) [(0, .ref (ad 4)), (1, .long s0.1), (3, iv x3), (4, iv s0.2)] []) h ?_
    intro s v h kk kx
    obtain ⟨z1, x4⟩ := s
    have h : l_X8_hash__4_27 o x3 z1 x4 = some v := h
    have k0 : ∀ (z1 : Int64) (x4 : Int), v = .inl (z1, x4) → Go X 27 (wC g ad o) [(0, .ref (ad 4)), (1, .long z1), (3, iv x3), (4, iv x4)] [] := fun z1 x4 e => kk (z1, x4) e
    have k1 : ∀ (z1 : Int64), v = .inr (z1) → Go X 59 (wC g ad o) [(0, .ref (ad 4)), (1, .long z1), (3, iv x3)] [] := fun z1 e => k1 z1 (kx _ e).symm
    unfold l_X8_hash__4_27 at h
    refine g_iload E gdX8_hash_27 3 rfl ?_
    refine g_aload_n E gdX8_hash_29 rfl 0 rfl ?_
    refine g_get (T := TX8) E fw_X8 4 (wC_4 g ad o) rfl 2 (by decide) w_128 rfl rfl gdX8_hash_30 ?_
    refine g_iload_n E gdX8_hash_33 rfl 2 rfl ?_
    obtain ⟨hi1, h⟩ := qIn_of h
    refine g_iald E 5 (wC_5 g ad o) (by decide) hi1 gdX8_hash_34 ?_
    obtain ⟨n2, e_n2, h⟩ := qNm_of h
    refine g_nmi e_n2 ?_
    refine g_icmp_ge E 59 gdX8_hash_35 (by decide) h (fun h => ?_) (fun h => ?_)
    ·
      refine g_sub E [0, 1, 2] rfl ?_
      exact k1 z1 (Option.some.inj h).symm
    ·
      refine g_ldc2 E gdX8_hash_38 w_1459 ?_
      refine g_lload_n E gdX8_hash_41 rfl 1 rfl ?_
      refine g_lmul E gdX8_hash_42 ?_
      refine g_aload_n E gdX8_hash_43 rfl 0 rfl ?_
      refine g_iload_n E gdX8_hash_44 rfl 2 rfl ?_
      refine g_iload E gdX8_hash_45 3 rfl ?_
      obtain ⟨r3, hc4, h⟩ := qB_of h
      refine g_Vi (r := r3) (As := [iv x3, iv x4]) (rest := [.long ((31 : Int64) * z1)]) (w := wC g ad o) E (c_X8_at__4 l g ad o x3 x4 r3 hc4) okm_X8_at okw_X8_at w_799 rfl (wC_4 g ad o) rfl rfl (Nat.le_of_ble_eq_true rfl) ⟨Nat.le_of_ble_eq_true rfl, Nat.le_of_ble_eq_true rfl⟩ gdX8_hash_47 ?_
      refine g_i2l E gdX8_hash_50 ?_
      refine g_ladd E gdX8_hash_51 ?_
      obtain ⟨m5, e_m5, h⟩ := qNm_of h
      refine g_nml e_m5 ?_
      refine g_lstore_n E [(1, .long m5), (0, .ref (ad 4)), (3, iv x3), (4, iv x4)] gdX8_hash_52 rfl (by decide) rfl ?_
      refine g_iinc E [(4, iv (x4 + 1)), (1, .long m5), (0, .ref (ad 4)), (3, iv x3)] gdX8_hash_53 3 rfl (by decide) rfl ?_
      refine g_goto E 27 gdX8_hash_56 (by decide) ?_
      refine g_sub E [2, 1, 3, 0] rfl ?_
      exact k0 m5 (x4 + 1) (Option.some.inj h).symm
  have j27 : ∀ (z1 : Int64) (x3 : Int) (x4 : Int) (v : (Int64 × Int) ⊕ ((Int64))), e_X8_hash__4_27 o z1 x3 x4 = some v → (∀ (z1 : Int64) (x3 : Int), v = .inl (z1, x3) → Go X 2 (wC g ad o) [(0, .ref (ad 4)), (1, .long z1), (3, iv x3)] []) → (∀ (z1 : Int64), v = .inr (z1) → Go X 65 (wC g ad o) [(1, .long z1)] []) → Go X 27 (wC g ad o) [(0, .ref (ad 4)), (1, .long z1), (3, iv x3), (4, iv x4)] [] := by
    intro z1 x3 x4 v h k0 k1
    unfold e_X8_hash__4_27 at h
    obtain ⟨r, hr, h⟩ := qB_of h
    refine l27 x3 r _ hr ?_
    ·
      intro u0 e
      have e := e.symm
      subst e
      have h : b_X8_hash__4_59 o u0 x3 = some v := h
      exact j59 u0 x3 v h k0 k1
  have l2 : ∀  (r : (Int64)) (s0 : Int64 × Int), loopW (fun s => l_X8_hash__4_2 o s.1 s.2) s0 = some r → (∀ (z1 : Int64), r = (z1) → Go X 65 (wC g ad o) [(1, .long z1)] []) → Go X 2 (wC g ad o) [(0, .ref (ad 4)), (1, .long s0.1), (3, iv s0.2)] [] := by
    intro r s0 h k1
    refine loop_rule (Head := fun s0 => Go X 2 (wC g ad o) [(0, .ref (ad 4)), (1, .long s0.1), (3, iv s0.2)] []) h ?_
    intro s v h kk kx
    obtain ⟨z1, x3⟩ := s
    have h : l_X8_hash__4_2 o z1 x3 = some v := h
    have k0 : ∀ (z1 : Int64) (x3 : Int), v = .inl (z1, x3) → Go X 2 (wC g ad o) [(0, .ref (ad 4)), (1, .long z1), (3, iv x3)] [] := fun z1 x3 e => kk (z1, x3) e
    have k1 : ∀ (z1 : Int64), v = .inr (z1) → Go X 65 (wC g ad o) [(1, .long z1)] [] := fun z1 e => k1 z1 (kx _ e).symm
    unfold l_X8_hash__4_2 at h
    refine g_iload_n E gdX8_hash_2 rfl 2 rfl ?_
    refine g_aload_n E gdX8_hash_3 rfl 0 rfl ?_
    refine g_get (T := TX8) E fw_X8 4 (wC_4 g ad o) rfl 0 (by decide) w_126 rfl rfl gdX8_hash_4 ?_
    refine g_icmp_ge E 65 gdX8_hash_7 (by decide) h (fun h => ?_) (fun h => ?_)
    ·
      refine g_sub E [1] rfl ?_
      exact k1 z1 (Option.some.inj h).symm
    ·
      refine g_ldc2 E gdX8_hash_10 w_1459 ?_
      refine g_lload_n E gdX8_hash_13 rfl 1 rfl ?_
      refine g_lmul E gdX8_hash_14 ?_
      refine g_aload_n E gdX8_hash_15 rfl 0 rfl ?_
      refine g_get (T := TX8) E fw_X8 4 (wC_4 g ad o) rfl 2 (by decide) w_128 rfl rfl gdX8_hash_16 ?_
      refine g_iload_n E gdX8_hash_19 rfl 2 rfl ?_
      obtain ⟨hi6, h⟩ := qIn_of h
      refine g_iald E 5 (wC_5 g ad o) (by decide) hi6 gdX8_hash_20 ?_
      obtain ⟨n7, e_n7, h⟩ := qNm_of h
      refine g_nmi e_n7 ?_
      refine g_i2l E gdX8_hash_21 ?_
      refine g_ladd E gdX8_hash_22 ?_
      obtain ⟨m8, e_m8, h⟩ := qNm_of h
      refine g_nml e_m8 ?_
      refine g_lstore_n E [(1, .long m8), (0, .ref (ad 4)), (3, iv x3)] gdX8_hash_23 rfl (by decide) rfl ?_
      refine g_iconst E gdX8_hash_24 ?_
      refine g_istore E [(4, iv 0), (1, .long m8), (0, .ref (ad 4)), (3, iv x3)] gdX8_hash_25 (by decide) rfl ?_
      refine g_sub E [2, 1, 3, 0] rfl ?_
      exact j27 m8 x3 0 v h k0 k1
  have j2 : ∀ (z1 : Int64) (x3 : Int), e_X8_hash__4_2 o z1 x3 = some v → Go X 2 (wC g ad o) [(0, .ref (ad 4)), (1, .long z1), (3, iv x3)] [] := by
    intro z1 x3 h
    unfold e_X8_hash__4_2 at h
    obtain ⟨r, hr, h⟩ := qB_of h
    refine l2  r _ hr ?_
    ·
      intro u0 e
      have e := e.symm
      subst e
      have h : b_X8_hash__4_65 o u0 = some v := h
      exact j65 u0 h
  unfold s_X8_hash__4 at h
  refine g_iconst E gdX8_hash_0 ?_
  refine g_istore_n E [(3, iv 0), (0, .ref (ad 4)), (1, .long z1)] gdX8_hash_1 rfl (by decide) rfl ?_
  refine g_sub E [1, 2, 0] rfl ?_
  exact j2 z1 0 h
set_option maxHeartbeats 4000000 in
set_option maxRecDepth 100000 in
theorem c_X11_digest (l : Launch) (g : GG) (ad : Nat → Nat) (o : OO) (v : Int64) (h : s_X11_digest o = some v) : CL l g yX11_digest cX11_digest 4 (some .long) 4 86 (wC g ad o) [.ref (ad 0)] v (wC g ad o) := by
  refine met_L (by decide) (Nat.le_of_ble_eq_true rfl) ?_
  intro X E hQ
  show Go X 0 (wC g ad o) [(0, .ref (ad 0))] []
  have j31 : ∀ (z1 : Int64), b_X11_digest_31 o z1 = some v → Go X 31 (wC g ad o) [(0, .ref (ad 0)), (1, .long z1)] [] := by
    intro z1 h
    unfold b_X11_digest_31 at h
    refine g_aload_n E gdX11_digest_31 rfl 0 rfl ?_
    refine g_get (T := TX11) E fw_X11 0 (wC_0 g ad o) rfl 2 (by decide) w_460 rfl rfl gdX11_digest_32 ?_
    refine g_lload_n E gdX11_digest_35 rfl 1 rfl ?_
    obtain ⟨p1, hc2, h⟩ := qB_of h
    refine g_Vl (r := p1) (As := [.long z1]) (rest := []) (w := wC g ad o) E (c_X3_hash l g ad o z1 p1 hc2) okm_X3_hash okw_X3_hash w_1425 rfl (wC_7 g ad o) rfl rfl (Nat.le_of_ble_eq_true rfl) ⟨Nat.le_of_ble_eq_true rfl, Nat.le_of_ble_eq_true rfl⟩ gdX11_digest_36 ?_
    refine g_lstore_n E [(1, .long p1), (0, .ref (ad 0))] gdX11_digest_39 rfl (by decide) rfl ?_
    refine g_aload_n E gdX11_digest_40 rfl 1 rfl ?_
    refine g_get (T := TX11) E fw_X11 0 (wC_0 g ad o) rfl 3 (by decide) w_461 rfl rfl gdX11_digest_41 ?_
    refine g_lload_n E gdX11_digest_44 rfl 0 rfl ?_
    obtain ⟨p3, hc4, h⟩ := qB_of h
    refine g_Vl (r := p3) (As := [.long p1]) (rest := []) (w := wC g ad o) E (c_X1_hash l g ad o p1 p3 hc4) okm_X1_hash okw_X1_hash w_1430 rfl (wC_10 g ad o) rfl rfl (Nat.le_of_ble_eq_true rfl) ⟨Nat.le_of_ble_eq_true rfl, Nat.le_of_ble_eq_true rfl⟩ gdX11_digest_45 ?_
    refine g_lstore_n E [(1, .long p3), (0, .ref (ad 0))] gdX11_digest_48 rfl (by decide) rfl ?_
    refine g_aload_n E gdX11_digest_49 rfl 1 rfl ?_
    refine g_get (T := TX11) E fw_X11 0 (wC_0 g ad o) rfl 4 (by decide) w_462 rfl rfl gdX11_digest_50 ?_
    refine g_lload_n E gdX11_digest_53 rfl 0 rfl ?_
    obtain ⟨p5, hc6, h⟩ := qB_of h
    refine g_Vl (r := p5) (As := [.long p3]) (rest := []) (w := wC g ad o) E (c_X5_hash l g ad o p3 p5 hc6) okm_X5_hash okw_X5_hash w_1436 rfl (wC_23 g ad o) rfl rfl (Nat.le_of_ble_eq_true rfl) ⟨Nat.le_of_ble_eq_true rfl, Nat.le_of_ble_eq_true rfl⟩ gdX11_digest_54 ?_
    refine g_lstore_n E [(1, .long p5), (0, .ref (ad 0))] gdX11_digest_57 rfl (by decide) rfl ?_
    refine g_aload_n E gdX11_digest_58 rfl 1 rfl ?_
    refine g_get (T := TX11) E fw_X11 0 (wC_0 g ad o) rfl 5 (by decide) w_463 rfl rfl gdX11_digest_59 ?_
    refine g_lload_n E gdX11_digest_62 rfl 0 rfl ?_
    obtain ⟨p7, hc8, h⟩ := qB_of h
    refine g_Vl (r := p7) (As := [.long p5]) (rest := []) (w := wC g ad o) E (c_X7_hash l g ad o p5 p7 hc8) okm_X7_hash okw_X7_hash w_1442 rfl (wC_28 g ad o) rfl rfl (Nat.le_of_ble_eq_true rfl) ⟨Nat.le_of_ble_eq_true rfl, Nat.le_of_ble_eq_true rfl⟩ gdX11_digest_63 ?_
    refine g_lstore_n E [(1, .long p7), (0, .ref (ad 0))] gdX11_digest_66 rfl (by decide) rfl ?_
    refine g_aload_n E gdX11_digest_67 rfl 1 rfl ?_
    refine g_get (T := TX11) E fw_X11 0 (wC_0 g ad o) rfl 6 (by decide) w_464 rfl rfl gdX11_digest_68 ?_
    refine g_lload_n E gdX11_digest_71 rfl 0 rfl ?_
    obtain ⟨p9, hc10, h⟩ := qB_of h
    refine g_Vl (r := p9) (As := [.long p7]) (rest := []) (w := wC g ad o) E (c_X4_hash l g ad o p7 p9 hc10) okm_X4_hash okw_X4_hash w_1447 rfl (wC_32 g ad o) rfl rfl (Nat.le_of_ble_eq_true rfl) ⟨Nat.le_of_ble_eq_true rfl, Nat.le_of_ble_eq_true rfl⟩ gdX11_digest_72 ?_
    refine g_lstore_n E [(1, .long p9), (0, .ref (ad 0))] gdX11_digest_75 rfl (by decide) rfl ?_
    refine g_aload_n E gdX11_digest_76 rfl 1 rfl ?_
    refine g_get (T := TX11) E fw_X11 0 (wC_0 g ad o) rfl 0 (by decide) w_458 rfl rfl gdX11_digest_77 ?_
    refine g_lload_n E gdX11_digest_80 rfl 0 rfl ?_
    obtain ⟨p11, hc12, h⟩ := qB_of h
    refine g_Vl (r := p11) (As := [.long p9]) (rest := []) (w := wC g ad o) E (c_X8_hash l g ad o p9 p11 hc12) okm_X8_hash okw_X8_hash w_1455 rfl (wC_1 g ad o) rfl rfl (Nat.le_of_ble_eq_true rfl) ⟨Nat.le_of_ble_eq_true rfl, Nat.le_of_ble_eq_true rfl⟩ gdX11_digest_81 ?_
    refine g_lstore_n E [(1, .long p11), (0, .ref (ad 0))] gdX11_digest_84 rfl (by decide) rfl ?_
    refine g_aload_n E gdX11_digest_85 rfl 1 rfl ?_
    refine g_get (T := TX11) E fw_X11 0 (wC_0 g ad o) rfl 1 (by decide) w_459 rfl rfl gdX11_digest_86 ?_
    refine g_lload_n E gdX11_digest_89 rfl 0 rfl ?_
    obtain ⟨p13, hc14, h⟩ := qB_of h
    refine g_Vl (r := p13) (As := [.long p11]) (rest := []) (w := wC g ad o) E (c_X8_hash__4 l g ad o p11 p13 hc14) okm_X8_hash okw_X8_hash w_1455 rfl (wC_4 g ad o) rfl rfl (Nat.le_of_ble_eq_true rfl) ⟨Nat.le_of_ble_eq_true rfl, Nat.le_of_ble_eq_true rfl⟩ gdX11_digest_90 ?_
    exact g_lret E hQ (Option.some.inj h) rfl gdX11_digest_93
  have l6 : ∀  (r : (Int64)) (s0 : Int64 × Int), loopW (fun s => l_X11_digest_6 o s.1 s.2) s0 = some r → (∀ (z1 : Int64), r = (z1) → Go X 31 (wC g ad o) [(0, .ref (ad 0)), (1, .long z1)] []) → Go X 6 (wC g ad o) [(0, .ref (ad 0)), (1, .long s0.1), (3, iv s0.2)] [] := by
    intro r s0 h k1
    refine loop_rule (Head := fun s0 => Go X 6 (wC g ad o) [(0, .ref (ad 0)), (1, .long s0.1), (3, iv s0.2)] []) h ?_
    intro s v h kk kx
    obtain ⟨z1, x3⟩ := s
    have h : l_X11_digest_6 o z1 x3 = some v := h
    have k0 : ∀ (z1 : Int64) (x3 : Int), v = .inl (z1, x3) → Go X 6 (wC g ad o) [(0, .ref (ad 0)), (1, .long z1), (3, iv x3)] [] := fun z1 x3 e => kk (z1, x3) e
    have k1 : ∀ (z1 : Int64), v = .inr (z1) → Go X 31 (wC g ad o) [(0, .ref (ad 0)), (1, .long z1)] [] := fun z1 e => k1 z1 (kx _ e).symm
    unfold l_X11_digest_6 at h
    refine g_iload_n E gdX11_digest_6 rfl 2 rfl ?_
    refine g_bipush E gdX11_digest_7 (by decide) ?_
    refine g_icmp_gt E 31 gdX11_digest_9 (by decide) h (fun h => ?_) (fun h => ?_)
    ·
      refine g_sub E [0, 1] rfl ?_
      exact k1 z1 (Option.some.inj h).symm
    ·
      refine g_ldc2 E gdX11_digest_12 w_1423 ?_
      refine g_lload_n E gdX11_digest_15 rfl 1 rfl ?_
      refine g_lmul E gdX11_digest_16 ?_
      refine g_aload_n E gdX11_digest_17 rfl 0 rfl ?_
      refine g_iload_n E gdX11_digest_18 rfl 2 rfl ?_
      obtain ⟨r15, hc16, h⟩ := qB_of h
      refine g_Vi (r := r15) (As := [iv x3]) (rest := [.long ((31 : Int64) * z1)]) (w := wC g ad o) E (c_X11_count l g ad o x3 r15 hc16) okm_X11_count okw_X11_count w_1424 rfl (wC_0 g ad o) rfl rfl (Nat.le_of_ble_eq_true rfl) ⟨Nat.le_of_ble_eq_true rfl, Nat.le_of_ble_eq_true rfl⟩ gdX11_digest_19 ?_
      refine g_i2l E gdX11_digest_22 ?_
      refine g_ladd E gdX11_digest_23 ?_
      obtain ⟨m17, e_m17, h⟩ := qNm_of h
      refine g_nml e_m17 ?_
      refine g_lstore_n E [(1, .long m17), (0, .ref (ad 0)), (3, iv x3)] gdX11_digest_24 rfl (by decide) rfl ?_
      refine g_iinc E [(3, iv (x3 + 1)), (1, .long m17), (0, .ref (ad 0))] gdX11_digest_25 2 rfl (by decide) rfl ?_
      refine g_goto E 6 gdX11_digest_28 (by decide) ?_
      refine g_sub E [2, 1, 0] rfl ?_
      exact k0 m17 (x3 + 1) (Option.some.inj h).symm
  have j6 : ∀ (z1 : Int64) (x3 : Int), e_X11_digest_6 o z1 x3 = some v → Go X 6 (wC g ad o) [(0, .ref (ad 0)), (1, .long z1), (3, iv x3)] [] := by
    intro z1 x3 h
    unfold e_X11_digest_6 at h
    obtain ⟨r, hr, h⟩ := qB_of h
    refine l6  r _ hr ?_
    ·
      intro u0 e
      have e := e.symm
      subst e
      have h : b_X11_digest_31 o u0 = some v := h
      exact j31 u0 h
  unfold s_X11_digest at h
  refine g_ldc2 E gdX11_digest_0 w_1422 ?_
  obtain ⟨m18, e_m18, h⟩ := qNm_of h
  refine g_nml e_m18 ?_
  refine g_lstore_n E [(1, .long m18), (0, .ref (ad 0))] gdX11_digest_3 rfl (by decide) rfl ?_
  refine g_iconst E gdX11_digest_4 ?_
  refine g_istore_n E [(3, iv 0), (1, .long m18), (0, .ref (ad 0))] gdX11_digest_5 rfl (by decide) rfl ?_
  refine g_sub E [2, 1, 0] rfl ?_
  exact j6 m18 0 h
set_option maxHeartbeats 4000000 in
set_option maxRecDepth 100000 in
theorem c_X4_shownOn (l : Launch) (g : GG) (ad : Nat → Nat) (o : OO) (x1 : Int) (v : Int) (h : s_X4_shownOn o x1 = some v) : CI l g yX4_shownOn cX4_shownOn 2 (some .int) 0 0 (wC g ad o) [.ref (ad 32), iv x1] v (wC g ad o) := by
  refine met_I (by decide) (Nat.le_of_ble_eq_true rfl) ?_
  intro X E hQ
  show Go X 0 (wC g ad o) [(0, .ref (ad 32)), (1, iv x1)] []
  unfold s_X4_shownOn at h
  refine g_aload_n E gdX4_shownOn_0 rfl 0 rfl ?_
  refine g_get (T := TX4) E fw_X4 32 (wC_32 g ad o) rfl 7 (by decide) w_258 rfl rfl gdX4_shownOn_1 ?_
  refine g_iload_n E gdX4_shownOn_4 rfl 1 rfl ?_
  obtain ⟨hi1, h⟩ := qIn_of h
  refine g_iald E 40 (wC_40 g ad o) (by decide) hi1 gdX4_shownOn_5 ?_
  obtain ⟨n2, e_n2, h⟩ := qNm_of h
  refine g_nmi e_n2 ?_
  exact g_iret E hQ (Option.some.inj h) rfl gdX4_shownOn_6
set_option maxHeartbeats 4000000 in
set_option maxRecDepth 100000 in
theorem c_X2_dayOfBuy (l : Launch) (g : GG) (ad : Nat → Nat) (o : OO) (x1 : Int) (v : Int) (h : s_X2_dayOfBuy o x1 = some v) : CI l g yX2_dayOfBuy cX2_dayOfBuy 2 (some .int) 0 0 (wC g ad o) [.ref (ad 46), iv x1] v (wC g ad o) := by
  refine met_I (by decide) (Nat.le_of_ble_eq_true rfl) ?_
  intro X E hQ
  show Go X 0 (wC g ad o) [(0, .ref (ad 46)), (1, iv x1)] []
  unfold s_X2_dayOfBuy at h
  refine g_aload_n E gdX2_dayOfBuy_0 rfl 0 rfl ?_
  refine g_get (T := TX2) E fw_X2 46 (wC_46 g ad o) rfl 2 (by decide) w_303 rfl rfl gdX2_dayOfBuy_1 ?_
  refine g_iload_n E gdX2_dayOfBuy_4 rfl 1 rfl ?_
  obtain ⟨hi1, h⟩ := qIn_of h
  refine g_iald E 49 (wC_49 g ad o) (by decide) hi1 gdX2_dayOfBuy_5 ?_
  obtain ⟨n2, e_n2, h⟩ := qNm_of h
  refine g_nmi e_n2 ?_
  exact g_iret E hQ (Option.some.inj h) rfl gdX2_dayOfBuy_6
set_option maxHeartbeats 4000000 in
set_option maxRecDepth 100000 in
theorem c_X2_bought (l : Launch) (g : GG) (ad : Nat → Nat) (o : OO) (x1 : Int) (v : Int) (h : s_X2_bought o x1 = some v) : CI l g yX2_bought cX2_bought 2 (some .int) 0 0 (wC g ad o) [.ref (ad 46), iv x1] v (wC g ad o) := by
  refine met_I (by decide) (Nat.le_of_ble_eq_true rfl) ?_
  intro X E hQ
  show Go X 0 (wC g ad o) [(0, .ref (ad 46)), (1, iv x1)] []
  unfold s_X2_bought at h
  refine g_aload_n E gdX2_bought_0 rfl 0 rfl ?_
  refine g_get (T := TX2) E fw_X2 46 (wC_46 g ad o) rfl 0 (by decide) w_301 rfl rfl gdX2_bought_1 ?_
  refine g_iload_n E gdX2_bought_4 rfl 1 rfl ?_
  obtain ⟨hi1, h⟩ := qIn_of h
  refine g_iald E 47 (wC_47 g ad o) (by decide) hi1 gdX2_bought_5 ?_
  obtain ⟨n2, e_n2, h⟩ := qNm_of h
  refine g_nmi e_n2 ?_
  exact g_iret E hQ (Option.some.inj h) rfl gdX2_bought_6
set_option maxHeartbeats 4000000 in
set_option maxRecDepth 100000 in
theorem c_X1_cellOfOne (l : Launch) (g : GG) (ad : Nat → Nat) (o : OO) (x1 : Int) (v : Int) (h : s_X1_cellOfOne o x1 = some v) : CI l g yX1_cellOfOne cX1_cellOfOne 2 (some .int) 0 0 (wC g ad o) [.ref (ad 10), iv x1] v (wC g ad o) := by
  refine met_I (by decide) (Nat.le_of_ble_eq_true rfl) ?_
  intro X E hQ
  show Go X 0 (wC g ad o) [(0, .ref (ad 10)), (1, iv x1)] []
  unfold s_X1_cellOfOne at h
  refine g_aload_n E gdX1_cellOfOne_0 rfl 0 rfl ?_
  refine g_get (T := TX1) E fw_X1 10 (wC_10 g ad o) rfl 0 (by decide) w_160 rfl rfl gdX1_cellOfOne_1 ?_
  refine g_iload_n E gdX1_cellOfOne_4 rfl 1 rfl ?_
  obtain ⟨hi1, h⟩ := qIn_of h
  refine g_iald E 11 (wC_11 g ad o) (by decide) hi1 gdX1_cellOfOne_5 ?_
  obtain ⟨n2, e_n2, h⟩ := qNm_of h
  refine g_nmi e_n2 ?_
  exact g_iret E hQ (Option.some.inj h) rfl gdX1_cellOfOne_6
set_option maxHeartbeats 4000000 in
set_option maxRecDepth 100000 in
theorem c_X11_isEarly (l : Launch) (g : GG) (ad : Nat → Nat) (o : OO) (x1 : Int) (x2 : Int) (v : Int) (h : s_X11_isEarly o x1 x2 = some v) : CI l g yX11_isEarly cX11_isEarly 4 (some .boolean) 1 22 (wC g ad o) [.ref (ad 0), iv x1, iv x2] v (wC g ad o) := by
  refine met_I (by decide) (Nat.le_of_ble_eq_true rfl) ?_
  intro X E hQ
  show Go X 0 (wC g ad o) [(0, .ref (ad 0)), (1, iv x1), (2, iv x2)] []
  have j29 : ∀ (x1 : Int) (x2 : Int), b_X11_isEarly_29 o x1 x2 = some v → Go X 29 (wC g ad o) [(0, .ref (ad 0)), (1, iv x1), (2, iv x2)] [] := by
    intro x1 x2 h
    unfold b_X11_isEarly_29 at h
    refine g_aload_n E gdX11_isEarly_29 rfl 0 rfl ?_
    refine g_get (T := TX11) E fw_X11 0 (wC_0 g ad o) rfl 6 (by decide) w_464 rfl rfl gdX11_isEarly_30 ?_
    refine g_iload_n E gdX11_isEarly_33 rfl 2 rfl ?_
    obtain ⟨p1, hc2, h⟩ := qB_of h
    refine g_Vl (r := p1) (As := [iv x2]) (rest := []) (w := wC g ad o) E (c_X4_cells l g ad o x2 p1 hc2) okm_X4_cells okw_X4_cells w_890 rfl (wC_32 g ad o) rfl rfl (Nat.le_of_ble_eq_true rfl) ⟨Nat.le_of_ble_eq_true rfl, Nat.le_of_ble_eq_true rfl⟩ gdX11_isEarly_34 ?_
    refine g_aload_n E gdX11_isEarly_37 rfl 0 rfl ?_
    refine g_get (T := TX11) E fw_X11 0 (wC_0 g ad o) rfl 3 (by decide) w_461 rfl rfl gdX11_isEarly_38 ?_
    refine g_aload_n E gdX11_isEarly_41 rfl 0 rfl ?_
    refine g_get (T := TX11) E fw_X11 0 (wC_0 g ad o) rfl 7 (by decide) w_465 rfl rfl gdX11_isEarly_42 ?_
    refine g_iload_n E gdX11_isEarly_45 rfl 1 rfl ?_
    obtain ⟨r3, hc4, h⟩ := qB_of h
    refine g_Vi (r := r3) (As := [iv x1]) (rest := [.ref (ad 10), .long p1]) (w := wC g ad o) E (c_X2_bought l g ad o x1 r3 hc4) okm_X2_bought okw_X2_bought w_1110 rfl (wC_46 g ad o) rfl rfl (Nat.le_of_ble_eq_true rfl) ⟨Nat.le_of_ble_eq_true rfl, Nat.le_of_ble_eq_true rfl⟩ gdX11_isEarly_46 ?_
    obtain ⟨r5, hc6, h⟩ := qB_of h
    refine g_Vi (r := r5) (As := [iv r3]) (rest := [.long p1]) (w := wC g ad o) E (c_X1_cellOfOne l g ad o r3 r5 hc6) okm_X1_cellOfOne okw_X1_cellOfOne w_941 rfl (wC_10 g ad o) rfl rfl (Nat.le_of_ble_eq_true rfl) ⟨Nat.le_of_ble_eq_true rfl, Nat.le_of_ble_eq_true rfl⟩ gdX11_isEarly_49 ?_
    obtain ⟨r7, hc8, h⟩ := qB_of h
    refine g_Si (r := r7) (As := [.long p1, iv r5]) (rest := []) (w := wC g ad o) E (c_X3_has l g (wC g ad o) p1 r5 r7 hc8) okm_X3_has w_839 w_902 rfl rfl (Nat.le_of_ble_eq_true rfl) ⟨Nat.le_of_ble_eq_true rfl, Nat.le_of_ble_eq_true rfl⟩ gdX11_isEarly_52 ?_
    obtain ⟨hz, h⟩ := qZ_of h
    exact g_zret E hQ hz (Option.some.inj h) rfl gdX11_isEarly_55
  unfold s_X11_isEarly at h
  refine g_aload_n E gdX11_isEarly_0 rfl 0 rfl ?_
  refine g_get (T := TX11) E fw_X11 0 (wC_0 g ad o) rfl 6 (by decide) w_464 rfl rfl gdX11_isEarly_1 ?_
  refine g_iload_n E gdX11_isEarly_4 rfl 2 rfl ?_
  obtain ⟨r9, hc10, h⟩ := qB_of h
  refine g_Vi (r := r9) (As := [iv x2]) (rest := []) (w := wC g ad o) E (c_X4_shownOn l g ad o x2 r9 hc10) okm_X4_shownOn okw_X4_shownOn w_919 rfl (wC_32 g ad o) rfl rfl (Nat.le_of_ble_eq_true rfl) ⟨Nat.le_of_ble_eq_true rfl, Nat.le_of_ble_eq_true rfl⟩ gdX11_isEarly_5 ?_
  refine g_istore_n E [(3, iv r9), (0, .ref (ad 0)), (1, iv x1), (2, iv x2)] gdX11_isEarly_8 rfl (by decide) rfl ?_
  refine g_iload_n E gdX11_isEarly_9 rfl 0 rfl ?_
  refine g_bipush E gdX11_isEarly_10 (by decide) ?_
  refine g_icmp_eq E 29 gdX11_isEarly_12 (by decide) h (fun h => ?_) (fun h => ?_)
  ·
    refine g_sub E [1, 2, 3] rfl ?_
    exact j29 x1 x2 h
  ·
    refine g_aload_n E gdX11_isEarly_15 rfl 1 rfl ?_
    refine g_get (T := TX11) E fw_X11 0 (wC_0 g ad o) rfl 7 (by decide) w_465 rfl rfl gdX11_isEarly_16 ?_
    refine g_iload_n E gdX11_isEarly_19 rfl 2 rfl ?_
    obtain ⟨r11, hc12, h⟩ := qB_of h
    refine g_Vi (r := r11) (As := [iv x1]) (rest := []) (w := wC g ad o) E (c_X2_dayOfBuy l g ad o x1 r11 hc12) okm_X2_dayOfBuy okw_X2_dayOfBuy w_1106 rfl (wC_46 g ad o) rfl rfl (Nat.le_of_ble_eq_true rfl) ⟨Nat.le_of_ble_eq_true rfl, Nat.le_of_ble_eq_true rfl⟩ gdX11_isEarly_20 ?_
    refine g_iload_n E gdX11_isEarly_23 rfl 0 rfl ?_
    refine g_icmp_lt E 29 gdX11_isEarly_24 (by decide) h (fun h => ?_) (fun h => ?_)
    ·
      refine g_sub E [1, 2, 3] rfl ?_
      exact j29 x1 x2 h
    ·
      refine g_iconst E gdX11_isEarly_27 ?_
      obtain ⟨hz, h⟩ := qZ_of h
      exact g_zret E hQ hz (Option.some.inj h) rfl gdX11_isEarly_28
set_option maxHeartbeats 4000000 in
set_option maxRecDepth 100000 in
theorem c_X2_heardOn (l : Launch) (g : GG) (ad : Nat → Nat) (o : OO) (x1 : Int) (x2 : Int) (v : Int) (h : s_X2_heardOn o x1 x2 = some v) : CI l g yX2_heardOn cX2_heardOn 4 (some .int) 0 0 (wC g ad o) [.ref (ad 46), iv x1, iv x2] v (wC g ad o) := by
  refine met_I (by decide) (Nat.le_of_ble_eq_true rfl) ?_
  intro X E hQ
  show Go X 0 (wC g ad o) [(0, .ref (ad 46)), (1, iv x1), (2, iv x2)] []
  have j30 : ∀ (x3 : Int), b_X2_heardOn_30 o x3 = some v → Go X 30 (wC g ad o) [(0, .ref (ad 46)), (3, iv x3)] [] := by
    intro x3 h
    unfold b_X2_heardOn_30 at h
    refine g_aload_n E gdX2_heardOn_30 rfl 0 rfl ?_
    refine g_get (T := TX2) E fw_X2 46 (wC_46 g ad o) rfl 5 (by decide) w_306 rfl rfl gdX2_heardOn_31 ?_
    refine g_iload_n E gdX2_heardOn_34 rfl 1 rfl ?_
    obtain ⟨hi1, h⟩ := qIn_of h
    refine g_iald E 52 (wC_52 g ad o) (by decide) hi1 gdX2_heardOn_35 ?_
    obtain ⟨n2, e_n2, h⟩ := qNm_of h
    refine g_nmi e_n2 ?_
    exact g_iret E hQ (Option.some.inj h) rfl gdX2_heardOn_36
  have j43 : b_X2_heardOn_43 o = some v → Go X 43 (wC g ad o) [] [] := by
    intro h
    unfold b_X2_heardOn_43 at h
    refine g_bipush E gdX2_heardOn_43 (by decide) ?_
    exact g_iret E hQ (Option.some.inj h) rfl gdX2_heardOn_45
  have j37 : ∀ (x1 : Int) (x2 : Int) (x3 : Int) (v : (Int) ⊕ ((Int) ⊕ (Unit))), b_X2_heardOn_37 o x1 x2 x3 = some v → (∀ (x3 : Int), v = .inl x3 → Go X 2 (wC g ad o) [(0, .ref (ad 46)), (1, iv x1), (2, iv x2), (3, iv x3)] []) → (∀ (x3 : Int), v = .inr (.inl x3) → Go X 30 (wC g ad o) [(0, .ref (ad 46)), (3, iv x3)] []) → (v = .inr (.inr ()) → Go X 43 (wC g ad o) [] []) → Go X 37 (wC g ad o) [(0, .ref (ad 46)), (1, iv x1), (2, iv x2), (3, iv x3)] [] := by
    intro x1 x2 x3 v h k0 k1 k2
    unfold b_X2_heardOn_37 at h
    refine g_iinc E [(3, iv (x3 + 1)), (0, .ref (ad 46)), (1, iv x1), (2, iv x2)] gdX2_heardOn_37 3 rfl (by decide) rfl ?_
    refine g_goto E 2 gdX2_heardOn_40 (by decide) ?_
    refine g_sub E [1, 2, 3, 0] rfl ?_
    exact k0 (x3 + 1) (Option.some.inj h).symm
  have l2 : ∀ (x1 : Int) (x2 : Int) (r : (Int) ⊕ (Unit)) (s0 : Int), loopW (fun s => l_X2_heardOn_2 o x1 x2 s) s0 = some r → (∀ (x3 : Int), r = (.inl x3) → Go X 30 (wC g ad o) [(0, .ref (ad 46)), (3, iv x3)] []) → (r = (.inr ()) → Go X 43 (wC g ad o) [] []) → Go X 2 (wC g ad o) [(0, .ref (ad 46)), (1, iv x1), (2, iv x2), (3, iv s0)] [] := by
    intro x1 x2 r s0 h k1 k2
    refine loop_rule (Head := fun s0 => Go X 2 (wC g ad o) [(0, .ref (ad 46)), (1, iv x1), (2, iv x2), (3, iv s0)] []) h ?_
    intro s v h kk kx
    obtain ⟨x3, hs⟩ : ∃ q, q = s := ⟨_, rfl⟩
    subst hs
    have h : l_X2_heardOn_2 o x1 x2 x3 = some v := h
    have k0 : ∀ (x3 : Int), v = .inl x3 → Go X 2 (wC g ad o) [(0, .ref (ad 46)), (1, iv x1), (2, iv x2), (3, iv x3)] [] := fun x3 e => kk x3 e
    have k1 : ∀ (x3 : Int), v = .inr (.inl x3) → Go X 30 (wC g ad o) [(0, .ref (ad 46)), (3, iv x3)] [] := fun x3 e => k1 x3 (kx _ e).symm
    have k2 : v = .inr (.inr ()) → Go X 43 (wC g ad o) [] [] := fun e => k2 (kx _ e).symm
    unfold l_X2_heardOn_2 at h
    refine g_iload_n E gdX2_heardOn_2 rfl 3 rfl ?_
    refine g_aload_n E gdX2_heardOn_3 rfl 0 rfl ?_
    refine g_get (T := TX2) E fw_X2 46 (wC_46 g ad o) rfl 7 (by decide) w_308 rfl rfl gdX2_heardOn_4 ?_
    refine g_icmp_ge E 43 gdX2_heardOn_7 (by decide) h (fun h => ?_) (fun h => ?_)
    ·
      refine g_sub E [] rfl ?_
      exact k2  (Option.some.inj h).symm
    ·
      refine g_aload_n E gdX2_heardOn_10 rfl 0 rfl ?_
      refine g_get (T := TX2) E fw_X2 46 (wC_46 g ad o) rfl 3 (by decide) w_304 rfl rfl gdX2_heardOn_11 ?_
      refine g_iload_n E gdX2_heardOn_14 rfl 3 rfl ?_
      obtain ⟨hi3, h⟩ := qIn_of h
      refine g_iald E 50 (wC_50 g ad o) (by decide) hi3 gdX2_heardOn_15 ?_
      obtain ⟨n4, e_n4, h⟩ := qNm_of h
      refine g_nmi e_n4 ?_
      refine g_iload_n E gdX2_heardOn_16 rfl 1 rfl ?_
      refine g_icmp_ne E 37 gdX2_heardOn_17 (by decide) h (fun h => ?_) (fun h => ?_)
      ·
        exact j37 x1 x2 x3 v h k0 k1 k2
      ·
        refine g_aload_n E gdX2_heardOn_20 rfl 0 rfl ?_
        refine g_get (T := TX2) E fw_X2 46 (wC_46 g ad o) rfl 4 (by decide) w_305 rfl rfl gdX2_heardOn_21 ?_
        refine g_iload_n E gdX2_heardOn_24 rfl 3 rfl ?_
        obtain ⟨hi5, h⟩ := qIn_of h
        refine g_iald E 51 (wC_51 g ad o) (by decide) hi5 gdX2_heardOn_25 ?_
        obtain ⟨n6, e_n6, h⟩ := qNm_of h
        refine g_nmi e_n6 ?_
        refine g_iload_n E gdX2_heardOn_26 rfl 2 rfl ?_
        refine g_icmp_ne E 37 gdX2_heardOn_27 (by decide) h (fun h => ?_) (fun h => ?_)
        ·
          exact j37 x1 x2 x3 v h k0 k1 k2
        ·
          refine g_sub E [0, 3] rfl ?_
          exact k1 x3 (Option.some.inj h).symm
  have j2 : ∀ (x1 : Int) (x2 : Int) (x3 : Int), e_X2_heardOn_2 o x1 x2 x3 = some v → Go X 2 (wC g ad o) [(0, .ref (ad 46)), (1, iv x1), (2, iv x2), (3, iv x3)] [] := by
    intro x1 x2 x3 h
    unfold e_X2_heardOn_2 at h
    obtain ⟨r, hr, h⟩ := qB_of h
    refine l2 x1 x2 r _ hr ?_ ?_
    ·
      intro u0 e
      subst e
      have h : b_X2_heardOn_30 o u0 = some v := h
      exact j30 u0 h
    ·
      intro e
      subst e
      have h : b_X2_heardOn_43 o = some v := h
      exact j43  h
  unfold s_X2_heardOn at h
  refine g_iconst E gdX2_heardOn_0 ?_
  refine g_istore_n E [(3, iv 0), (0, .ref (ad 46)), (1, iv x1), (2, iv x2)] gdX2_heardOn_1 rfl (by decide) rfl ?_
  refine g_sub E [1, 2, 3, 0] rfl ?_
  exact j2 x1 x2 0 h
set_option maxHeartbeats 4000000 in
set_option maxRecDepth 100000 in
theorem c_X2_buyerHeard (l : Launch) (g : GG) (ad : Nat → Nat) (o : OO) (x1 : Int) (x2 : Int) (v : Int) (h : s_X2_buyerHeard o x1 x2 = some v) : CI l g yX2_buyerHeard cX2_buyerHeard 4 (some .boolean) 1 23 (wC g ad o) [.ref (ad 46), iv x1, iv x2] v (wC g ad o) := by
  refine met_I (by decide) (Nat.le_of_ble_eq_true rfl) ?_
  intro X E hQ
  show Go X 0 (wC g ad o) [(0, .ref (ad 46)), (1, iv x1), (2, iv x2)] []
  have j33 : ∀ (y0 : Int), b_X2_buyerHeard_33 o y0 = some v → Go X 33 (wC g ad o) [] [iv y0] := by
    intro y0 h
    unfold b_X2_buyerHeard_33 at h
    obtain ⟨hz, h⟩ := qZ_of h
    exact g_zret E hQ hz (Option.some.inj h) rfl gdX2_buyerHeard_33
  have j32 : b_X2_buyerHeard_32 o = some v → Go X 32 (wC g ad o) [] [] := by
    intro h
    unfold b_X2_buyerHeard_32 at h
    refine g_iconst E gdX2_buyerHeard_32 ?_
    exact j33 0 h
  unfold s_X2_buyerHeard at h
  refine g_aload_n E gdX2_buyerHeard_0 rfl 0 rfl ?_
  refine g_aload_n E gdX2_buyerHeard_1 rfl 0 rfl ?_
  refine g_get (T := TX2) E fw_X2 46 (wC_46 g ad o) rfl 1 (by decide) w_302 rfl rfl gdX2_buyerHeard_2 ?_
  refine g_iload_n E gdX2_buyerHeard_5 rfl 1 rfl ?_
  obtain ⟨hi1, h⟩ := qIn_of h
  refine g_iald E 48 (wC_48 g ad o) (by decide) hi1 gdX2_buyerHeard_6 ?_
  obtain ⟨n2, e_n2, h⟩ := qNm_of h
  refine g_nmi e_n2 ?_
  refine g_iload_n E gdX2_buyerHeard_7 rfl 2 rfl ?_
  obtain ⟨r3, hc4, h⟩ := qB_of h
  refine g_Vi (r := r3) (As := [iv n2, iv x2]) (rest := []) (w := wC g ad o) E (c_X2_heardOn l g ad o n2 x2 r3 hc4) okm_X2_heardOn okw_X2_heardOn w_1118 rfl (wC_46 g ad o) rfl rfl (Nat.le_of_ble_eq_true rfl) ⟨Nat.le_of_ble_eq_true rfl, Nat.le_of_ble_eq_true rfl⟩ gdX2_buyerHeard_8 ?_
  refine g_istore_n E [(3, iv r3), (0, .ref (ad 46)), (1, iv x1), (2, iv x2)] gdX2_buyerHeard_11 rfl (by decide) rfl ?_
  refine g_iload_n E gdX2_buyerHeard_12 rfl 0 rfl ?_
  refine g_bipush E gdX2_buyerHeard_13 (by decide) ?_
  refine g_icmp_eq E 32 gdX2_buyerHeard_15 (by decide) h (fun h => ?_) (fun h => ?_)
  ·
    refine g_sub E [] rfl ?_
    exact j32  h
  ·
    refine g_iload_n E gdX2_buyerHeard_18 rfl 0 rfl ?_
    refine g_aload_n E gdX2_buyerHeard_19 rfl 1 rfl ?_
    refine g_get (T := TX2) E fw_X2 46 (wC_46 g ad o) rfl 2 (by decide) w_303 rfl rfl gdX2_buyerHeard_20 ?_
    refine g_iload_n E gdX2_buyerHeard_23 rfl 2 rfl ?_
    obtain ⟨hi5, h⟩ := qIn_of h
    refine g_iald E 49 (wC_49 g ad o) (by decide) hi5 gdX2_buyerHeard_24 ?_
    obtain ⟨n6, e_n6, h⟩ := qNm_of h
    refine g_nmi e_n6 ?_
    refine g_icmp_gt E 32 gdX2_buyerHeard_25 (by decide) h (fun h => ?_) (fun h => ?_)
    ·
      refine g_sub E [] rfl ?_
      exact j32  h
    ·
      refine g_iconst E gdX2_buyerHeard_28 ?_
      refine g_goto E 33 gdX2_buyerHeard_29 (by decide) ?_
      refine g_sub E [] rfl ?_
      exact j33 1 h
set_option maxHeartbeats 4000000 in
set_option maxRecDepth 100000 in
theorem c_X5_areKin (l : Launch) (g : GG) (ad : Nat → Nat) (o : OO) (x1 : Int) (x2 : Int) (v : Int) (h : s_X5_areKin o x1 x2 = some v) : CI l g yX5_areKin cX5_areKin 3 (some .boolean) 0 0 (wC g ad o) [.ref (ad 23), iv x1, iv x2] v (wC g ad o) := by
  refine met_I (by decide) (Nat.le_of_ble_eq_true rfl) ?_
  intro X E hQ
  show Go X 0 (wC g ad o) [(0, .ref (ad 23)), (1, iv x1), (2, iv x2)] []
  have j20 : ∀ (y0 : Int), b_X5_areKin_20 o y0 = some v → Go X 20 (wC g ad o) [] [iv y0] := by
    intro y0 h
    unfold b_X5_areKin_20 at h
    obtain ⟨hz, h⟩ := qZ_of h
    exact g_zret E hQ hz (Option.some.inj h) rfl gdX5_areKin_20
  unfold s_X5_areKin at h
  refine g_aload_n E gdX5_areKin_0 rfl 0 rfl ?_
  refine g_get (T := TX5) E fw_X5 23 (wC_23 g ad o) rfl 3 (by decide) w_213 rfl rfl gdX5_areKin_1 ?_
  refine g_iload_n E gdX5_areKin_4 rfl 1 rfl ?_
  obtain ⟨hi1, h⟩ := qIn_of h
  refine g_iald E 27 (wC_27 g ad o) (by decide) hi1 gdX5_areKin_5 ?_
  obtain ⟨n2, e_n2, h⟩ := qNm_of h
  refine g_nmi e_n2 ?_
  refine g_aload_n E gdX5_areKin_6 rfl 0 rfl ?_
  refine g_get (T := TX5) E fw_X5 23 (wC_23 g ad o) rfl 3 (by decide) w_213 rfl rfl gdX5_areKin_7 ?_
  refine g_iload_n E gdX5_areKin_10 rfl 2 rfl ?_
  obtain ⟨hi3, h⟩ := qIn_of h
  refine g_iald E 27 (wC_27 g ad o) (by decide) hi3 gdX5_areKin_11 ?_
  obtain ⟨n4, e_n4, h⟩ := qNm_of h
  refine g_nmi e_n4 ?_
  refine g_icmp_ne E 19 gdX5_areKin_12 (by decide) h (fun h => ?_) (fun h => ?_)
  ·
    refine g_iconst E gdX5_areKin_19 ?_
    refine g_sub E [] rfl ?_
    exact j20 0 h
  ·
    refine g_iconst E gdX5_areKin_15 ?_
    refine g_goto E 20 gdX5_areKin_16 (by decide) ?_
    refine g_sub E [] rfl ?_
    exact j20 1 h
set_option maxHeartbeats 4000000 in
set_option maxRecDepth 100000 in
theorem c_X2_kinHeard (l : Launch) (g : GG) (ad : Nat → Nat) (o : OO) (x2 : Int) (x3 : Int) (v : Int) (h : s_X2_kinHeard o x2 x3 = some v) : CI l g yX2_kinHeard cX2_kinHeard 5 (some .boolean) 1 22 (wC g ad o) [.ref (ad 46), .ref (ad 23), iv x2, iv x3] v (wC g ad o) := by
  refine met_I (by decide) (Nat.le_of_ble_eq_true rfl) ?_
  intro X E hQ
  show Go X 0 (wC g ad o) [(0, .ref (ad 46)), (1, .ref (ad 23)), (2, iv x2), (3, iv x3)] []
  have j62 : b_X2_kinHeard_62 o = some v → Go X 62 (wC g ad o) [] [] := by
    intro h
    unfold b_X2_kinHeard_62 at h
    refine g_iconst E gdX2_kinHeard_62 ?_
    obtain ⟨hz, h⟩ := qZ_of h
    exact g_zret E hQ hz (Option.some.inj h) rfl gdX2_kinHeard_63
  have j70 : b_X2_kinHeard_70 o = some v → Go X 70 (wC g ad o) [] [] := by
    intro h
    unfold b_X2_kinHeard_70 at h
    refine g_iconst E gdX2_kinHeard_70 ?_
    obtain ⟨hz, h⟩ := qZ_of h
    exact g_zret E hQ hz (Option.some.inj h) rfl gdX2_kinHeard_71
  have j64 : ∀ (x2 : Int) (x3 : Int) (x4 : Int) (v : (Int) ⊕ ((Unit) ⊕ (Unit))), b_X2_kinHeard_64 o x2 x3 x4 = some v → (∀ (x4 : Int), v = .inl x4 → Go X 3 (wC g ad o) [(0, .ref (ad 46)), (1, .ref (ad 23)), (2, iv x2), (3, iv x3), (4, iv x4)] []) → (v = .inr (.inl ()) → Go X 62 (wC g ad o) [] []) → (v = .inr (.inr ()) → Go X 70 (wC g ad o) [] []) → Go X 64 (wC g ad o) [(0, .ref (ad 46)), (1, .ref (ad 23)), (2, iv x2), (3, iv x3), (4, iv x4)] [] := by
    intro x2 x3 x4 v h k0 k1 k2
    unfold b_X2_kinHeard_64 at h
    refine g_iinc E [(4, iv (x4 + 1)), (0, .ref (ad 46)), (1, .ref (ad 23)), (2, iv x2), (3, iv x3)] gdX2_kinHeard_64 4 rfl (by decide) rfl ?_
    refine g_goto E 3 gdX2_kinHeard_67 (by decide) ?_
    refine g_sub E [1, 2, 3, 4, 0] rfl ?_
    exact k0 (x4 + 1) (Option.some.inj h).symm
  have l3 : ∀ (x2 : Int) (x3 : Int) (r : (Unit) ⊕ (Unit)) (s0 : Int), loopW (fun s => l_X2_kinHeard_3 o x2 x3 s) s0 = some r → (r = (.inl ()) → Go X 62 (wC g ad o) [] []) → (r = (.inr ()) → Go X 70 (wC g ad o) [] []) → Go X 3 (wC g ad o) [(0, .ref (ad 46)), (1, .ref (ad 23)), (2, iv x2), (3, iv x3), (4, iv s0)] [] := by
    intro x2 x3 r s0 h k1 k2
    refine loop_rule (Head := fun s0 => Go X 3 (wC g ad o) [(0, .ref (ad 46)), (1, .ref (ad 23)), (2, iv x2), (3, iv x3), (4, iv s0)] []) h ?_
    intro s v h kk kx
    obtain ⟨x4, hs⟩ : ∃ q, q = s := ⟨_, rfl⟩
    subst hs
    have h : l_X2_kinHeard_3 o x2 x3 x4 = some v := h
    have k0 : ∀ (x4 : Int), v = .inl x4 → Go X 3 (wC g ad o) [(0, .ref (ad 46)), (1, .ref (ad 23)), (2, iv x2), (3, iv x3), (4, iv x4)] [] := fun x4 e => kk x4 e
    have k1 : v = .inr (.inl ()) → Go X 62 (wC g ad o) [] [] := fun e => k1 (kx _ e).symm
    have k2 : v = .inr (.inr ()) → Go X 70 (wC g ad o) [] [] := fun e => k2 (kx _ e).symm
    unfold l_X2_kinHeard_3 at h
    refine g_iload E gdX2_kinHeard_3 4 rfl ?_
    refine g_aload_n E gdX2_kinHeard_5 rfl 0 rfl ?_
    refine g_get (T := TX2) E fw_X2 46 (wC_46 g ad o) rfl 7 (by decide) w_308 rfl rfl gdX2_kinHeard_6 ?_
    refine g_icmp_ge E 70 gdX2_kinHeard_9 (by decide) h (fun h => ?_) (fun h => ?_)
    ·
      refine g_sub E [] rfl ?_
      exact k2  (Option.some.inj h).symm
    ·
      refine g_aload_n E gdX2_kinHeard_12 rfl 0 rfl ?_
      refine g_get (T := TX2) E fw_X2 46 (wC_46 g ad o) rfl 4 (by decide) w_305 rfl rfl gdX2_kinHeard_13 ?_
      refine g_iload E gdX2_kinHeard_16 4 rfl ?_
      obtain ⟨hi1, h⟩ := qIn_of h
      refine g_iald E 51 (wC_51 g ad o) (by decide) hi1 gdX2_kinHeard_18 ?_
      obtain ⟨n2, e_n2, h⟩ := qNm_of h
      refine g_nmi e_n2 ?_
      refine g_iload_n E gdX2_kinHeard_19 rfl 3 rfl ?_
      refine g_icmp_ne E 64 gdX2_kinHeard_20 (by decide) h (fun h => ?_) (fun h => ?_)
      ·
        exact j64 x2 x3 x4 v h k0 k1 k2
      ·
        refine g_aload_n E gdX2_kinHeard_23 rfl 0 rfl ?_
        refine g_get (T := TX2) E fw_X2 46 (wC_46 g ad o) rfl 5 (by decide) w_306 rfl rfl gdX2_kinHeard_24 ?_
        refine g_iload E gdX2_kinHeard_27 4 rfl ?_
        obtain ⟨hi3, h⟩ := qIn_of h
        refine g_iald E 52 (wC_52 g ad o) (by decide) hi3 gdX2_kinHeard_29 ?_
        obtain ⟨n4, e_n4, h⟩ := qNm_of h
        refine g_nmi e_n4 ?_
        refine g_aload_n E gdX2_kinHeard_30 rfl 0 rfl ?_
        refine g_get (T := TX2) E fw_X2 46 (wC_46 g ad o) rfl 2 (by decide) w_303 rfl rfl gdX2_kinHeard_31 ?_
        refine g_iload_n E gdX2_kinHeard_34 rfl 2 rfl ?_
        obtain ⟨hi5, h⟩ := qIn_of h
        refine g_iald E 49 (wC_49 g ad o) (by decide) hi5 gdX2_kinHeard_35 ?_
        obtain ⟨n6, e_n6, h⟩ := qNm_of h
        refine g_nmi e_n6 ?_
        refine g_icmp_le E 42 gdX2_kinHeard_36 (by decide) h (fun h => ?_) (fun h => ?_)
        ·
          refine g_aload_n E gdX2_kinHeard_42 rfl 1 rfl ?_
          refine g_aload_n E gdX2_kinHeard_43 rfl 0 rfl ?_
          refine g_get (T := TX2) E fw_X2 46 (wC_46 g ad o) rfl 3 (by decide) w_304 rfl rfl gdX2_kinHeard_44 ?_
          refine g_iload E gdX2_kinHeard_47 4 rfl ?_
          obtain ⟨hi7, h⟩ := qIn_of h
          refine g_iald E 50 (wC_50 g ad o) (by decide) hi7 gdX2_kinHeard_49 ?_
          obtain ⟨n8, e_n8, h⟩ := qNm_of h
          refine g_nmi e_n8 ?_
          refine g_aload_n E gdX2_kinHeard_50 rfl 0 rfl ?_
          refine g_get (T := TX2) E fw_X2 46 (wC_46 g ad o) rfl 1 (by decide) w_302 rfl rfl gdX2_kinHeard_51 ?_
          refine g_iload_n E gdX2_kinHeard_54 rfl 2 rfl ?_
          obtain ⟨hi9, h⟩ := qIn_of h
          refine g_iald E 48 (wC_48 g ad o) (by decide) hi9 gdX2_kinHeard_55 ?_
          obtain ⟨n10, e_n10, h⟩ := qNm_of h
          refine g_nmi e_n10 ?_
          obtain ⟨r11, hc12, h⟩ := qB_of h
          refine g_Vi (r := r11) (As := [iv n8, iv n10]) (rest := []) (w := wC g ad o) E (c_X5_areKin l g ad o n8 n10 r11 hc12) okm_X5_areKin okw_X5_areKin w_1123 rfl (wC_23 g ad o) rfl rfl (Nat.le_of_ble_eq_true rfl) ⟨Nat.le_of_ble_eq_true rfl, Nat.le_of_ble_eq_true rfl⟩ gdX2_kinHeard_56 ?_
          refine g_if_eq E 64 gdX2_kinHeard_59 (by decide) h (fun h => ?_) (fun h => ?_)
          ·
            exact j64 x2 x3 x4 v h k0 k1 k2
          ·
            refine g_sub E [] rfl ?_
            exact k1  (Option.some.inj h).symm
        ·
          refine g_goto E 64 gdX2_kinHeard_39 (by decide) ?_
          exact j64 x2 x3 x4 v h k0 k1 k2
  have j3 : ∀ (x2 : Int) (x3 : Int) (x4 : Int), e_X2_kinHeard_3 o x2 x3 x4 = some v → Go X 3 (wC g ad o) [(0, .ref (ad 46)), (1, .ref (ad 23)), (2, iv x2), (3, iv x3), (4, iv x4)] [] := by
    intro x2 x3 x4 h
    unfold e_X2_kinHeard_3 at h
    obtain ⟨r, hr, h⟩ := qB_of h
    refine l3 x2 x3 r _ hr ?_ ?_
    ·
      intro e
      subst e
      have h : b_X2_kinHeard_62 o = some v := h
      exact j62  h
    ·
      intro e
      subst e
      have h : b_X2_kinHeard_70 o = some v := h
      exact j70  h
  unfold s_X2_kinHeard at h
  refine g_iconst E gdX2_kinHeard_0 ?_
  refine g_istore E [(4, iv 0), (0, .ref (ad 46)), (1, .ref (ad 23)), (2, iv x2), (3, iv x3)] gdX2_kinHeard_1 (by decide) rfl ?_
  refine g_sub E [1, 2, 3, 4, 0] rfl ?_
  exact j3 x2 x3 0 h
set_option maxHeartbeats 4000000 in
set_option maxRecDepth 100000 in
theorem c_X11_early (l : Launch) (g : GG) (ad : Nat → Nat) (o : OO) (x1 : Int) (v : Int × OO) (h : s_X11_early o x1 = some v) : CI l g yX11_early cX11_early 5 (some .int) 2 46 (wC g ad o) [.ref (ad 0), iv x1] v.1 (wC g ad v.2) := by
  refine met_I (by decide) (Nat.le_of_ble_eq_true rfl) ?_
  intro X E hQ
  show Go X 0 (wC g ad o) [(0, .ref (ad 0)), (1, iv x1)] []
  have j108 : ∀ (o : OO) (x2 : Int) (x3 : Int), b_X11_early_108 o x2 x3 = some v → Go X 108 (wC g ad o) [(2, iv x2), (3, iv x3)] [] := by
    intro o x2 x3 h
    unfold b_X11_early_108 at h
    refine g_bipush E gdX11_early_108 (by decide) ?_
    refine g_iload_n E gdX11_early_110 rfl 0 rfl ?_
    refine g_imul E gdX11_early_111 ?_
    refine g_iload_n E gdX11_early_112 rfl 1 rfl ?_
    refine g_iadd E gdX11_early_113 ?_
    exact g_iret E hQ (by rw [← Option.some.inj h]) (by rw [← Option.some.inj h]) gdX11_early_114
  have j102 : ∀ (o : OO) (x1 : Int) (x2 : Int) (x3 : Int) (x4 : Int) (v : (Int × Int × Int) ⊕ ((Int × Int))), b_X11_early_102 o x1 x2 x3 x4 = some v → (∀ (x2 : Int) (x3 : Int) (x4 : Int), v = .inl (x2, x3, x4) → Go X 38 (wC g ad o) [(0, .ref (ad 0)), (1, iv x1), (2, iv x2), (3, iv x3), (4, iv x4)] []) → (∀ (x2 : Int) (x3 : Int), v = .inr ((x2, x3)) → Go X 108 (wC g ad o) [(2, iv x2), (3, iv x3)] []) → Go X 102 (wC g ad o) [(0, .ref (ad 0)), (1, iv x1), (2, iv x2), (3, iv x3), (4, iv x4)] [] := by
    intro o x1 x2 x3 x4 v h k0 k1
    unfold b_X11_early_102 at h
    refine g_iinc E [(4, iv (x4 + 1)), (0, .ref (ad 0)), (1, iv x1), (2, iv x2), (3, iv x3)] gdX11_early_102 4 rfl (by decide) rfl ?_
    refine g_goto E 38 gdX11_early_105 (by decide) ?_
    refine g_sub E [1, 2, 3, 4, 0] rfl ?_
    exact k0 x2 x3 (x4 + 1) (Option.some.inj h).symm
  have l38 : ∀ (o : OO) (x1 : Int) (r : (Int × Int)) (s0 : Int × Int × Int), loopW (fun s => l_X11_early_38 o x1 s.1 s.2.1 s.2.2) s0 = some r → (∀ (x2 : Int) (x3 : Int), r = ((x2, x3)) → Go X 108 (wC g ad o) [(2, iv x2), (3, iv x3)] []) → Go X 38 (wC g ad o) [(0, .ref (ad 0)), (1, iv x1), (2, iv s0.1), (3, iv s0.2.1), (4, iv s0.2.2)] [] := by
    intro o x1 r s0 h k1
    refine loop_rule (Head := fun s0 => Go X 38 (wC g ad o) [(0, .ref (ad 0)), (1, iv x1), (2, iv s0.1), (3, iv s0.2.1), (4, iv s0.2.2)] []) h ?_
    intro s v h kk kx
    obtain ⟨x2, x3, x4⟩ := s
    have h : l_X11_early_38 o x1 x2 x3 x4 = some v := h
    have k0 : ∀ (x2 : Int) (x3 : Int) (x4 : Int), v = .inl (x2, x3, x4) → Go X 38 (wC g ad o) [(0, .ref (ad 0)), (1, iv x1), (2, iv x2), (3, iv x3), (4, iv x4)] [] := fun x2 x3 x4 e => kk (x2, x3, x4) e
    have k1 : ∀ (x2 : Int) (x3 : Int), v = .inr ((x2, x3)) → Go X 108 (wC g ad o) [(2, iv x2), (3, iv x3)] [] := fun x2 x3 e => k1 x2 x3 (kx _ e).symm
    unfold l_X11_early_38 at h
    refine g_iload E gdX11_early_38 4 rfl ?_
    refine g_aload_n E gdX11_early_40 rfl 0 rfl ?_
    refine g_get (T := TX11) E fw_X11 0 (wC_0 g ad o) rfl 7 (by decide) w_465 rfl rfl gdX11_early_41 ?_
    obtain ⟨r1, hc2, h⟩ := qB_of h
    refine g_Vi (r := r1) (As := []) (rest := [iv x4]) (w := wC g ad o) E (c_X2_buys l g ad o r1 hc2) okm_X2_buys okw_X2_buys w_1070 rfl (wC_46 g ad o) rfl rfl (Nat.le_of_ble_eq_true rfl) ⟨Nat.le_of_ble_eq_true rfl, Nat.le_of_ble_eq_true rfl⟩ gdX11_early_44 ?_
    refine g_icmp_ge E 108 gdX11_early_47 (by decide) h (fun h => ?_) (fun h => ?_)
    ·
      refine g_sub E [2, 3] rfl ?_
      exact k1 x2 x3 (Option.some.inj h).symm
    ·
      refine g_aload_n E gdX11_early_50 rfl 0 rfl ?_
      refine g_iload E gdX11_early_51 4 rfl ?_
      refine g_iload_n E gdX11_early_53 rfl 1 rfl ?_
      obtain ⟨r3, hc4, h⟩ := qB_of h
      refine g_Vi (r := r3) (As := [iv x4, iv x1]) (rest := []) (w := wC g ad o) E (c_X11_isEarly l g ad o x4 x1 r3 hc4) okm_X11_isEarly okw_X11_isEarly w_1102 rfl (wC_0 g ad o) rfl rfl (Nat.le_of_ble_eq_true rfl) ⟨Nat.le_of_ble_eq_true rfl, Nat.le_of_ble_eq_true rfl⟩ gdX11_early_54 ?_
      refine g_if_ne E 63 gdX11_early_57 (by decide) h (fun h => ?_) (fun h => ?_)
      ·
        refine g_aload_n E gdX11_early_63 rfl 0 rfl ?_
        refine g_get (T := TX11) E fw_X11 0 (wC_0 g ad o) rfl 7 (by decide) w_465 rfl rfl gdX11_early_64 ?_
        refine g_iload E gdX11_early_67 4 rfl ?_
        refine g_iload_n E gdX11_early_69 rfl 1 rfl ?_
        obtain ⟨r5, hc6, h⟩ := qB_of h
        refine g_Vi (r := r5) (As := [iv x4, iv x1]) (rest := []) (w := wC g ad o) E (c_X2_buyerHeard l g ad o x4 x1 r5 hc6) okm_X2_buyerHeard okw_X2_buyerHeard w_1114 rfl (wC_46 g ad o) rfl rfl (Nat.le_of_ble_eq_true rfl) ⟨Nat.le_of_ble_eq_true rfl, Nat.le_of_ble_eq_true rfl⟩ gdX11_early_70 ?_
        refine g_if_eq E 82 gdX11_early_73 (by decide) h (fun h => ?_) (fun h => ?_)
        ·
          refine g_aload_n E gdX11_early_82 rfl 0 rfl ?_
          refine g_get (T := TX11) E fw_X11 0 (wC_0 g ad o) rfl 7 (by decide) w_465 rfl rfl gdX11_early_83 ?_
          refine g_aload_n E gdX11_early_86 rfl 0 rfl ?_
          refine g_get (T := TX11) E fw_X11 0 (wC_0 g ad o) rfl 4 (by decide) w_462 rfl rfl gdX11_early_87 ?_
          refine g_iload E gdX11_early_90 4 rfl ?_
          refine g_iload_n E gdX11_early_92 rfl 1 rfl ?_
          obtain ⟨r7, hc8, h⟩ := qB_of h
          refine g_Vi (r := r7) (As := [.ref (ad 23), iv x4, iv x1]) (rest := []) (w := wC g ad o) E (c_X2_kinHeard l g ad o x4 x1 r7 hc8) okm_X2_kinHeard okw_X2_kinHeard w_1119 rfl (wC_46 g ad o) rfl rfl (Nat.le_of_ble_eq_true rfl) ⟨Nat.le_of_ble_eq_true rfl, Nat.le_of_ble_eq_true rfl⟩ gdX11_early_93 ?_
          refine g_if_eq E 102 gdX11_early_96 (by decide) h (fun h => ?_) (fun h => ?_)
          ·
            exact j102 o x1 x2 x3 x4 v h k0 k1
          ·
            refine g_iinc E [(3, iv (x3 + 1)), (0, .ref (ad 0)), (1, iv x1), (2, iv x2), (4, iv x4)] gdX11_early_99 3 rfl (by decide) rfl ?_
            refine g_sub E [1, 2, 3, 0, 4] rfl ?_
            exact j102 o x1 x2 (x3 + 1) x4 v h k0 k1
        ·
          refine g_iinc E [(2, iv (x2 + 1)), (0, .ref (ad 0)), (1, iv x1), (3, iv x3), (4, iv x4)] gdX11_early_76 2 rfl (by decide) rfl ?_
          refine g_goto E 102 gdX11_early_79 (by decide) ?_
          refine g_sub E [1, 2, 0, 3, 4] rfl ?_
          exact j102 o x1 (x2 + 1) x3 x4 v h k0 k1
      ·
        refine g_goto E 102 gdX11_early_60 (by decide) ?_
        exact j102 o x1 x2 x3 x4 v h k0 k1
  have j38 : ∀ (o : OO) (x1 : Int) (x2 : Int) (x3 : Int) (x4 : Int), e_X11_early_38 o x1 x2 x3 x4 = some v → Go X 38 (wC g ad o) [(0, .ref (ad 0)), (1, iv x1), (2, iv x2), (3, iv x3), (4, iv x4)] [] := by
    intro o x1 x2 x3 x4 h
    unfold e_X11_early_38 at h
    obtain ⟨r, hr, h⟩ := qB_of h
    refine l38 o x1 r _ hr ?_
    ·
      intro u0 u1 e
      subst e
      have h : b_X11_early_108 o u0 u1 = some v := h
      exact j108 o u0 u1 h
  unfold s_X11_early at h
  refine g_aload_n E gdX11_early_0 rfl 0 rfl ?_
  refine g_get (T := TX11) E fw_X11 0 (wC_0 g ad o) rfl 6 (by decide) w_464 rfl rfl gdX11_early_1 ?_
  refine g_iload_n E gdX11_early_4 rfl 1 rfl ?_
  obtain ⟨r9, hc10, h⟩ := qB_of h
  refine g_Vi (r := r9) (As := [iv x1]) (rest := []) (w := wC g ad o) E (c_X4_exists l g ad o x1 r9 hc10) okm_X4_exists okw_X4_exists w_882 rfl (wC_32 g ad o) rfl rfl (Nat.le_of_ble_eq_true rfl) ⟨Nat.le_of_ble_eq_true rfl, Nat.le_of_ble_eq_true rfl⟩ gdX11_early_5 ?_
  refine g_if_ne E 13 gdX11_early_8 (by decide) h (fun h => ?_) (fun h => ?_)
  ·
    refine g_aload_n E gdX11_early_13 rfl 0 rfl ?_
    refine g_get (T := TX11) E fw_X11 0 (wC_0 g ad o) rfl 6 (by decide) w_464 rfl rfl gdX11_early_14 ?_
    refine g_iload_n E gdX11_early_17 rfl 1 rfl ?_
    refine g_iconst E gdX11_early_18 ?_
    obtain ⟨r11, hc12, h⟩ := qB_of h
    refine g_Vi (r := r11) (As := [iv x1, iv 1]) (rest := []) (w := wC g ad o) E (c_X4_isOf l g ad o x1 1 r11 hc12) okm_X4_isOf okw_X4_isOf w_886 rfl (wC_32 g ad o) rfl rfl (Nat.le_of_ble_eq_true rfl) ⟨Nat.le_of_ble_eq_true rfl, Nat.le_of_ble_eq_true rfl⟩ gdX11_early_19 ?_
    refine g_if_ne E 31 gdX11_early_22 (by decide) h (fun h => ?_) (fun h => ?_)
    ·
      refine g_iconst E gdX11_early_31 ?_
      refine g_istore_n E [(2, iv 0), (0, .ref (ad 0)), (1, iv x1)] gdX11_early_32 rfl (by decide) rfl ?_
      refine g_iconst E gdX11_early_33 ?_
      refine g_istore_n E [(3, iv 0), (2, iv 0), (0, .ref (ad 0)), (1, iv x1)] gdX11_early_34 rfl (by decide) rfl ?_
      refine g_iconst E gdX11_early_35 ?_
      refine g_istore E [(4, iv 0), (3, iv 0), (2, iv 0), (0, .ref (ad 0)), (1, iv x1)] gdX11_early_36 (by decide) rfl ?_
      refine g_sub E [3, 4, 2, 1, 0] rfl ?_
      exact j38 o x1 0 0 0 h
    ·
      refine g_aload_n E gdX11_early_25 rfl 0 rfl ?_
      refine g_iconst E gdX11_early_26 ?_
      obtain ⟨r13, o15, hc14, h⟩ := qB2_of h
      refine g_Vi (r := r13) (As := [iv 3]) (rest := []) (w := wC g ad o15) E (c_X11_found l g ad o 3 (r13, o15) hc14) okm_X11_found okw_X11_found w_521 rfl (wC_0 g ad o) rfl rfl (Nat.le_of_ble_eq_true rfl) ⟨Nat.le_of_ble_eq_true rfl, Nat.le_of_ble_eq_true rfl⟩ gdX11_early_27 ?_
      exact g_iret E hQ (by rw [← Option.some.inj h]) (by rw [← Option.some.inj h]) gdX11_early_30
  ·
    refine g_iconst E gdX11_early_11 ?_
    exact g_iret E hQ (by rw [← Option.some.inj h]) (by rw [← Option.some.inj h]) gdX11_early_12
set_option maxHeartbeats 4000000 in
set_option maxRecDepth 100000 in
theorem c_X1_off (l : Launch) (g : GG) (ad : Nat → Nat) (o : OO) (z1 : Int64) (x3 : Int) (v : Int64) (h : s_X1_off o z1 x3 = some v) : CL l g yX1_off cX1_off 7 (some .long) 1 22 (wC g ad o) [.ref (ad 10), .long z1, iv x3] v (wC g ad o) := by
  refine met_L (by decide) (Nat.le_of_ble_eq_true rfl) ?_
  intro X E hQ
  show Go X 0 (wC g ad o) [(0, .ref (ad 10)), (1, .long z1), (3, iv x3)] []
  have j54 : ∀ (z4 : Int64), b_X1_off_54 o z4 = some v → Go X 54 (wC g ad o) [(4, .long z4)] [] := by
    intro z4 h
    unfold b_X1_off_54 at h
    refine g_lload E gdX1_off_54 0 rfl ?_
    exact g_lret E hQ (Option.some.inj h) rfl gdX1_off_56
  have j48 : ∀ (z1 : Int64) (x3 : Int) (z4 : Int64) (x6 : Int) (v : (Int64 × Int) ⊕ ((Int64))), b_X1_off_48 o z1 x3 z4 x6 = some v → (∀ (z4 : Int64) (x6 : Int), v = .inl (z4, x6) → Go X 6 (wC g ad o) [(0, .ref (ad 10)), (1, .long z1), (3, iv x3), (4, .long z4), (6, iv x6)] []) → (∀ (z4 : Int64), v = .inr (z4) → Go X 54 (wC g ad o) [(4, .long z4)] []) → Go X 48 (wC g ad o) [(0, .ref (ad 10)), (1, .long z1), (3, iv x3), (4, .long z4), (6, iv x6)] [] := by
    intro z1 x3 z4 x6 v h k0 k1
    unfold b_X1_off_48 at h
    refine g_iinc E [(6, iv (x6 + 1)), (0, .ref (ad 10)), (1, .long z1), (3, iv x3), (4, .long z4)] gdX1_off_48 4 rfl (by decide) rfl ?_
    refine g_goto E 6 gdX1_off_51 (by decide) ?_
    refine g_sub E [1, 2, 3, 4, 0] rfl ?_
    exact k0 z4 (x6 + 1) (Option.some.inj h).symm
  have l6 : ∀ (z1 : Int64) (x3 : Int) (r : (Int64)) (s0 : Int64 × Int), loopW (fun s => l_X1_off_6 o z1 x3 s.1 s.2) s0 = some r → (∀ (z4 : Int64), r = (z4) → Go X 54 (wC g ad o) [(4, .long z4)] []) → Go X 6 (wC g ad o) [(0, .ref (ad 10)), (1, .long z1), (3, iv x3), (4, .long s0.1), (6, iv s0.2)] [] := by
    intro z1 x3 r s0 h k1
    refine loop_rule (Head := fun s0 => Go X 6 (wC g ad o) [(0, .ref (ad 10)), (1, .long z1), (3, iv x3), (4, .long s0.1), (6, iv s0.2)] []) h ?_
    intro s v h kk kx
    obtain ⟨z4, x6⟩ := s
    have h : l_X1_off_6 o z1 x3 z4 x6 = some v := h
    have k0 : ∀ (z4 : Int64) (x6 : Int), v = .inl (z4, x6) → Go X 6 (wC g ad o) [(0, .ref (ad 10)), (1, .long z1), (3, iv x3), (4, .long z4), (6, iv x6)] [] := fun z4 x6 e => kk (z4, x6) e
    have k1 : ∀ (z4 : Int64), v = .inr (z4) → Go X 54 (wC g ad o) [(4, .long z4)] [] := fun z4 e => k1 z4 (kx _ e).symm
    unfold l_X1_off_6 at h
    refine g_iload E gdX1_off_6 4 rfl ?_
    refine g_aload_n E gdX1_off_8 rfl 0 rfl ?_
    refine g_get (T := TX1) E fw_X1 10 (wC_10 g ad o) rfl 12 (by decide) w_172 rfl rfl gdX1_off_9 ?_
    refine g_icmp_ge E 54 gdX1_off_12 (by decide) h (fun h => ?_) (fun h => ?_)
    ·
      refine g_sub E [3] rfl ?_
      exact k1 z4 (Option.some.inj h).symm
    ·
      refine g_aload_n E gdX1_off_15 rfl 0 rfl ?_
      refine g_iload E gdX1_off_16 4 rfl ?_
      refine g_iload_n E gdX1_off_18 rfl 2 rfl ?_
      obtain ⟨r1, hc2, h⟩ := qB_of h
      refine g_Vi (r := r1) (As := [iv x6, iv x3]) (rest := []) (w := wC g ad o) E (c_X1_stands l g ad o x6 x3 r1 hc2) okm_X1_stands okw_X1_stands w_711 rfl (wC_10 g ad o) rfl rfl (Nat.le_of_ble_eq_true rfl) ⟨Nat.le_of_ble_eq_true rfl, Nat.le_of_ble_eq_true rfl⟩ gdX1_off_19 ?_
      refine g_if_eq E 48 gdX1_off_22 (by decide) h (fun h => ?_) (fun h => ?_)
      ·
        exact j48 z1 x3 z4 x6 v h k0 k1
      ·
        refine g_lload_n E gdX1_off_25 rfl 1 rfl ?_
        refine g_aload_n E gdX1_off_26 rfl 0 rfl ?_
        refine g_get (T := TX1) E fw_X1 10 (wC_10 g ad o) rfl 0 (by decide) w_160 rfl rfl gdX1_off_27 ?_
        refine g_iload E gdX1_off_30 4 rfl ?_
        obtain ⟨hi3, h⟩ := qIn_of h
        refine g_iald E 11 (wC_11 g ad o) (by decide) hi3 gdX1_off_32 ?_
        obtain ⟨n4, e_n4, h⟩ := qNm_of h
        refine g_nmi e_n4 ?_
        obtain ⟨r5, hc6, h⟩ := qB_of h
        refine g_Si (r := r5) (As := [.long z1, iv n4]) (rest := []) (w := wC g ad o) E (c_X3_has l g (wC g ad o) z1 n4 r5 hc6) okm_X3_has w_839 w_1179 rfl rfl (Nat.le_of_ble_eq_true rfl) ⟨Nat.le_of_ble_eq_true rfl, Nat.le_of_ble_eq_true rfl⟩ gdX1_off_33 ?_
        refine g_if_ne E 48 gdX1_off_36 (by decide) h (fun h => ?_) (fun h => ?_)
        ·
          exact j48 z1 x3 z4 x6 v h k0 k1
        ·
          refine g_lload E gdX1_off_39 3 rfl ?_
          refine g_lconst (v := 1) E gdX1_off_41 (by decide) ?_
          refine g_iload E gdX1_off_42 4 rfl ?_
          refine g_lshl E gdX1_off_44 ?_
          refine g_lor E gdX1_off_45 ?_
          obtain ⟨m7, e_m7, h⟩ := qNm_of h
          refine g_nml e_m7 ?_
          refine g_lstore E [(4, .long m7), (0, .ref (ad 10)), (1, .long z1), (3, iv x3), (6, iv x6)] gdX1_off_46 (by decide) rfl ?_
          refine g_sub E [1, 2, 3, 0, 4] rfl ?_
          exact j48 z1 x3 m7 x6 v h k0 k1
  have j6 : ∀ (z1 : Int64) (x3 : Int) (z4 : Int64) (x6 : Int), e_X1_off_6 o z1 x3 z4 x6 = some v → Go X 6 (wC g ad o) [(0, .ref (ad 10)), (1, .long z1), (3, iv x3), (4, .long z4), (6, iv x6)] [] := by
    intro z1 x3 z4 x6 h
    unfold e_X1_off_6 at h
    obtain ⟨r, hr, h⟩ := qB_of h
    refine l6 z1 x3 r _ hr ?_
    ·
      intro u0 e
      have e := e.symm
      subst e
      have h : b_X1_off_54 o u0 = some v := h
      exact j54 u0 h
  unfold s_X1_off at h
  refine g_lconst (v := 0) E gdX1_off_0 (by decide) ?_
  obtain ⟨m8, e_m8, h⟩ := qNm_of h
  refine g_nml e_m8 ?_
  refine g_lstore E [(4, .long m8), (0, .ref (ad 10)), (1, .long z1), (3, iv x3)] gdX1_off_1 (by decide) rfl ?_
  refine g_iconst E gdX1_off_3 ?_
  refine g_istore E [(6, iv 0), (4, .long m8), (0, .ref (ad 10)), (1, .long z1), (3, iv x3)] gdX1_off_4 (by decide) rfl ?_
  refine g_sub E [2, 3, 4, 1, 0] rfl ?_
  exact j6 z1 x3 m8 0 h
set_option maxHeartbeats 4000000 in
set_option maxRecDepth 100000 in
theorem c_X3_water (l : Launch) (g : GG) (ad : Nat → Nat) (o : OO) (v : Int64) (h : s_X3_water o = some v) : CL l g yX3_water cX3_water 4 (some .long) 1 21 (wC g ad o) [.ref (ad 7)] v (wC g ad o) := by
  refine met_L (by decide) (Nat.le_of_ble_eq_true rfl) ?_
  intro X E hQ
  show Go X 0 (wC g ad o) [(0, .ref (ad 7))] []
  have j31 : ∀ (z1 : Int64), b_X3_water_31 o z1 = some v → Go X 31 (wC g ad o) [(1, .long z1)] [] := by
    intro z1 h
    unfold b_X3_water_31 at h
    refine g_lload_n E gdX3_water_31 rfl 0 rfl ?_
    exact g_lret E hQ (Option.some.inj h) rfl gdX3_water_32
  have j25 : ∀ (z1 : Int64) (x3 : Int) (v : (Int64 × Int) ⊕ ((Int64))), b_X3_water_25 o z1 x3 = some v → (∀ (z1 : Int64) (x3 : Int), v = .inl (z1, x3) → Go X 4 (wC g ad o) [(0, .ref (ad 7)), (1, .long z1), (3, iv x3)] []) → (∀ (z1 : Int64), v = .inr (z1) → Go X 31 (wC g ad o) [(1, .long z1)] []) → Go X 25 (wC g ad o) [(0, .ref (ad 7)), (1, .long z1), (3, iv x3)] [] := by
    intro z1 x3 v h k0 k1
    unfold b_X3_water_25 at h
    refine g_iinc E [(3, iv (x3 + 1)), (0, .ref (ad 7)), (1, .long z1)] gdX3_water_25 2 rfl (by decide) rfl ?_
    refine g_goto E 4 gdX3_water_28 (by decide) ?_
    refine g_sub E [1, 2, 0] rfl ?_
    exact k0 z1 (x3 + 1) (Option.some.inj h).symm
  have l4 : ∀  (r : (Int64)) (s0 : Int64 × Int), loopW (fun s => l_X3_water_4 o s.1 s.2) s0 = some r → (∀ (z1 : Int64), r = (z1) → Go X 31 (wC g ad o) [(1, .long z1)] []) → Go X 4 (wC g ad o) [(0, .ref (ad 7)), (1, .long s0.1), (3, iv s0.2)] [] := by
    intro r s0 h k1
    refine loop_rule (Head := fun s0 => Go X 4 (wC g ad o) [(0, .ref (ad 7)), (1, .long s0.1), (3, iv s0.2)] []) h ?_
    intro s v h kk kx
    obtain ⟨z1, x3⟩ := s
    have h : l_X3_water_4 o z1 x3 = some v := h
    have k0 : ∀ (z1 : Int64) (x3 : Int), v = .inl (z1, x3) → Go X 4 (wC g ad o) [(0, .ref (ad 7)), (1, .long z1), (3, iv x3)] [] := fun z1 x3 e => kk (z1, x3) e
    have k1 : ∀ (z1 : Int64), v = .inr (z1) → Go X 31 (wC g ad o) [(1, .long z1)] [] := fun z1 e => k1 z1 (kx _ e).symm
    unfold l_X3_water_4 at h
    refine g_iload_n E gdX3_water_4 rfl 2 rfl ?_
    refine g_bipush E gdX3_water_5 (by decide) ?_
    refine g_icmp_ge E 31 gdX3_water_7 (by decide) h (fun h => ?_) (fun h => ?_)
    ·
      refine g_sub E [1] rfl ?_
      exact k1 z1 (Option.some.inj h).symm
    ·
      refine g_aload_n E gdX3_water_10 rfl 0 rfl ?_
      refine g_iload_n E gdX3_water_11 rfl 2 rfl ?_
      obtain ⟨r1, hc2, h⟩ := qB_of h
      refine g_Vi (r := r1) (As := [iv x3]) (rest := []) (w := wC g ad o) E (c_X3_isWater l g ad o x3 r1 hc2) okm_X3_isWater okw_X3_isWater w_830 rfl (wC_7 g ad o) rfl rfl (Nat.le_of_ble_eq_true rfl) ⟨Nat.le_of_ble_eq_true rfl, Nat.le_of_ble_eq_true rfl⟩ gdX3_water_12 ?_
      refine g_if_eq E 25 gdX3_water_15 (by decide) h (fun h => ?_) (fun h => ?_)
      ·
        exact j25 z1 x3 v h k0 k1
      ·
        refine g_lload_n E gdX3_water_18 rfl 1 rfl ?_
        refine g_iload_n E gdX3_water_19 rfl 2 rfl ?_
        obtain ⟨p3, hc4, h⟩ := qB_of h
        refine g_Sl (r := p3) (As := [iv x3]) (rest := [.long z1]) (w := wC g ad o) E (c_X3_bit l g (wC g ad o) x3 p3 hc4) okm_X3_bit w_842 w_1184 rfl rfl (Nat.le_of_ble_eq_true rfl) ⟨Nat.le_of_ble_eq_true rfl, Nat.le_of_ble_eq_true rfl⟩ gdX3_water_20 ?_
        refine g_lor E gdX3_water_23 ?_
        obtain ⟨m5, e_m5, h⟩ := qNm_of h
        refine g_nml e_m5 ?_
        refine g_lstore_n E [(1, .long m5), (0, .ref (ad 7)), (3, iv x3)] gdX3_water_24 rfl (by decide) rfl ?_
        refine g_sub E [1, 0, 2] rfl ?_
        exact j25 m5 x3 v h k0 k1
  have j4 : ∀ (z1 : Int64) (x3 : Int), e_X3_water_4 o z1 x3 = some v → Go X 4 (wC g ad o) [(0, .ref (ad 7)), (1, .long z1), (3, iv x3)] [] := by
    intro z1 x3 h
    unfold e_X3_water_4 at h
    obtain ⟨r, hr, h⟩ := qB_of h
    refine l4  r _ hr ?_
    ·
      intro u0 e
      have e := e.symm
      subst e
      have h : b_X3_water_31 o u0 = some v := h
      exact j31 u0 h
  unfold s_X3_water at h
  refine g_lconst (v := 0) E gdX3_water_0 (by decide) ?_
  obtain ⟨m6, e_m6, h⟩ := qNm_of h
  refine g_nml e_m6 ?_
  refine g_lstore_n E [(1, .long m6), (0, .ref (ad 7))] gdX3_water_1 rfl (by decide) rfl ?_
  refine g_iconst E gdX3_water_2 ?_
  refine g_istore_n E [(3, iv 0), (1, .long m6), (0, .ref (ad 7))] gdX3_water_3 rfl (by decide) rfl ?_
  refine g_sub E [2, 1, 0] rfl ?_
  exact j4 m6 0 h
set_option maxHeartbeats 4000000 in
set_option maxRecDepth 100000 in
theorem c_J7_fill_53178__22 (l : Launch) (g : GG) (ad : Nat → Nat) (o : OO) (x1 : Int) (v : OO) (h : s_J7_fill_53178__22 o x1 = some v) : CV l g yJ7_fill_53178 cJ7_fill_53178 4 0 0 (wC g ad o) [.ref (ad 22), iv x1] (wC g ad v) := by
  refine met_V (by decide) (Nat.le_of_ble_eq_true rfl) ?_
  intro X E hQ
  show Go X 0 (wC g ad o) [(0, .ref (ad 22)), (1, iv x1)] []
  have j20 : ∀ (o : OO), b_J7_fill_53178__22_20 o = some v → Go X 20 (wC g ad o) [] [] := by
    intro o h
    unfold b_J7_fill_53178__22_20 at h
    exact g_vret E hQ (by rw [← Option.some.inj h]) gdJ7_fill_53178_20
  have l5 : ∀ (x1 : Int) (x3 : Int) (r : (OO)) (s0 : OO × Int), loopW (fun s => l_J7_fill_53178__22_5 x1 x3 s.1 s.2) s0 = some r → (∀ (o : OO), r = (o) → Go X 20 (wC g ad o) [] []) → Go X 5 (wC g ad s0.1) [(0, .ref (ad 22)), (1, iv x1), (2, iv s0.2), (3, iv x3)] [] := by
    intro x1 x3 r s0 h k1
    refine loop_rule (Head := fun s0 => Go X 5 (wC g ad s0.1) [(0, .ref (ad 22)), (1, iv x1), (2, iv s0.2), (3, iv x3)] []) h ?_
    intro s v h kk kx
    obtain ⟨o, x2⟩ := s
    have h : l_J7_fill_53178__22_5 x1 x3 o x2 = some v := h
    have k0 : ∀ (o : OO) (x2 : Int), v = .inl (o, x2) → Go X 5 (wC g ad o) [(0, .ref (ad 22)), (1, iv x1), (2, iv x2), (3, iv x3)] [] := fun o x2 e => kk (o, x2) e
    have k1 : ∀ (o : OO), v = .inr (o) → Go X 20 (wC g ad o) [] [] := fun o e => k1 o (kx _ e).symm
    unfold l_J7_fill_53178__22_5 at h
    refine g_iload_n E gdJ7_fill_53178_5 rfl 2 rfl ?_
    refine g_iload_n E gdJ7_fill_53178_6 rfl 3 rfl ?_
    refine g_icmp_ge E 20 gdJ7_fill_53178_7 (by decide) h (fun h => ?_) (fun h => ?_)
    ·
      refine g_sub E [] rfl ?_
      exact k1 o (Option.some.inj h).symm
    ·
      refine g_aload_n E gdJ7_fill_53178_10 rfl 0 rfl ?_
      refine g_iload_n E gdJ7_fill_53178_11 rfl 2 rfl ?_
      refine g_iload_n E gdJ7_fill_53178_12 rfl 1 rfl ?_
      obtain ⟨hi1, h⟩ := qIn_of h
      obtain ⟨o2, e_o2, h⟩ := qNm_of h
      refine g_iast (ws' := wC g ad o2) E 22 (wC_22 g ad o) (by decide) hi1 (by rw [e_o2]; exact wC_s22 g ad o _ _) gdJ7_fill_53178_13 ?_
      refine g_iinc E [(2, iv (x2 + 1)), (0, .ref (ad 22)), (1, iv x1), (3, iv x3)] gdJ7_fill_53178_14 2 rfl (by decide) rfl ?_
      refine g_goto E 5 gdJ7_fill_53178_17 (by decide) ?_
      refine g_sub E [1, 2, 0, 3] rfl ?_
      exact k0 o2 (x2 + 1) (Option.some.inj h).symm
  have j5 : ∀ (o : OO) (x1 : Int) (x2 : Int) (x3 : Int), e_J7_fill_53178__22_5 o x1 x2 x3 = some v → Go X 5 (wC g ad o) [(0, .ref (ad 22)), (1, iv x1), (2, iv x2), (3, iv x3)] [] := by
    intro o x1 x2 x3 h
    unfold e_J7_fill_53178__22_5 at h
    obtain ⟨r, hr, h⟩ := qB_of h
    refine l5 x1 x3 r _ hr ?_
    ·
      intro u0 e
      have e := e.symm
      subst e
      have h : b_J7_fill_53178__22_20 u0 = some v := h
      exact j20 u0 h
  unfold s_J7_fill_53178__22 at h
  refine g_iconst E gdJ7_fill_53178_0 ?_
  refine g_istore_n E [(2, iv 0), (0, .ref (ad 22)), (1, iv x1)] gdJ7_fill_53178_1 rfl (by decide) rfl ?_
  refine g_aload_n E gdJ7_fill_53178_2 rfl 1 rfl ?_
  refine g_alen (N := 32) E 22 (wC_22 g ad o) gdJ7_fill_53178_3 ?_
  refine g_istore_n E [(3, iv 32), (2, iv 0), (0, .ref (ad 22)), (1, iv x1)] gdJ7_fill_53178_4 rfl (by decide) rfl ?_
  refine g_sub E [2, 3, 1, 0] rfl ?_
  exact j5 o x1 0 32 h
set_option maxHeartbeats 4000000 in
set_option maxRecDepth 100000 in
theorem c_X1_firstIn (l : Launch) (g : GG) (ad : Nat → Nat) (o : OO) (z1 : Int64) (z3 : Int64) (v : Int) (h : s_X1_firstIn o z1 z3 = some v) : CI l g yX1_firstIn cX1_firstIn 6 (some .int) 1 22 (wC g ad o) [.ref (ad 10), .long z1, .long z3] v (wC g ad o) := by
  refine met_I (by decide) (Nat.le_of_ble_eq_true rfl) ?_
  intro X E hQ
  show Go X 0 (wC g ad o) [(0, .ref (ad 10)), (1, .long z1), (3, .long z3)] []
  have j37 : ∀ (x5 : Int), b_X1_firstIn_37 o x5 = some v → Go X 37 (wC g ad o) [(5, iv x5)] [] := by
    intro x5 h
    unfold b_X1_firstIn_37 at h
    refine g_iload E gdX1_firstIn_37 0 rfl ?_
    exact g_iret E hQ (Option.some.inj h) rfl gdX1_firstIn_39
  have j46 : b_X1_firstIn_46 o = some v → Go X 46 (wC g ad o) [] [] := by
    intro h
    unfold b_X1_firstIn_46 at h
    refine g_bipush E gdX1_firstIn_46 (by decide) ?_
    exact g_iret E hQ (Option.some.inj h) rfl gdX1_firstIn_48
  have j40 : ∀ (z1 : Int64) (z3 : Int64) (x5 : Int) (v : (Int) ⊕ ((Int) ⊕ (Unit))), b_X1_firstIn_40 o z1 z3 x5 = some v → (∀ (x5 : Int), v = .inl x5 → Go X 3 (wC g ad o) [(0, .ref (ad 10)), (1, .long z1), (3, .long z3), (5, iv x5)] []) → (∀ (x5 : Int), v = .inr (.inl x5) → Go X 37 (wC g ad o) [(5, iv x5)] []) → (v = .inr (.inr ()) → Go X 46 (wC g ad o) [] []) → Go X 40 (wC g ad o) [(0, .ref (ad 10)), (1, .long z1), (3, .long z3), (5, iv x5)] [] := by
    intro z1 z3 x5 v h k0 k1 k2
    unfold b_X1_firstIn_40 at h
    refine g_iinc E [(5, iv (x5 + 1)), (0, .ref (ad 10)), (1, .long z1), (3, .long z3)] gdX1_firstIn_40 3 rfl (by decide) rfl ?_
    refine g_goto E 3 gdX1_firstIn_43 (by decide) ?_
    refine g_sub E [1, 2, 3, 0] rfl ?_
    exact k0 (x5 + 1) (Option.some.inj h).symm
  have l3 : ∀ (z1 : Int64) (z3 : Int64) (r : (Int) ⊕ (Unit)) (s0 : Int), loopW (fun s => l_X1_firstIn_3 o z1 z3 s) s0 = some r → (∀ (x5 : Int), r = (.inl x5) → Go X 37 (wC g ad o) [(5, iv x5)] []) → (r = (.inr ()) → Go X 46 (wC g ad o) [] []) → Go X 3 (wC g ad o) [(0, .ref (ad 10)), (1, .long z1), (3, .long z3), (5, iv s0)] [] := by
    intro z1 z3 r s0 h k1 k2
    refine loop_rule (Head := fun s0 => Go X 3 (wC g ad o) [(0, .ref (ad 10)), (1, .long z1), (3, .long z3), (5, iv s0)] []) h ?_
    intro s v h kk kx
    obtain ⟨x5, hs⟩ : ∃ q, q = s := ⟨_, rfl⟩
    subst hs
    have h : l_X1_firstIn_3 o z1 z3 x5 = some v := h
    have k0 : ∀ (x5 : Int), v = .inl x5 → Go X 3 (wC g ad o) [(0, .ref (ad 10)), (1, .long z1), (3, .long z3), (5, iv x5)] [] := fun x5 e => kk x5 e
    have k1 : ∀ (x5 : Int), v = .inr (.inl x5) → Go X 37 (wC g ad o) [(5, iv x5)] [] := fun x5 e => k1 x5 (kx _ e).symm
    have k2 : v = .inr (.inr ()) → Go X 46 (wC g ad o) [] [] := fun e => k2 (kx _ e).symm
    unfold l_X1_firstIn_3 at h
    refine g_iload E gdX1_firstIn_3 3 rfl ?_
    refine g_aload_n E gdX1_firstIn_5 rfl 0 rfl ?_
    refine g_get (T := TX1) E fw_X1 10 (wC_10 g ad o) rfl 12 (by decide) w_172 rfl rfl gdX1_firstIn_6 ?_
    refine g_icmp_ge E 46 gdX1_firstIn_9 (by decide) h (fun h => ?_) (fun h => ?_)
    ·
      refine g_sub E [] rfl ?_
      exact k2  (Option.some.inj h).symm
    ·
      refine g_lload_n E gdX1_firstIn_12 rfl 2 rfl ?_
      refine g_iload E gdX1_firstIn_13 3 rfl ?_
      refine g_lushr E gdX1_firstIn_15 ?_
      refine g_lconst (v := 1) E gdX1_firstIn_16 (by decide) ?_
      refine g_land E gdX1_firstIn_17 ?_
      refine g_lconst (v := 1) E gdX1_firstIn_18 (by decide) ?_
      refine g_lcmp_ne E 40 gdX1_firstIn_19 gdX1_firstIn_20 (by decide) h (fun h => ?_) (fun h => ?_)
      ·
        exact j40 z1 z3 x5 v h k0 k1 k2
      ·
        refine g_lload_n E gdX1_firstIn_23 rfl 1 rfl ?_
        refine g_aload_n E gdX1_firstIn_24 rfl 0 rfl ?_
        refine g_get (T := TX1) E fw_X1 10 (wC_10 g ad o) rfl 0 (by decide) w_160 rfl rfl gdX1_firstIn_25 ?_
        refine g_iload E gdX1_firstIn_28 3 rfl ?_
        obtain ⟨hi1, h⟩ := qIn_of h
        refine g_iald E 11 (wC_11 g ad o) (by decide) hi1 gdX1_firstIn_30 ?_
        obtain ⟨n2, e_n2, h⟩ := qNm_of h
        refine g_nmi e_n2 ?_
        obtain ⟨r3, hc4, h⟩ := qB_of h
        refine g_Si (r := r3) (As := [.long z1, iv n2]) (rest := []) (w := wC g ad o) E (c_X3_has l g (wC g ad o) z1 n2 r3 hc4) okm_X3_has w_839 w_1179 rfl rfl (Nat.le_of_ble_eq_true rfl) ⟨Nat.le_of_ble_eq_true rfl, Nat.le_of_ble_eq_true rfl⟩ gdX1_firstIn_31 ?_
        refine g_if_eq E 40 gdX1_firstIn_34 (by decide) h (fun h => ?_) (fun h => ?_)
        ·
          exact j40 z1 z3 x5 v h k0 k1 k2
        ·
          refine g_sub E [3] rfl ?_
          exact k1 x5 (Option.some.inj h).symm
  have j3 : ∀ (z1 : Int64) (z3 : Int64) (x5 : Int), e_X1_firstIn_3 o z1 z3 x5 = some v → Go X 3 (wC g ad o) [(0, .ref (ad 10)), (1, .long z1), (3, .long z3), (5, iv x5)] [] := by
    intro z1 z3 x5 h
    unfold e_X1_firstIn_3 at h
    obtain ⟨r, hr, h⟩ := qB_of h
    refine l3 z1 z3 r _ hr ?_ ?_
    ·
      intro u0 e
      subst e
      have h : b_X1_firstIn_37 o u0 = some v := h
      exact j37 u0 h
    ·
      intro e
      subst e
      have h : b_X1_firstIn_46 o = some v := h
      exact j46  h
  unfold s_X1_firstIn at h
  refine g_iconst E gdX1_firstIn_0 ?_
  refine g_istore E [(5, iv 0), (0, .ref (ad 10)), (1, .long z1), (3, .long z3)] gdX1_firstIn_1 (by decide) rfl ?_
  refine g_sub E [1, 2, 3, 0] rfl ?_
  exact j3 z1 z3 0 h
set_option maxHeartbeats 4000000 in
set_option maxRecDepth 100000 in
theorem c_X1_nearest (l : Launch) (g : GG) (ad : Nat → Nat) (o : OO) (x1 : Int) (z2 : Int64) (z4 : Int64) (v : Int) (h : s_X1_nearest o x1 z2 z4 = some v) : CI l g yX1_nearest cX1_nearest 12 (some .int) 2 47 (wC g ad o) [.ref (ad 10), iv x1, .long z2, .long z4] v (wC g ad o) := by
  refine met_I (by decide) (Nat.le_of_ble_eq_true rfl) ?_
  intro X E hQ
  show Go X 0 (wC g ad o) [(0, .ref (ad 10)), (1, iv x1), (2, .long z2), (4, .long z4)] []
  have j32 : ∀ (x9 : Int), b_X1_nearest_32 o x9 = some v → Go X 32 (wC g ad o) [(9, iv x9)] [] := by
    intro x9 h
    unfold b_X1_nearest_32 at h
    refine g_iload E gdX1_nearest_32 0 rfl ?_
    exact g_iret E hQ (Option.some.inj h) rfl gdX1_nearest_34
  have j53 : b_X1_nearest_53 o = some v → Go X 53 (wC g ad o) [] [] := by
    intro h
    unfold b_X1_nearest_53 at h
    refine g_bipush E gdX1_nearest_53 (by decide) ?_
    exact g_iret E hQ (Option.some.inj h) rfl gdX1_nearest_55
  have j66 : b_X1_nearest_66 o = some v → Go X 66 (wC g ad o) [] [] := by
    intro h
    unfold b_X1_nearest_66 at h
    refine g_bipush E gdX1_nearest_66 (by decide) ?_
    exact g_iret E hQ (Option.some.inj h) rfl gdX1_nearest_68
  have l9 : ∀ (z2 : Int64) (z4 : Int64) (r : (Int) ⊕ (Unit) ⊕ (Unit)) (s0 : Int64 × Int), loopW (fun s => l_X1_nearest_9 o z2 z4 s.1 s.2) s0 = some r → (∀ (x9 : Int), r = (.inl x9) → Go X 32 (wC g ad o) [(9, iv x9)] []) → (r = (.inr (.inl ())) → Go X 53 (wC g ad o) [] []) → (r = (.inr (.inr ())) → Go X 66 (wC g ad o) [] []) → Go X 9 (wC g ad o) [(0, .ref (ad 10)), (2, .long z2), (4, .long z4), (6, .long s0.1), (8, iv s0.2)] [] := by
    intro z2 z4 r s0 h k1 k2 k3
    refine loop_rule (Head := fun s0 => Go X 9 (wC g ad o) [(0, .ref (ad 10)), (2, .long z2), (4, .long z4), (6, .long s0.1), (8, iv s0.2)] []) h ?_
    intro s v h kk kx
    obtain ⟨z6, x8⟩ := s
    have h : l_X1_nearest_9 o z2 z4 z6 x8 = some v := h
    have k0 : ∀ (z6 : Int64) (x8 : Int), v = .inl (z6, x8) → Go X 9 (wC g ad o) [(0, .ref (ad 10)), (2, .long z2), (4, .long z4), (6, .long z6), (8, iv x8)] [] := fun z6 x8 e => kk (z6, x8) e
    have k1 : ∀ (x9 : Int), v = .inr (.inl x9) → Go X 32 (wC g ad o) [(9, iv x9)] [] := fun x9 e => k1 x9 (kx _ e).symm
    have k2 : v = .inr (.inr (.inl ())) → Go X 53 (wC g ad o) [] [] := fun e => k2 (kx _ e).symm
    have k3 : v = .inr (.inr (.inr ())) → Go X 66 (wC g ad o) [] [] := fun e => k3 (kx _ e).symm
    unfold l_X1_nearest_9 at h
    refine g_iload E gdX1_nearest_9 4 rfl ?_
    refine g_bipush E gdX1_nearest_11 (by decide) ?_
    refine g_icmp_ge E 66 gdX1_nearest_13 (by decide) h (fun h => ?_) (fun h => ?_)
    ·
      refine g_sub E [] rfl ?_
      exact k3  (Option.some.inj h).symm
    ·
      refine g_aload_n E gdX1_nearest_16 rfl 0 rfl ?_
      refine g_lload E gdX1_nearest_17 3 rfl ?_
      refine g_lload_n E gdX1_nearest_19 rfl 1 rfl ?_
      obtain ⟨r1, hc2, h⟩ := qB_of h
      refine g_Vi (r := r1) (As := [.long z6, .long z2]) (rest := []) (w := wC g ad o) E (c_X1_firstIn l g ad o z6 z2 r1 hc2) okm_X1_firstIn okw_X1_firstIn w_1194 rfl (wC_10 g ad o) rfl rfl (Nat.le_of_ble_eq_true rfl) ⟨Nat.le_of_ble_eq_true rfl, Nat.le_of_ble_eq_true rfl⟩ gdX1_nearest_20 ?_
      refine g_istore E [(9, iv r1), (0, .ref (ad 10)), (2, .long z2), (4, .long z4), (6, .long z6), (8, iv x8)] gdX1_nearest_23 (by decide) rfl ?_
      refine g_iload E gdX1_nearest_25 0 rfl ?_
      refine g_bipush E gdX1_nearest_27 (by decide) ?_
      refine g_icmp_eq E 35 gdX1_nearest_29 (by decide) h (fun h => ?_) (fun h => ?_)
      ·
        refine g_lload E gdX1_nearest_35 4 rfl ?_
        obtain ⟨p3, hc4, h⟩ := qB_of h
        refine g_Sl (r := p3) (As := [.long z6]) (rest := []) (w := wC g ad o) E (c_X3_spread l g (wC g ad o) z6 p3 hc4) okm_X3_spread w_895 w_1198 rfl rfl (Nat.le_of_ble_eq_true rfl) ⟨Nat.le_of_ble_eq_true rfl, Nat.le_of_ble_eq_true rfl⟩ gdX1_nearest_37 ?_
        refine g_lload E gdX1_nearest_40 3 rfl ?_
        refine g_land E gdX1_nearest_42 ?_
        obtain ⟨m5, e_m5, h⟩ := qNm_of h
        refine g_nml e_m5 ?_
        refine g_lstore E [(10, .long m5), (9, iv r1), (0, .ref (ad 10)), (2, .long z2), (4, .long z4), (6, .long z6), (8, iv x8)] gdX1_nearest_43 (by decide) rfl ?_
        refine g_lload E gdX1_nearest_45 0 rfl ?_
        refine g_lload E gdX1_nearest_47 5 rfl ?_
        refine g_lcmp_ne E 56 gdX1_nearest_49 gdX1_nearest_50 (by decide) h (fun h => ?_) (fun h => ?_)
        ·
          refine g_lload E gdX1_nearest_56 0 rfl ?_
          refine g_lstore E [(6, .long m5), (10, .long m5), (9, iv r1), (0, .ref (ad 10)), (2, .long z2), (4, .long z4), (8, iv x8)] gdX1_nearest_58 (by decide) rfl ?_
          refine g_iinc E [(8, iv (x8 + 1)), (6, .long m5), (10, .long m5), (9, iv r1), (0, .ref (ad 10)), (2, .long z2), (4, .long z4)] gdX1_nearest_60 6 rfl (by decide) rfl ?_
          refine g_goto E 9 gdX1_nearest_63 (by decide) ?_
          refine g_sub E [4, 5, 6, 1, 0] rfl ?_
          exact k0 m5 (x8 + 1) (Option.some.inj h).symm
        ·
          refine g_sub E [] rfl ?_
          exact k2  (Option.some.inj h).symm
      ·
        refine g_sub E [0] rfl ?_
        exact k1 r1 (Option.some.inj h).symm
  have j9 : ∀ (z2 : Int64) (z4 : Int64) (z6 : Int64) (x8 : Int), e_X1_nearest_9 o z2 z4 z6 x8 = some v → Go X 9 (wC g ad o) [(0, .ref (ad 10)), (2, .long z2), (4, .long z4), (6, .long z6), (8, iv x8)] [] := by
    intro z2 z4 z6 x8 h
    unfold e_X1_nearest_9 at h
    obtain ⟨r, hr, h⟩ := qB_of h
    refine l9 z2 z4 r _ hr ?_ ?_ ?_
    ·
      intro u0 e
      subst e
      have h : b_X1_nearest_32 o u0 = some v := h
      exact j32 u0 h
    ·
      intro e
      subst e
      have h : b_X1_nearest_53 o = some v := h
      exact j53  h
    ·
      intro e
      subst e
      have h : b_X1_nearest_66 o = some v := h
      exact j66  h
  unfold s_X1_nearest at h
  refine g_iload_n E gdX1_nearest_0 rfl 1 rfl ?_
  obtain ⟨p6, hc7, h⟩ := qB_of h
  refine g_Sl (r := p6) (As := [iv x1]) (rest := []) (w := wC g ad o) E (c_X3_bit l g (wC g ad o) x1 p6 hc7) okm_X3_bit w_842 w_934 rfl rfl (Nat.le_of_ble_eq_true rfl) ⟨Nat.le_of_ble_eq_true rfl, Nat.le_of_ble_eq_true rfl⟩ gdX1_nearest_1 ?_
  refine g_lstore E [(6, .long p6), (0, .ref (ad 10)), (1, iv x1), (2, .long z2), (4, .long z4)] gdX1_nearest_4 (by decide) rfl ?_
  refine g_iconst E gdX1_nearest_6 ?_
  refine g_istore E [(8, iv 0), (6, .long p6), (0, .ref (ad 10)), (1, iv x1), (2, .long z2), (4, .long z4)] gdX1_nearest_7 (by decide) rfl ?_
  refine g_sub E [2, 4, 5, 1, 0] rfl ?_
  exact j9 z2 z4 p6 0 h
set_option maxHeartbeats 4000000 in
set_option maxRecDepth 100000 in
theorem c_X1_shopsLeft (l : Launch) (g : GG) (ad : Nat → Nat) (o : OO) (z1 : Int64) (z3 : Int64) (z5 : Int64) (x7 : Int) (v : Int64 × OO) (h : s_X1_shopsLeft o z1 z3 z5 x7 = some v) : CL l g yX1_shopsLeft cX1_shopsLeft 11 (some .long) 3 78 (wC g ad o) [.ref (ad 10), .long z1, .long z3, .long z5, iv x7] v.1 (wC g ad v.2) := by
  refine met_L (by decide) (Nat.le_of_ble_eq_true rfl) ?_
  intro X E hQ
  show Go X 0 (wC g ad o) [(0, .ref (ad 10)), (1, .long z1), (3, .long z3), (5, .long z5), (7, iv x7)] []
  have j139 : ∀ (o : OO) (z8 : Int64), b_X1_shopsLeft_139 o z8 = some v → Go X 139 (wC g ad o) [(8, .long z8)] [] := by
    intro o z8 h
    unfold b_X1_shopsLeft_139 at h
    refine g_lload E gdX1_shopsLeft_139 0 rfl ?_
    exact g_lret E hQ (by rw [← Option.some.inj h]) (by rw [← Option.some.inj h]) gdX1_shopsLeft_141
  have j133 : ∀ (o : OO) (x7 : Int) (z8 : Int64) (x10 : Int) (v : (Int64 × Int) ⊕ ((Int64))), b_X1_shopsLeft_133 o x7 z8 x10 = some v → (∀ (z8 : Int64) (x10 : Int), v = .inl (z8, x10) → Go X 99 (wC g ad o) [(0, .ref (ad 10)), (7, iv x7), (8, .long z8), (10, iv x10)] []) → (∀ (z8 : Int64), v = .inr (z8) → Go X 139 (wC g ad o) [(8, .long z8)] []) → Go X 133 (wC g ad o) [(0, .ref (ad 10)), (7, iv x7), (8, .long z8), (10, iv x10)] [] := by
    intro o x7 z8 x10 v h k0 k1
    unfold b_X1_shopsLeft_133 at h
    refine g_iinc E [(10, iv (x10 + 1)), (0, .ref (ad 10)), (7, iv x7), (8, .long z8)] gdX1_shopsLeft_133 3 rfl (by decide) rfl ?_
    refine g_goto E 99 gdX1_shopsLeft_136 (by decide) ?_
    refine g_sub E [1, 2, 3, 0] rfl ?_
    exact k0 z8 (x10 + 1) (Option.some.inj h).symm
  have l99 : ∀ (o : OO) (x7 : Int) (r : (Int64)) (s0 : Int64 × Int), loopW (fun s => l_X1_shopsLeft_99 o x7 s.1 s.2) s0 = some r → (∀ (z8 : Int64), r = (z8) → Go X 139 (wC g ad o) [(8, .long z8)] []) → Go X 99 (wC g ad o) [(0, .ref (ad 10)), (7, iv x7), (8, .long s0.1), (10, iv s0.2)] [] := by
    intro o x7 r s0 h k1
    refine loop_rule (Head := fun s0 => Go X 99 (wC g ad o) [(0, .ref (ad 10)), (7, iv x7), (8, .long s0.1), (10, iv s0.2)] []) h ?_
    intro s v h kk kx
    obtain ⟨z8, x10⟩ := s
    have h : l_X1_shopsLeft_99 o x7 z8 x10 = some v := h
    have k0 : ∀ (z8 : Int64) (x10 : Int), v = .inl (z8, x10) → Go X 99 (wC g ad o) [(0, .ref (ad 10)), (7, iv x7), (8, .long z8), (10, iv x10)] [] := fun z8 x10 e => kk (z8, x10) e
    have k1 : ∀ (z8 : Int64), v = .inr (z8) → Go X 139 (wC g ad o) [(8, .long z8)] [] := fun z8 e => k1 z8 (kx _ e).symm
    unfold l_X1_shopsLeft_99 at h
    refine g_iload E gdX1_shopsLeft_99 3 rfl ?_
    refine g_aload_n E gdX1_shopsLeft_101 rfl 0 rfl ?_
    refine g_get (T := TX1) E fw_X1 10 (wC_10 g ad o) rfl 12 (by decide) w_172 rfl rfl gdX1_shopsLeft_102 ?_
    refine g_icmp_ge E 139 gdX1_shopsLeft_105 (by decide) h (fun h => ?_) (fun h => ?_)
    ·
      refine g_sub E [2] rfl ?_
      exact k1 z8 (Option.some.inj h).symm
    ·
      refine g_aload_n E gdX1_shopsLeft_108 rfl 0 rfl ?_
      refine g_get (T := TX1) E fw_X1 10 (wC_10 g ad o) rfl 11 (by decide) w_171 rfl rfl gdX1_shopsLeft_109 ?_
      refine g_iload E gdX1_shopsLeft_112 3 rfl ?_
      obtain ⟨hi1, h⟩ := qIn_of h
      refine g_iald E 22 (wC_22 g ad o) (by decide) hi1 gdX1_shopsLeft_114 ?_
      obtain ⟨n2, e_n2, h⟩ := qNm_of h
      refine g_nmi e_n2 ?_
      refine g_iload E gdX1_shopsLeft_115 1 rfl ?_
      refine g_icmp_ge E 133 gdX1_shopsLeft_117 (by decide) h (fun h => ?_) (fun h => ?_)
      ·
        exact j133 o x7 z8 x10 v h k0 k1
      ·
        refine g_lload E gdX1_shopsLeft_120 2 rfl ?_
        refine g_lconst (v := 1) E gdX1_shopsLeft_122 (by decide) ?_
        refine g_iload E gdX1_shopsLeft_123 3 rfl ?_
        refine g_lshl E gdX1_shopsLeft_125 ?_
        refine g_ldc2 E gdX1_shopsLeft_126 w_1199 ?_
        refine g_lxor E gdX1_shopsLeft_129 ?_
        refine g_land E gdX1_shopsLeft_130 ?_
        obtain ⟨m3, e_m3, h⟩ := qNm_of h
        refine g_nml e_m3 ?_
        refine g_lstore E [(8, .long m3), (0, .ref (ad 10)), (7, iv x7), (10, iv x10)] gdX1_shopsLeft_131 (by decide) rfl ?_
        refine g_sub E [1, 2, 0, 3] rfl ?_
        exact j133 o x7 m3 x10 v h k0 k1
  have j99 : ∀ (o : OO) (x7 : Int) (z8 : Int64) (x10 : Int), e_X1_shopsLeft_99 o x7 z8 x10 = some v → Go X 99 (wC g ad o) [(0, .ref (ad 10)), (7, iv x7), (8, .long z8), (10, iv x10)] [] := by
    intro o x7 z8 x10 h
    unfold e_X1_shopsLeft_99 at h
    obtain ⟨r, hr, h⟩ := qB_of h
    refine l99 o x7 r _ hr ?_
    ·
      intro u0 e
      have e := e.symm
      subst e
      have h : b_X1_shopsLeft_139 o u0 = some v := h
      exact j139 o u0 h
  have j93 : ∀ (o : OO) (z1 : Int64) (x7 : Int), b_X1_shopsLeft_93 o z1 x7 = some v → Go X 93 (wC g ad o) [(0, .ref (ad 10)), (1, .long z1), (7, iv x7)] [] := by
    intro o z1 x7 h
    unfold b_X1_shopsLeft_93 at h
    refine g_lload_n E gdX1_shopsLeft_93 rfl 1 rfl ?_
    refine g_lstore E [(8, .long z1), (0, .ref (ad 10)), (1, .long z1), (7, iv x7)] gdX1_shopsLeft_94 (by decide) rfl ?_
    refine g_iconst E gdX1_shopsLeft_96 ?_
    refine g_istore E [(10, iv 0), (8, .long z1), (0, .ref (ad 10)), (1, .long z1), (7, iv x7)] gdX1_shopsLeft_97 (by decide) rfl ?_
    refine g_sub E [2, 4, 1, 0] rfl ?_
    exact j99 o x7 z1 0 h
  have j87 : ∀ (o : OO) (z1 : Int64) (z3 : Int64) (z5 : Int64) (x7 : Int) (x8 : Int) (v : (OO × Int) ⊕ ((OO))), b_X1_shopsLeft_87 o z1 z3 z5 x7 x8 = some v → (∀ (o : OO) (x8 : Int), v = .inl (o, x8) → Go X 11 (wC g ad o) [(0, .ref (ad 10)), (1, .long z1), (3, .long z3), (5, .long z5), (7, iv x7), (8, iv x8)] []) → (∀ (o : OO), v = .inr (o) → Go X 93 (wC g ad o) [(0, .ref (ad 10)), (1, .long z1), (7, iv x7)] []) → Go X 87 (wC g ad o) [(0, .ref (ad 10)), (1, .long z1), (3, .long z3), (5, .long z5), (7, iv x7), (8, iv x8)] [] := by
    intro o z1 z3 z5 x7 x8 v h k0 k1
    unfold b_X1_shopsLeft_87 at h
    refine g_iinc E [(8, iv (x8 + 1)), (0, .ref (ad 10)), (1, .long z1), (3, .long z3), (5, .long z5), (7, iv x7)] gdX1_shopsLeft_87 5 rfl (by decide) rfl ?_
    refine g_goto E 11 gdX1_shopsLeft_90 (by decide) ?_
    refine g_sub E [1, 2, 3, 4, 5, 0] rfl ?_
    exact k0 o (x8 + 1) (Option.some.inj h).symm
  have l11 : ∀ (z1 : Int64) (z3 : Int64) (z5 : Int64) (x7 : Int) (r : (OO)) (s0 : OO × Int), loopW (fun s => l_X1_shopsLeft_11 z1 z3 z5 x7 s.1 s.2) s0 = some r → (∀ (o : OO), r = (o) → Go X 93 (wC g ad o) [(0, .ref (ad 10)), (1, .long z1), (7, iv x7)] []) → Go X 11 (wC g ad s0.1) [(0, .ref (ad 10)), (1, .long z1), (3, .long z3), (5, .long z5), (7, iv x7), (8, iv s0.2)] [] := by
    intro z1 z3 z5 x7 r s0 h k1
    refine loop_rule (Head := fun s0 => Go X 11 (wC g ad s0.1) [(0, .ref (ad 10)), (1, .long z1), (3, .long z3), (5, .long z5), (7, iv x7), (8, iv s0.2)] []) h ?_
    intro s v h kk kx
    obtain ⟨o, x8⟩ := s
    have h : l_X1_shopsLeft_11 z1 z3 z5 x7 o x8 = some v := h
    have k0 : ∀ (o : OO) (x8 : Int), v = .inl (o, x8) → Go X 11 (wC g ad o) [(0, .ref (ad 10)), (1, .long z1), (3, .long z3), (5, .long z5), (7, iv x7), (8, iv x8)] [] := fun o x8 e => kk (o, x8) e
    have k1 : ∀ (o : OO), v = .inr (o) → Go X 93 (wC g ad o) [(0, .ref (ad 10)), (1, .long z1), (7, iv x7)] [] := fun o e => k1 o (kx _ e).symm
    unfold l_X1_shopsLeft_11 at h
    refine g_iload E gdX1_shopsLeft_11 5 rfl ?_
    refine g_aload_n E gdX1_shopsLeft_13 rfl 0 rfl ?_
    refine g_get (T := TX1) E fw_X1 10 (wC_10 g ad o) rfl 12 (by decide) w_172 rfl rfl gdX1_shopsLeft_14 ?_
    refine g_icmp_ge E 93 gdX1_shopsLeft_17 (by decide) h (fun h => ?_) (fun h => ?_)
    ·
      refine g_sub E [0, 1, 4] rfl ?_
      exact k1 o (Option.some.inj h).symm
    ·
      refine g_aload_n E gdX1_shopsLeft_20 rfl 0 rfl ?_
      refine g_get (T := TX1) E fw_X1 10 (wC_10 g ad o) rfl 3 (by decide) w_163 rfl rfl gdX1_shopsLeft_21 ?_
      refine g_iload E gdX1_shopsLeft_24 5 rfl ?_
      obtain ⟨hi4, h⟩ := qIn_of h
      refine g_iald E 14 (wC_14 g ad o) (by decide) hi4 gdX1_shopsLeft_26 ?_
      obtain ⟨n5, e_n5, h⟩ := qNm_of h
      refine g_nmi e_n5 ?_
      refine g_if_eq E 87 gdX1_shopsLeft_27 (by decide) h (fun h => ?_) (fun h => ?_)
      ·
        exact j87 o z1 z3 z5 x7 x8 v h k0 k1
      ·
        refine g_lload_n E gdX1_shopsLeft_30 rfl 2 rfl ?_
        refine g_aload_n E gdX1_shopsLeft_31 rfl 0 rfl ?_
        refine g_get (T := TX1) E fw_X1 10 (wC_10 g ad o) rfl 0 (by decide) w_160 rfl rfl gdX1_shopsLeft_32 ?_
        refine g_iload E gdX1_shopsLeft_35 5 rfl ?_
        obtain ⟨hi6, h⟩ := qIn_of h
        refine g_iald E 11 (wC_11 g ad o) (by decide) hi6 gdX1_shopsLeft_37 ?_
        obtain ⟨n7, e_n7, h⟩ := qNm_of h
        refine g_nmi e_n7 ?_
        obtain ⟨r8, hc9, h⟩ := qB_of h
        refine g_Si (r := r8) (As := [.long z3, iv n7]) (rest := []) (w := wC g ad o) E (c_X3_has l g (wC g ad o) z3 n7 r8 hc9) okm_X3_has w_839 w_1179 rfl rfl (Nat.le_of_ble_eq_true rfl) ⟨Nat.le_of_ble_eq_true rfl, Nat.le_of_ble_eq_true rfl⟩ gdX1_shopsLeft_38 ?_
        refine g_if_eq E 47 gdX1_shopsLeft_41 (by decide) h (fun h => ?_) (fun h => ?_)
        ·
          refine g_aload_n E gdX1_shopsLeft_47 rfl 0 rfl ?_
          refine g_aload_n E gdX1_shopsLeft_48 rfl 0 rfl ?_
          refine g_get (T := TX1) E fw_X1 10 (wC_10 g ad o) rfl 0 (by decide) w_160 rfl rfl gdX1_shopsLeft_49 ?_
          refine g_iload E gdX1_shopsLeft_52 5 rfl ?_
          obtain ⟨hi10, h⟩ := qIn_of h
          refine g_iald E 11 (wC_11 g ad o) (by decide) hi10 gdX1_shopsLeft_54 ?_
          obtain ⟨n11, e_n11, h⟩ := qNm_of h
          refine g_nmi e_n11 ?_
          refine g_lload_n E gdX1_shopsLeft_55 rfl 1 rfl ?_
          refine g_lload E gdX1_shopsLeft_56 3 rfl ?_
          obtain ⟨r12, hc13, h⟩ := qB_of h
          refine g_Vi (r := r12) (As := [iv n11, .long z1, .long z5]) (rest := []) (w := wC g ad o) E (c_X1_nearest l g ad o n11 z1 z5 r12 hc13) okm_X1_nearest okw_X1_nearest w_1190 rfl (wC_10 g ad o) rfl rfl (Nat.le_of_ble_eq_true rfl) ⟨Nat.le_of_ble_eq_true rfl, Nat.le_of_ble_eq_true rfl⟩ gdX1_shopsLeft_58 ?_
          refine g_istore E [(9, iv r12), (0, .ref (ad 10)), (1, .long z1), (3, .long z3), (5, .long z5), (7, iv x7), (8, iv x8)] gdX1_shopsLeft_61 (by decide) rfl ?_
          refine g_iload E gdX1_shopsLeft_63 0 rfl ?_
          refine g_bipush E gdX1_shopsLeft_65 (by decide) ?_
          refine g_icmp_eq E 87 gdX1_shopsLeft_67 (by decide) h (fun h => ?_) (fun h => ?_)
          ·
            refine g_sub E [1, 2, 3, 4, 5, 6] rfl ?_
            exact j87 o z1 z3 z5 x7 x8 v h k0 k1
          ·
            refine g_aload_n E gdX1_shopsLeft_70 rfl 1 rfl ?_
            refine g_get (T := TX1) E fw_X1 10 (wC_10 g ad o) rfl 11 (by decide) w_171 rfl rfl gdX1_shopsLeft_71 ?_
            refine g_iload E gdX1_shopsLeft_74 0 rfl ?_
            refine g_dup2 E gdX1_shopsLeft_76 rfl rfl ?_
            obtain ⟨hi14, h⟩ := qIn_of h
            refine g_iald E 22 (wC_22 g ad o) (by decide) hi14 gdX1_shopsLeft_77 ?_
            obtain ⟨n15, e_n15, h⟩ := qNm_of h
            refine g_nmi e_n15 ?_
            refine g_aload_n E gdX1_shopsLeft_78 rfl 1 rfl ?_
            refine g_get (T := TX1) E fw_X1 10 (wC_10 g ad o) rfl 3 (by decide) w_163 rfl rfl gdX1_shopsLeft_79 ?_
            refine g_iload E gdX1_shopsLeft_82 6 rfl ?_
            obtain ⟨hi16, h⟩ := qIn_of h
            refine g_iald E 14 (wC_14 g ad o) (by decide) hi16 gdX1_shopsLeft_84 ?_
            obtain ⟨n17, e_n17, h⟩ := qNm_of h
            refine g_nmi e_n17 ?_
            refine g_iadd E gdX1_shopsLeft_85 ?_
            obtain ⟨hi18, h⟩ := qIn_of h
            obtain ⟨o19, e_o19, h⟩ := qNm_of h
            refine g_iast (ws' := wC g ad o19) E 22 (wC_22 g ad o) (by decide) hi18 (by rw [e_o19]; exact wC_s22 g ad o _ _) gdX1_shopsLeft_86 ?_
            refine g_sub E [1, 2, 3, 4, 5, 6] rfl ?_
            exact j87 o19 z1 z3 z5 x7 x8 v h k0 k1
        ·
          refine g_goto E 87 gdX1_shopsLeft_44 (by decide) ?_
          exact j87 o z1 z3 z5 x7 x8 v h k0 k1
  have j11 : ∀ (o : OO) (z1 : Int64) (z3 : Int64) (z5 : Int64) (x7 : Int) (x8 : Int), e_X1_shopsLeft_11 o z1 z3 z5 x7 x8 = some v → Go X 11 (wC g ad o) [(0, .ref (ad 10)), (1, .long z1), (3, .long z3), (5, .long z5), (7, iv x7), (8, iv x8)] [] := by
    intro o z1 z3 z5 x7 x8 h
    unfold e_X1_shopsLeft_11 at h
    obtain ⟨r, hr, h⟩ := qB_of h
    refine l11 z1 z3 z5 x7 r _ hr ?_
    ·
      intro u0 e
      have e := e.symm
      subst e
      have h : b_X1_shopsLeft_93 u0 z1 x7 = some v := h
      exact j93 u0 z1 x7 h
  unfold s_X1_shopsLeft at h
  refine g_aload_n E gdX1_shopsLeft_0 rfl 0 rfl ?_
  refine g_get (T := TX1) E fw_X1 10 (wC_10 g ad o) rfl 11 (by decide) w_171 rfl rfl gdX1_shopsLeft_1 ?_
  refine g_iconst E gdX1_shopsLeft_4 ?_
  obtain ⟨o22, hc21, h⟩ := qB_of h
  refine g_Sv (As := [.ref (ad 22), iv 0]) (rest := []) (w := wC g ad o22) E (c_J7_fill_53178__22 l g ad o 0 o22 hc21) okm_J7_fill_53178 w_124 w_159 rfl rfl (Nat.le_of_ble_eq_true rfl) ⟨Nat.le_of_ble_eq_true rfl, Nat.le_of_ble_eq_true rfl⟩ gdX1_shopsLeft_5 ?_
  refine g_iconst E gdX1_shopsLeft_8 ?_
  refine g_istore E [(8, iv 0), (0, .ref (ad 10)), (1, .long z1), (3, .long z3), (5, .long z5), (7, iv x7)] gdX1_shopsLeft_9 (by decide) rfl ?_
  refine g_sub E [1, 2, 3, 4, 5, 0] rfl ?_
  exact j11 o22 z1 z3 z5 x7 0 h
set_option maxHeartbeats 4000000 in
set_option maxRecDepth 100000 in
theorem c_X11_fall (l : Launch) (g : GG) (ad : Nat → Nat) (o : OO) (x1 : Int) (x2 : Int) (v : Int × OO) (h : s_X11_fall o x1 x2 = some v) : CI l g yX11_fall cX11_fall 13 (some .int) 4 108 (wC g ad o) [.ref (ad 0), iv x1, iv x2] v.1 (wC g ad v.2) := by
  refine met_I (by decide) (Nat.le_of_ble_eq_true rfl) ?_
  intro X E hQ
  show Go X 0 (wC g ad o) [(0, .ref (ad 0)), (1, iv x1), (2, iv x2)] []
  have j21 : ∀ (o : OO), b_X11_fall_21 o = some v → Go X 21 (wC g ad o) [] [] := by
    intro o h
    unfold b_X11_fall_21 at h
    refine g_iconst E gdX11_fall_21 ?_
    exact g_iret E hQ (by rw [← Option.some.inj h]) (by rw [← Option.some.inj h]) gdX11_fall_22
  have j129 : ∀ (o : OO) (z6 : Int64) (z8 : Int64), b_X11_fall_129 o z6 z8 = some v → Go X 129 (wC g ad o) [(0, .ref (ad 0)), (6, .long z6), (8, .long z8)] [] := by
    intro o z6 z8 h
    unfold b_X11_fall_129 at h
    refine g_aload_n E gdX11_fall_129 rfl 0 rfl ?_
    refine g_lload E gdX11_fall_130 1 rfl ?_
    refine g_lload E gdX11_fall_132 2 rfl ?_
    refine g_ldc2 E gdX11_fall_134 w_1185 ?_
    refine g_lxor E gdX11_fall_137 ?_
    refine g_land E gdX11_fall_138 ?_
    obtain ⟨o1, e_o1, h⟩ := qNm_of h
    refine g_putl (T := TX11) (ws' := wC g ad o1) E fw_X11 tyX11 tyX11_ok nmX11 0 (wC_0 g ad o) rfl 16 (by decide) w_474 rfl rfl (by decide +kernel) (Nat.le_of_ble_eq_true rfl) (by rw [e_o1]; exact wC_p0_16 g ad o _) gdX11_fall_139 ?_
    refine g_aload_n E gdX11_fall_142 rfl 0 rfl ?_
    refine g_get (T := TX11) E fw_X11 0 (wC_0 g ad o1) rfl 16 (by decide) w_474 rfl rfl gdX11_fall_143 ?_
    obtain ⟨r2, hc3, h⟩ := qB_of h
    refine g_Si (r := r2) (As := [.long (o1.2 0 16)]) (rest := []) (w := wC g ad o1) E (c_J13_bitCount_95d88 l g (wC g ad o1) (o1.2 0 16) r2 hc3) okm_J13_bitCount_95d88 w_936 w_1200 rfl rfl (Nat.le_of_ble_eq_true rfl) ⟨Nat.le_of_ble_eq_true rfl, Nat.le_of_ble_eq_true rfl⟩ gdX11_fall_146 ?_
    exact g_iret E hQ (by rw [← Option.some.inj h]) (by rw [← Option.some.inj h]) gdX11_fall_149
  have j116 : ∀ (o : OO) (z6 : Int64) (z8 : Int64), b_X11_fall_116 o z6 z8 = some v → Go X 116 (wC g ad o) [(0, .ref (ad 0)), (6, .long z6), (8, .long z8)] [] := by
    intro o z6 z8 h
    unfold b_X11_fall_116 at h
    refine g_goto E 129 gdX11_fall_116 (by decide) ?_
    exact j129 o z6 z8 h
  have l75 : ∀ (x2 : Int) (z3 : Int64) (x5 : Int) (z6 : Int64) (r : (OO × Int64) ⊕ (OO × Int64)) (s0 : OO × Int64 × Int), loopW (fun s => l_X11_fall_75 x2 z3 x5 z6 s.1 s.2.1 s.2.2) s0 = some r → (∀ (o : OO) (z8 : Int64), r = (.inl (o, z8)) → Go X 116 (wC g ad o) [(0, .ref (ad 0)), (6, .long z6), (8, .long z8)] []) → (∀ (o : OO) (z8 : Int64), r = (.inr (o, z8)) → Go X 129 (wC g ad o) [(0, .ref (ad 0)), (6, .long z6), (8, .long z8)] []) → Go X 75 (wC g ad s0.1) [(0, .ref (ad 0)), (2, iv x2), (3, .long z3), (5, iv x5), (6, .long z6), (8, .long s0.2.1), (10, iv s0.2.2)] [] := by
    intro x2 z3 x5 z6 r s0 h k1 k2
    refine loop_rule (Head := fun s0 => Go X 75 (wC g ad s0.1) [(0, .ref (ad 0)), (2, iv x2), (3, .long z3), (5, iv x5), (6, .long z6), (8, .long s0.2.1), (10, iv s0.2.2)] []) h ?_
    intro s v h kk kx
    obtain ⟨o, z8, x10⟩ := s
    have h : l_X11_fall_75 x2 z3 x5 z6 o z8 x10 = some v := h
    have k0 : ∀ (o : OO) (z8 : Int64) (x10 : Int), v = .inl (o, z8, x10) → Go X 75 (wC g ad o) [(0, .ref (ad 0)), (2, iv x2), (3, .long z3), (5, iv x5), (6, .long z6), (8, .long z8), (10, iv x10)] [] := fun o z8 x10 e => kk (o, z8, x10) e
    have k1 : ∀ (o : OO) (z8 : Int64), v = .inr (.inl (o, z8)) → Go X 116 (wC g ad o) [(0, .ref (ad 0)), (6, .long z6), (8, .long z8)] [] := fun o z8 e => k1 o z8 (kx _ e).symm
    have k2 : ∀ (o : OO) (z8 : Int64), v = .inr (.inr (o, z8)) → Go X 129 (wC g ad o) [(0, .ref (ad 0)), (6, .long z6), (8, .long z8)] [] := fun o z8 e => k2 o z8 (kx _ e).symm
    unfold l_X11_fall_75 at h
    refine g_iload E gdX11_fall_75 6 rfl ?_
    refine g_iload_n E gdX11_fall_77 rfl 1 rfl ?_
    refine g_icmp_ge E 129 gdX11_fall_78 (by decide) h (fun h => ?_) (fun h => ?_)
    ·
      refine g_sub E [0, 4, 5] rfl ?_
      exact k2 o z8 (Option.some.inj h).symm
    ·
      refine g_aload_n E gdX11_fall_81 rfl 0 rfl ?_
      refine g_get (T := TX11) E fw_X11 0 (wC_0 g ad o) rfl 3 (by decide) w_461 rfl rfl gdX11_fall_82 ?_
      refine g_lload E gdX11_fall_85 5 rfl ?_
      refine g_lload_n E gdX11_fall_87 rfl 2 rfl ?_
      refine g_lload_n E gdX11_fall_88 rfl 2 rfl ?_
      refine g_aload_n E gdX11_fall_89 rfl 0 rfl ?_
      refine g_get (T := TX11) E fw_X11 0 (wC_0 g ad o) rfl 2 (by decide) w_460 rfl rfl gdX11_fall_90 ?_
      obtain ⟨p4, hc5, h⟩ := qB_of h
      refine g_Vl (r := p4) (As := []) (rest := [.long z3, .long z3, .long z8, .ref (ad 10)]) (w := wC g ad o) E (c_X3_water l g ad o p4 hc5) okm_X3_water okw_X3_water w_1180 rfl (wC_7 g ad o) rfl rfl (Nat.le_of_ble_eq_true rfl) ⟨Nat.le_of_ble_eq_true rfl, Nat.le_of_ble_eq_true rfl⟩ gdX11_fall_93 ?_
      refine g_lor E gdX11_fall_96 ?_
      refine g_ldc2 E gdX11_fall_97 w_1185 ?_
      refine g_lxor E gdX11_fall_100 ?_
      refine g_iload E gdX11_fall_101 3 rfl ?_
      obtain ⟨p6, o8, hc7, h⟩ := qB2_of h
      refine g_Vl (r := p6) (As := [.long z8, .long z3, .long ((z3 ||| p4) ^^^ (-1 : Int64)), iv x5]) (rest := []) (w := wC g ad o8) E (c_X1_shopsLeft l g ad o z8 z3 ((z3 ||| p4) ^^^ (-1 : Int64)) x5 (p6, o8) hc7) okm_X1_shopsLeft okw_X1_shopsLeft w_1186 rfl (wC_10 g ad o) rfl rfl (Nat.le_of_ble_eq_true rfl) ⟨Nat.le_of_ble_eq_true rfl, Nat.le_of_ble_eq_true rfl⟩ gdX11_fall_103 ?_
      refine g_lstore E [(11, .long p6), (0, .ref (ad 0)), (2, iv x2), (3, .long z3), (5, iv x5), (6, .long z6), (8, .long z8), (10, iv x10)] gdX11_fall_106 (by decide) rfl ?_
      refine g_lload E gdX11_fall_108 0 rfl ?_
      refine g_lload E gdX11_fall_110 6 rfl ?_
      refine g_lcmp_ne E 119 gdX11_fall_112 gdX11_fall_113 (by decide) h (fun h => ?_) (fun h => ?_)
      ·
        refine g_lload E gdX11_fall_119 0 rfl ?_
        refine g_lstore E [(8, .long p6), (11, .long p6), (0, .ref (ad 0)), (2, iv x2), (3, .long z3), (5, iv x5), (6, .long z6), (10, iv x10)] gdX11_fall_121 (by decide) rfl ?_
        refine g_iinc E [(10, iv (x10 + 1)), (8, .long p6), (11, .long p6), (0, .ref (ad 0)), (2, iv x2), (3, .long z3), (5, iv x5), (6, .long z6)] gdX11_fall_123 7 rfl (by decide) rfl ?_
        refine g_goto E 75 gdX11_fall_126 (by decide) ?_
        refine g_sub E [3, 4, 5, 6, 7, 1, 0] rfl ?_
        exact k0 o8 p6 (x10 + 1) (Option.some.inj h).symm
      ·
        refine g_sub E [1, 5, 6] rfl ?_
        exact k1 o8 z8 (Option.some.inj h).symm
  have j75 : ∀ (o : OO) (x2 : Int) (z3 : Int64) (x5 : Int) (z6 : Int64) (z8 : Int64) (x10 : Int), e_X11_fall_75 o x2 z3 x5 z6 z8 x10 = some v → Go X 75 (wC g ad o) [(0, .ref (ad 0)), (2, iv x2), (3, .long z3), (5, iv x5), (6, .long z6), (8, .long z8), (10, iv x10)] [] := by
    intro o x2 z3 x5 z6 z8 x10 h
    unfold e_X11_fall_75 at h
    obtain ⟨r, hr, h⟩ := qB_of h
    refine l75 x2 z3 x5 z6 r _ hr ?_ ?_
    ·
      intro u0 u1 e
      subst e
      have h : b_X11_fall_116 u0 z6 u1 = some v := h
      exact j116 u0 z6 u1 h
    ·
      intro u0 u1 e
      subst e
      have h : b_X11_fall_129 u0 z6 u1 = some v := h
      exact j129 u0 z6 u1 h
  unfold s_X11_fall at h
  refine g_aload_n E gdX11_fall_0 rfl 0 rfl ?_
  refine g_get (T := TX11) E fw_X11 0 (wC_0 g ad o) rfl 6 (by decide) w_464 rfl rfl gdX11_fall_1 ?_
  refine g_iload_n E gdX11_fall_4 rfl 1 rfl ?_
  obtain ⟨r9, hc10, h⟩ := qB_of h
  refine g_Vi (r := r9) (As := [iv x1]) (rest := []) (w := wC g ad o) E (c_X4_exists l g ad o x1 r9 hc10) okm_X4_exists okw_X4_exists w_882 rfl (wC_32 g ad o) rfl rfl (Nat.le_of_ble_eq_true rfl) ⟨Nat.le_of_ble_eq_true rfl, Nat.le_of_ble_eq_true rfl⟩ gdX11_fall_5 ?_
  refine g_if_eq E 21 gdX11_fall_8 (by decide) h (fun h => ?_) (fun h => ?_)
  ·
    refine g_sub E [] rfl ?_
    exact j21 o h
  ·
    refine g_iload_n E gdX11_fall_11 rfl 2 rfl ?_
    refine g_if_lt E 21 gdX11_fall_12 (by decide) h (fun h => ?_) (fun h => ?_)
    ·
      refine g_sub E [] rfl ?_
      exact j21 o h
    ·
      refine g_iload_n E gdX11_fall_15 rfl 2 rfl ?_
      refine g_bipush E gdX11_fall_16 (by decide) ?_
      refine g_icmp_le E 23 gdX11_fall_18 (by decide) h (fun h => ?_) (fun h => ?_)
      ·
        refine g_aload_n E gdX11_fall_23 rfl 0 rfl ?_
        refine g_get (T := TX11) E fw_X11 0 (wC_0 g ad o) rfl 6 (by decide) w_464 rfl rfl gdX11_fall_24 ?_
        refine g_iload_n E gdX11_fall_27 rfl 1 rfl ?_
        refine g_iconst E gdX11_fall_28 ?_
        obtain ⟨r11, hc12, h⟩ := qB_of h
        refine g_Vi (r := r11) (As := [iv x1, iv 1]) (rest := []) (w := wC g ad o) E (c_X4_isOf l g ad o x1 1 r11 hc12) okm_X4_isOf okw_X4_isOf w_886 rfl (wC_32 g ad o) rfl rfl (Nat.le_of_ble_eq_true rfl) ⟨Nat.le_of_ble_eq_true rfl, Nat.le_of_ble_eq_true rfl⟩ gdX11_fall_29 ?_
        refine g_if_ne E 41 gdX11_fall_32 (by decide) h (fun h => ?_) (fun h => ?_)
        ·
          refine g_aload_n E gdX11_fall_41 rfl 0 rfl ?_
          refine g_get (T := TX11) E fw_X11 0 (wC_0 g ad o) rfl 6 (by decide) w_464 rfl rfl gdX11_fall_42 ?_
          refine g_iload_n E gdX11_fall_45 rfl 1 rfl ?_
          obtain ⟨p13, hc14, h⟩ := qB_of h
          refine g_Vl (r := p13) (As := [iv x1]) (rest := []) (w := wC g ad o) E (c_X4_cells l g ad o x1 p13 hc14) okm_X4_cells okw_X4_cells w_890 rfl (wC_32 g ad o) rfl rfl (Nat.le_of_ble_eq_true rfl) ⟨Nat.le_of_ble_eq_true rfl, Nat.le_of_ble_eq_true rfl⟩ gdX11_fall_46 ?_
          refine g_lstore_n E [(3, .long p13), (0, .ref (ad 0)), (1, iv x1), (2, iv x2)] gdX11_fall_49 rfl (by decide) rfl ?_
          refine g_aload_n E gdX11_fall_50 rfl 1 rfl ?_
          refine g_iconst E gdX11_fall_51 ?_
          obtain ⟨r15, hc16, h⟩ := qB_of h
          refine g_Vi (r := r15) (As := [iv 4]) (rest := []) (w := wC g ad o) E (c_X11_inForce l g ad o 4 r15 hc16) okm_X11_inForce okw_X11_inForce w_809 rfl (wC_0 g ad o) rfl rfl (Nat.le_of_ble_eq_true rfl) ⟨Nat.le_of_ble_eq_true rfl, Nat.le_of_ble_eq_true rfl⟩ gdX11_fall_52 ?_
          refine g_istore E [(5, iv r15), (3, .long p13), (0, .ref (ad 0)), (1, iv x1), (2, iv x2)] gdX11_fall_55 (by decide) rfl ?_
          refine g_aload_n E gdX11_fall_57 rfl 2 rfl ?_
          refine g_get (T := TX11) E fw_X11 0 (wC_0 g ad o) rfl 3 (by decide) w_461 rfl rfl gdX11_fall_58 ?_
          refine g_lload_n E gdX11_fall_61 rfl 1 rfl ?_
          refine g_iconst E gdX11_fall_62 ?_
          obtain ⟨p17, hc18, h⟩ := qB_of h
          refine g_Vl (r := p17) (As := [.long p13, iv 1]) (rest := []) (w := wC g ad o) E (c_X1_off l g ad o p13 1 p17 hc18) okm_X1_off okw_X1_off w_1175 rfl (wC_10 g ad o) rfl rfl (Nat.le_of_ble_eq_true rfl) ⟨Nat.le_of_ble_eq_true rfl, Nat.le_of_ble_eq_true rfl⟩ gdX11_fall_63 ?_
          refine g_lstore E [(6, .long p17), (5, iv r15), (3, .long p13), (0, .ref (ad 0)), (1, iv x1), (2, iv x2)] gdX11_fall_66 (by decide) rfl ?_
          refine g_lload E gdX11_fall_68 0 rfl ?_
          refine g_lstore E [(8, .long p17), (6, .long p17), (5, iv r15), (3, .long p13), (0, .ref (ad 0)), (1, iv x1), (2, iv x2)] gdX11_fall_70 (by decide) rfl ?_
          refine g_iconst E gdX11_fall_72 ?_
          refine g_istore E [(10, iv 0), (8, .long p17), (6, .long p17), (5, iv r15), (3, .long p13), (0, .ref (ad 0)), (1, iv x1), (2, iv x2)] gdX11_fall_73 (by decide) rfl ?_
          refine g_sub E [5, 7, 4, 3, 2, 1, 0] rfl ?_
          exact j75 o x2 p13 r15 p17 p17 0 h
        ·
          refine g_aload_n E gdX11_fall_35 rfl 0 rfl ?_
          refine g_iconst E gdX11_fall_36 ?_
          obtain ⟨r19, o21, hc20, h⟩ := qB2_of h
          refine g_Vi (r := r19) (As := [iv 3]) (rest := []) (w := wC g ad o21) E (c_X11_found l g ad o 3 (r19, o21) hc20) okm_X11_found okw_X11_found w_521 rfl (wC_0 g ad o) rfl rfl (Nat.le_of_ble_eq_true rfl) ⟨Nat.le_of_ble_eq_true rfl, Nat.le_of_ble_eq_true rfl⟩ gdX11_fall_37 ?_
          exact g_iret E hQ (by rw [← Option.some.inj h]) (by rw [← Option.some.inj h]) gdX11_fall_40
      ·
        refine g_sub E [] rfl ?_
        exact j21 o h
set_option maxHeartbeats 4000000 in
set_option maxRecDepth 100000 in
theorem c_X8_exists__4 (l : Launch) (g : GG) (ad : Nat → Nat) (o : OO) (x1 : Int) (v : Int) (h : s_X8_exists__4 o x1 = some v) : CI l g yX8_exists cX8_exists 2 (some .boolean) 0 0 (wC g ad o) [.ref (ad 4), iv x1] v (wC g ad o) := by
  refine met_I (by decide) (Nat.le_of_ble_eq_true rfl) ?_
  intro X E hQ
  show Go X 0 (wC g ad o) [(0, .ref (ad 4)), (1, iv x1)] []
  have j17 : ∀ (y0 : Int), b_X8_exists__4_17 o y0 = some v → Go X 17 (wC g ad o) [] [iv y0] := by
    intro y0 h
    unfold b_X8_exists__4_17 at h
    obtain ⟨hz, h⟩ := qZ_of h
    exact g_zret E hQ hz (Option.some.inj h) rfl gdX8_exists_17
  have j16 : b_X8_exists__4_16 o = some v → Go X 16 (wC g ad o) [] [] := by
    intro h
    unfold b_X8_exists__4_16 at h
    refine g_iconst E gdX8_exists_16 ?_
    exact j17 0 h
  unfold s_X8_exists__4 at h
  refine g_iload_n E gdX8_exists_0 rfl 1 rfl ?_
  refine g_if_lt E 16 gdX8_exists_1 (by decide) h (fun h => ?_) (fun h => ?_)
  ·
    refine g_sub E [] rfl ?_
    exact j16  h
  ·
    refine g_iload_n E gdX8_exists_4 rfl 1 rfl ?_
    refine g_aload_n E gdX8_exists_5 rfl 0 rfl ?_
    refine g_get (T := TX8) E fw_X8 4 (wC_4 g ad o) rfl 0 (by decide) w_126 rfl rfl gdX8_exists_6 ?_
    refine g_icmp_ge E 16 gdX8_exists_9 (by decide) h (fun h => ?_) (fun h => ?_)
    ·
      refine g_sub E [] rfl ?_
      exact j16  h
    ·
      refine g_iconst E gdX8_exists_12 ?_
      refine g_goto E 17 gdX8_exists_13 (by decide) ?_
      refine g_sub E [] rfl ?_
      exact j17 1 h
set_option maxHeartbeats 4000000 in
set_option maxRecDepth 100000 in
theorem c_X8_sizeOf__4 (l : Launch) (g : GG) (ad : Nat → Nat) (o : OO) (x1 : Int) (v : Int) (h : s_X8_sizeOf__4 o x1 = some v) : CI l g yX8_sizeOf cX8_sizeOf 2 (some .int) 0 0 (wC g ad o) [.ref (ad 4), iv x1] v (wC g ad o) := by
  refine met_I (by decide) (Nat.le_of_ble_eq_true rfl) ?_
  intro X E hQ
  show Go X 0 (wC g ad o) [(0, .ref (ad 4)), (1, iv x1)] []
  unfold s_X8_sizeOf__4 at h
  refine g_aload_n E gdX8_sizeOf_0 rfl 0 rfl ?_
  refine g_get (T := TX8) E fw_X8 4 (wC_4 g ad o) rfl 2 (by decide) w_128 rfl rfl gdX8_sizeOf_1 ?_
  refine g_iload_n E gdX8_sizeOf_4 rfl 1 rfl ?_
  obtain ⟨hi1, h⟩ := qIn_of h
  refine g_iald E 5 (wC_5 g ad o) (by decide) hi1 gdX8_sizeOf_5 ?_
  obtain ⟨n2, e_n2, h⟩ := qNm_of h
  refine g_nmi e_n2 ?_
  exact g_iret E hQ (Option.some.inj h) rfl gdX8_sizeOf_6
set_option maxHeartbeats 4000000 in
set_option maxRecDepth 100000 in
theorem c_X7_letterOf (l : Launch) (g : GG) (ws : va_W) (x0 : Int) (v : Int) (h : s_X7_letterOf x0 = some v) : CI l g yX7_letterOf cX7_letterOf 2 (some .int) 0 0 ws [iv x0] v ws := by
  refine met_I (by decide) (Nat.le_of_ble_eq_true rfl) ?_
  intro X E hQ
  show Go X 0 ws [(0, iv x0)] []
  have j17 : ∀ (x1 : Int), b_X7_letterOf_17 x1 = some v → Go X 17 ws [(1, iv x1)] [] := by
    intro x1 h
    unfold b_X7_letterOf_17 at h
    refine g_iload_n E gdX7_letterOf_17 rfl 0 rfl ?_
    exact g_iret E hQ (Option.some.inj h) rfl gdX7_letterOf_18
  have j25 : b_X7_letterOf_25  = some v → Go X 25 ws [] [] := by
    intro h
    unfold b_X7_letterOf_25 at h
    refine g_bipush E gdX7_letterOf_25 (by decide) ?_
    exact g_iret E hQ (Option.some.inj h) rfl gdX7_letterOf_27
  have l2 : ∀ (x0 : Int) (r : (Int) ⊕ (Unit)) (s0 : Int), loopW (fun s => l_X7_letterOf_2 x0 s) s0 = some r → (∀ (x1 : Int), r = (.inl x1) → Go X 17 ws [(1, iv x1)] []) → (r = (.inr ()) → Go X 25 ws [] []) → Go X 2 ws [(0, iv x0), (1, iv s0)] [] := by
    intro x0 r s0 h k1 k2
    refine loop_rule (Head := fun s0 => Go X 2 ws [(0, iv x0), (1, iv s0)] []) h ?_
    intro s v h kk kx
    obtain ⟨x1, hs⟩ : ∃ q, q = s := ⟨_, rfl⟩
    subst hs
    have h : l_X7_letterOf_2 x0 x1 = some v := h
    have k0 : ∀ (x1 : Int), v = .inl x1 → Go X 2 ws [(0, iv x0), (1, iv x1)] [] := fun x1 e => kk x1 e
    have k1 : ∀ (x1 : Int), v = .inr (.inl x1) → Go X 17 ws [(1, iv x1)] [] := fun x1 e => k1 x1 (kx _ e).symm
    have k2 : v = .inr (.inr ()) → Go X 25 ws [] [] := fun e => k2 (kx _ e).symm
    unfold l_X7_letterOf_2 at h
    refine g_iload_n E gdX7_letterOf_2 rfl 1 rfl ?_
    refine g_bipush E gdX7_letterOf_3 (by decide) ?_
    refine g_icmp_ge E 25 gdX7_letterOf_5 (by decide) h (fun h => ?_) (fun h => ?_)
    ·
      refine g_sub E [] rfl ?_
      exact k2  (Option.some.inj h).symm
    ·
      refine g_gsL E w_604 rfl gdX7_letterOf_8 ?_
      refine g_iload_n E gdX7_letterOf_11 rfl 1 rfl ?_
      obtain ⟨hi1, h⟩ := qIn_of h
      refine g_stL E hi1 gdX7_letterOf_12 ?_
      obtain ⟨n2, e_n2, h⟩ := qNm_of h
      refine g_nmi e_n2 ?_
      refine g_iload_n E gdX7_letterOf_13 rfl 0 rfl ?_
      refine g_icmp_ne E 19 gdX7_letterOf_14 (by decide) h (fun h => ?_) (fun h => ?_)
      ·
        refine g_iinc E [(1, iv (x1 + 1)), (0, iv x0)] gdX7_letterOf_19 1 rfl (by decide) rfl ?_
        refine g_goto E 2 gdX7_letterOf_22 (by decide) ?_
        refine g_sub E [1, 0] rfl ?_
        exact k0 (x1 + 1) (Option.some.inj h).symm
      ·
        refine g_sub E [1] rfl ?_
        exact k1 x1 (Option.some.inj h).symm
  have j2 : ∀ (x0 : Int) (x1 : Int), e_X7_letterOf_2 x0 x1 = some v → Go X 2 ws [(0, iv x0), (1, iv x1)] [] := by
    intro x0 x1 h
    unfold e_X7_letterOf_2 at h
    obtain ⟨r, hr, h⟩ := qB_of h
    refine l2 x0 r _ hr ?_ ?_
    ·
      intro u0 e
      subst e
      have h : b_X7_letterOf_17 u0 = some v := h
      exact j17 u0 h
    ·
      intro e
      subst e
      have h : b_X7_letterOf_25  = some v := h
      exact j25  h
  unfold s_X7_letterOf at h
  refine g_iconst E gdX7_letterOf_0 ?_
  refine g_istore_n E [(1, iv 0), (0, iv x0)] gdX7_letterOf_1 rfl (by decide) rfl ?_
  refine g_sub E [1, 0] rfl ?_
  exact j2 x0 0 h
set_option maxHeartbeats 4000000 in
set_option maxRecDepth 100000 in
theorem c_X8_holds (l : Launch) (g : GG) (ad : Nat → Nat) (o : OO) (x1 : Int) (x2 : Int) (v : Int) (h : s_X8_holds o x1 x2 = some v) : CI l g yX8_holds cX8_holds 3 (some .boolean) 0 0 (wC g ad o) [.ref (ad 4), iv x1, iv x2] v (wC g ad o) := by
  refine met_I (by decide) (Nat.le_of_ble_eq_true rfl) ?_
  intro X E hQ
  show Go X 0 (wC g ad o) [(0, .ref (ad 4)), (1, iv x1), (2, iv x2)] []
  have j19 : ∀ (y0 : Int), b_X8_holds_19 o y0 = some v → Go X 19 (wC g ad o) [] [iv y0] := by
    intro y0 h
    unfold b_X8_holds_19 at h
    obtain ⟨hz, h⟩ := qZ_of h
    exact g_zret E hQ hz (Option.some.inj h) rfl gdX8_holds_19
  have j18 : b_X8_holds_18 o = some v → Go X 18 (wC g ad o) [] [] := by
    intro h
    unfold b_X8_holds_18 at h
    refine g_iconst E gdX8_holds_18 ?_
    exact j19 0 h
  unfold s_X8_holds at h
  refine g_iload_n E gdX8_holds_0 rfl 2 rfl ?_
  refine g_if_lt E 18 gdX8_holds_1 (by decide) h (fun h => ?_) (fun h => ?_)
  ·
    refine g_sub E [] rfl ?_
    exact j18  h
  ·
    refine g_iload_n E gdX8_holds_4 rfl 2 rfl ?_
    refine g_aload_n E gdX8_holds_5 rfl 0 rfl ?_
    refine g_get (T := TX8) E fw_X8 4 (wC_4 g ad o) rfl 2 (by decide) w_128 rfl rfl gdX8_holds_6 ?_
    refine g_iload_n E gdX8_holds_9 rfl 1 rfl ?_
    obtain ⟨hi1, h⟩ := qIn_of h
    refine g_iald E 5 (wC_5 g ad o) (by decide) hi1 gdX8_holds_10 ?_
    obtain ⟨n2, e_n2, h⟩ := qNm_of h
    refine g_nmi e_n2 ?_
    refine g_icmp_ge E 18 gdX8_holds_11 (by decide) h (fun h => ?_) (fun h => ?_)
    ·
      refine g_sub E [] rfl ?_
      exact j18  h
    ·
      refine g_iconst E gdX8_holds_14 ?_
      refine g_goto E 19 gdX8_holds_15 (by decide) ?_
      refine g_sub E [] rfl ?_
      exact j19 1 h
set_option maxHeartbeats 4000000 in
set_option maxRecDepth 100000 in
theorem c_X7_isDigit (l : Launch) (g : GG) (ws : va_W) (x0 : Int) (v : Int) (h : s_X7_isDigit x0 = some v) : CI l g yX7_isDigit cX7_isDigit 1 (some .boolean) 0 0 ws [iv x0] v ws := by
  refine met_I (by decide) (Nat.le_of_ble_eq_true rfl) ?_
  intro X E hQ
  show Go X 0 ws [(0, iv x0)] []
  have j17 : ∀ (y0 : Int), b_X7_isDigit_17 y0 = some v → Go X 17 ws [] [iv y0] := by
    intro y0 h
    unfold b_X7_isDigit_17 at h
    obtain ⟨hz, h⟩ := qZ_of h
    exact g_zret E hQ hz (Option.some.inj h) rfl gdX7_isDigit_17
  have j16 : b_X7_isDigit_16  = some v → Go X 16 ws [] [] := by
    intro h
    unfold b_X7_isDigit_16 at h
    refine g_iconst E gdX7_isDigit_16 ?_
    exact j17 0 h
  unfold s_X7_isDigit at h
  refine g_iload_n E gdX7_isDigit_0 rfl 0 rfl ?_
  refine g_bipush E gdX7_isDigit_1 (by decide) ?_
  refine g_icmp_lt E 16 gdX7_isDigit_3 (by decide) h (fun h => ?_) (fun h => ?_)
  ·
    refine g_sub E [] rfl ?_
    exact j16  h
  ·
    refine g_iload_n E gdX7_isDigit_6 rfl 0 rfl ?_
    refine g_bipush E gdX7_isDigit_7 (by decide) ?_
    refine g_icmp_gt E 16 gdX7_isDigit_9 (by decide) h (fun h => ?_) (fun h => ?_)
    ·
      refine g_sub E [] rfl ?_
      exact j16  h
    ·
      refine g_iconst E gdX7_isDigit_12 ?_
      refine g_goto E 17 gdX7_isDigit_13 (by decide) ?_
      refine g_sub E [] rfl ?_
      exact j17 1 h
set_option maxHeartbeats 4000000 in
set_option maxRecDepth 100000 in
theorem c_X7_digitsAt (l : Launch) (g : GG) (ad : Nat → Nat) (o : OO) (x1 : Int) (x2 : Int) (v : Int) (h : s_X7_digitsAt o x1 x2 = some v) : CI l g yX7_digitsAt cX7_digitsAt 4 (some .int) 1 22 (wC g ad o) [.ref (ad 4), iv x1, iv x2] v (wC g ad o) := by
  refine met_I (by decide) (Nat.le_of_ble_eq_true rfl) ?_
  intro X E hQ
  show Go X 0 (wC g ad o) [(0, .ref (ad 4)), (1, iv x1), (2, iv x2)] []
  have j38 : ∀ (x3 : Int), b_X7_digitsAt_38 o x3 = some v → Go X 38 (wC g ad o) [(3, iv x3)] [] := by
    intro x3 h
    unfold b_X7_digitsAt_38 at h
    refine g_iload_n E gdX7_digitsAt_38 rfl 0 rfl ?_
    exact g_iret E hQ (Option.some.inj h) rfl gdX7_digitsAt_39
  have l2 : ∀ (x1 : Int) (x2 : Int) (r : (Int)) (s0 : Int), loopW (fun s => l_X7_digitsAt_2 o x1 x2 s) s0 = some r → (∀ (x3 : Int), r = (x3) → Go X 38 (wC g ad o) [(3, iv x3)] []) → Go X 2 (wC g ad o) [(0, .ref (ad 4)), (1, iv x1), (2, iv x2), (3, iv s0)] [] := by
    intro x1 x2 r s0 h k1
    refine loop_rule (Head := fun s0 => Go X 2 (wC g ad o) [(0, .ref (ad 4)), (1, iv x1), (2, iv x2), (3, iv s0)] []) h ?_
    intro s v h kk kx
    obtain ⟨x3, hs⟩ : ∃ q, q = s := ⟨_, rfl⟩
    subst hs
    have h : l_X7_digitsAt_2 o x1 x2 x3 = some v := h
    have k0 : ∀ (x3 : Int), v = .inl x3 → Go X 2 (wC g ad o) [(0, .ref (ad 4)), (1, iv x1), (2, iv x2), (3, iv x3)] [] := fun x3 e => kk x3 e
    have k1 : ∀ (x3 : Int), v = .inr (x3) → Go X 38 (wC g ad o) [(3, iv x3)] [] := fun x3 e => k1 x3 (kx _ e).symm
    unfold l_X7_digitsAt_2 at h
    refine g_iload_n E gdX7_digitsAt_2 rfl 3 rfl ?_
    refine g_iconst E gdX7_digitsAt_3 ?_
    refine g_icmp_ge E 38 gdX7_digitsAt_4 (by decide) h (fun h => ?_) (fun h => ?_)
    ·
      refine g_sub E [3] rfl ?_
      exact k1 x3 (Option.some.inj h).symm
    ·
      refine g_aload_n E gdX7_digitsAt_7 rfl 0 rfl ?_
      refine g_iload_n E gdX7_digitsAt_8 rfl 1 rfl ?_
      refine g_iload_n E gdX7_digitsAt_9 rfl 2 rfl ?_
      refine g_iload_n E gdX7_digitsAt_10 rfl 3 rfl ?_
      refine g_iadd E gdX7_digitsAt_11 ?_
      obtain ⟨r1, hc2, h⟩ := qB_of h
      refine g_Vi (r := r1) (As := [iv x1, iv (x2 + x3)]) (rest := []) (w := wC g ad o) E (c_X8_holds l g ad o x1 (x2 + x3) r1 hc2) okm_X8_holds okw_X8_holds w_609 rfl (wC_4 g ad o) rfl rfl (Nat.le_of_ble_eq_true rfl) ⟨Nat.le_of_ble_eq_true rfl, Nat.le_of_ble_eq_true rfl⟩ gdX7_digitsAt_12 ?_
      refine g_if_eq E 38 gdX7_digitsAt_15 (by decide) h (fun h => ?_) (fun h => ?_)
      ·
        refine g_sub E [3] rfl ?_
        exact k1 x3 (Option.some.inj h).symm
      ·
        refine g_aload_n E gdX7_digitsAt_18 rfl 0 rfl ?_
        refine g_iload_n E gdX7_digitsAt_19 rfl 1 rfl ?_
        refine g_iload_n E gdX7_digitsAt_20 rfl 2 rfl ?_
        refine g_iload_n E gdX7_digitsAt_21 rfl 3 rfl ?_
        refine g_iadd E gdX7_digitsAt_22 ?_
        obtain ⟨r3, hc4, h⟩ := qB_of h
        refine g_Vi (r := r3) (As := [iv x1, iv (x2 + x3)]) (rest := []) (w := wC g ad o) E (c_X8_at__4 l g ad o x1 (x2 + x3) r3 hc4) okm_X8_at okw_X8_at w_597 rfl (wC_4 g ad o) rfl rfl (Nat.le_of_ble_eq_true rfl) ⟨Nat.le_of_ble_eq_true rfl, Nat.le_of_ble_eq_true rfl⟩ gdX7_digitsAt_23 ?_
        obtain ⟨r5, hc6, h⟩ := qB_of h
        refine g_Si (r := r5) (As := [iv r3]) (rest := []) (w := wC g ad o) E (c_X7_isDigit l g (wC g ad o) r3 r5 hc6) okm_X7_isDigit w_611 w_610 rfl rfl (Nat.le_of_ble_eq_true rfl) ⟨Nat.le_of_ble_eq_true rfl, Nat.le_of_ble_eq_true rfl⟩ gdX7_digitsAt_26 ?_
        refine g_if_eq E 38 gdX7_digitsAt_29 (by decide) h (fun h => ?_) (fun h => ?_)
        ·
          refine g_sub E [3] rfl ?_
          exact k1 x3 (Option.some.inj h).symm
        ·
          refine g_iinc E [(3, iv (x3 + 1)), (0, .ref (ad 4)), (1, iv x1), (2, iv x2)] gdX7_digitsAt_32 3 rfl (by decide) rfl ?_
          refine g_goto E 2 gdX7_digitsAt_35 (by decide) ?_
          refine g_sub E [1, 2, 3, 0] rfl ?_
          exact k0 (x3 + 1) (Option.some.inj h).symm
  have j2 : ∀ (x1 : Int) (x2 : Int) (x3 : Int), e_X7_digitsAt_2 o x1 x2 x3 = some v → Go X 2 (wC g ad o) [(0, .ref (ad 4)), (1, iv x1), (2, iv x2), (3, iv x3)] [] := by
    intro x1 x2 x3 h
    unfold e_X7_digitsAt_2 at h
    obtain ⟨r, hr, h⟩ := qB_of h
    refine l2 x1 x2 r _ hr ?_
    ·
      intro u0 e
      have e := e.symm
      subst e
      have h : b_X7_digitsAt_38 o u0 = some v := h
      exact j38 u0 h
  unfold s_X7_digitsAt at h
  refine g_iconst E gdX7_digitsAt_0 ?_
  refine g_istore_n E [(3, iv 0), (0, .ref (ad 4)), (1, iv x1), (2, iv x2)] gdX7_digitsAt_1 rfl (by decide) rfl ?_
  refine g_sub E [1, 2, 3, 0] rfl ?_
  exact j2 x1 x2 0 h
set_option maxHeartbeats 4000000 in
set_option maxRecDepth 100000 in
theorem c_X7_firstFault (l : Launch) (g : GG) (ad : Nat → Nat) (o : OO) (x1 : Int) (v : Int) (h : s_X7_firstFault o x1 = some v) : CI l g yX7_firstFault cX7_firstFault 5 (some .int) 2 45 (wC g ad o) [.ref (ad 4), iv x1] v (wC g ad o) := by
  refine met_I (by decide) (Nat.le_of_ble_eq_true rfl) ?_
  intro X E hQ
  show Go X 0 (wC g ad o) [(0, .ref (ad 4)), (1, iv x1)] []
  have j39 : ∀ (x2 : Int), b_X7_firstFault_39 o x2 = some v → Go X 39 (wC g ad o) [(2, iv x2)] [] := by
    intro x2 h
    unfold b_X7_firstFault_39 at h
    refine g_iload_n E gdX7_firstFault_39 rfl 0 rfl ?_
    refine g_iconst E gdX7_firstFault_40 ?_
    refine g_isub E gdX7_firstFault_41 ?_
    exact g_iret E hQ (Option.some.inj h) rfl gdX7_firstFault_42
  have j56 : ∀ (x2 : Int), b_X7_firstFault_56 o x2 = some v → Go X 56 (wC g ad o) [(2, iv x2)] [] := by
    intro x2 h
    unfold b_X7_firstFault_56 at h
    refine g_iload_n E gdX7_firstFault_56 rfl 0 rfl ?_
    exact g_iret E hQ (Option.some.inj h) rfl gdX7_firstFault_57
  have j66 : b_X7_firstFault_66 o = some v → Go X 66 (wC g ad o) [] [] := by
    intro h
    unfold b_X7_firstFault_66 at h
    refine g_bipush E gdX7_firstFault_66 (by decide) ?_
    exact g_iret E hQ (Option.some.inj h) rfl gdX7_firstFault_68
  have l2 : ∀ (x1 : Int) (r : (Int) ⊕ (Int) ⊕ (Unit)) (s0 : Int), loopW (fun s => l_X7_firstFault_2 o x1 s) s0 = some r → (∀ (x2 : Int), r = (.inl x2) → Go X 39 (wC g ad o) [(2, iv x2)] []) → (∀ (x2 : Int), r = (.inr (.inl x2)) → Go X 56 (wC g ad o) [(2, iv x2)] []) → (r = (.inr (.inr ())) → Go X 66 (wC g ad o) [] []) → Go X 2 (wC g ad o) [(0, .ref (ad 4)), (1, iv x1), (2, iv s0)] [] := by
    intro x1 r s0 h k1 k2 k3
    refine loop_rule (Head := fun s0 => Go X 2 (wC g ad o) [(0, .ref (ad 4)), (1, iv x1), (2, iv s0)] []) h ?_
    intro s v h kk kx
    obtain ⟨x2, hs⟩ : ∃ q, q = s := ⟨_, rfl⟩
    subst hs
    have h : l_X7_firstFault_2 o x1 x2 = some v := h
    have k0 : ∀ (x2 : Int), v = .inl x2 → Go X 2 (wC g ad o) [(0, .ref (ad 4)), (1, iv x1), (2, iv x2)] [] := fun x2 e => kk x2 e
    have k1 : ∀ (x2 : Int), v = .inr (.inl x2) → Go X 39 (wC g ad o) [(2, iv x2)] [] := fun x2 e => k1 x2 (kx _ e).symm
    have k2 : ∀ (x2 : Int), v = .inr (.inr (.inl x2)) → Go X 56 (wC g ad o) [(2, iv x2)] [] := fun x2 e => k2 x2 (kx _ e).symm
    have k3 : v = .inr (.inr (.inr ())) → Go X 66 (wC g ad o) [] [] := fun e => k3 (kx _ e).symm
    unfold l_X7_firstFault_2 at h
    refine g_iload_n E gdX7_firstFault_2 rfl 2 rfl ?_
    refine g_aload_n E gdX7_firstFault_3 rfl 0 rfl ?_
    refine g_iload_n E gdX7_firstFault_4 rfl 1 rfl ?_
    obtain ⟨r1, hc2, h⟩ := qB_of h
    refine g_Vi (r := r1) (As := [iv x1]) (rest := [iv x2]) (w := wC g ad o) E (c_X8_sizeOf__4 l g ad o x1 r1 hc2) okm_X8_sizeOf okw_X8_sizeOf w_593 rfl (wC_4 g ad o) rfl rfl (Nat.le_of_ble_eq_true rfl) ⟨Nat.le_of_ble_eq_true rfl, Nat.le_of_ble_eq_true rfl⟩ gdX7_firstFault_5 ?_
    refine g_icmp_ge E 66 gdX7_firstFault_8 (by decide) h (fun h => ?_) (fun h => ?_)
    ·
      refine g_sub E [] rfl ?_
      exact k3  (Option.some.inj h).symm
    ·
      refine g_aload_n E gdX7_firstFault_11 rfl 0 rfl ?_
      refine g_iload_n E gdX7_firstFault_12 rfl 1 rfl ?_
      refine g_iload_n E gdX7_firstFault_13 rfl 2 rfl ?_
      obtain ⟨r3, hc4, h⟩ := qB_of h
      refine g_Vi (r := r3) (As := [iv x1, iv x2]) (rest := []) (w := wC g ad o) E (c_X8_at__4 l g ad o x1 x2 r3 hc4) okm_X8_at okw_X8_at w_597 rfl (wC_4 g ad o) rfl rfl (Nat.le_of_ble_eq_true rfl) ⟨Nat.le_of_ble_eq_true rfl, Nat.le_of_ble_eq_true rfl⟩ gdX7_firstFault_14 ?_
      refine g_istore_n E [(3, iv r3), (0, .ref (ad 4)), (1, iv x1), (2, iv x2)] gdX7_firstFault_17 rfl (by decide) rfl ?_
      refine g_iinc E [(2, iv (x2 + 1)), (3, iv r3), (0, .ref (ad 4)), (1, iv x1)] gdX7_firstFault_18 3 rfl (by decide) rfl ?_
      refine g_iload_n E gdX7_firstFault_21 rfl 1 rfl ?_
      refine g_bipush E gdX7_firstFault_22 (by decide) ?_
      refine g_icmp_ne E 30 gdX7_firstFault_24 (by decide) h (fun h => ?_) (fun h => ?_)
      ·
        refine g_iload_n E gdX7_firstFault_30 rfl 1 rfl ?_
        obtain ⟨r5, hc6, h⟩ := qB_of h
        refine g_Si (r := r5) (As := [iv r3]) (rest := []) (w := wC g ad o) E (c_X7_letterOf l g (wC g ad o) r3 r5 hc6) okm_X7_letterOf w_602 w_601 rfl rfl (Nat.le_of_ble_eq_true rfl) ⟨Nat.le_of_ble_eq_true rfl, Nat.le_of_ble_eq_true rfl⟩ gdX7_firstFault_31 ?_
        refine g_bipush E gdX7_firstFault_34 (by decide) ?_
        refine g_icmp_ne E 43 gdX7_firstFault_36 (by decide) h (fun h => ?_) (fun h => ?_)
        ·
          refine g_aload_n E gdX7_firstFault_43 rfl 2 rfl ?_
          refine g_iload_n E gdX7_firstFault_44 rfl 3 rfl ?_
          refine g_iload_n E gdX7_firstFault_45 rfl 0 rfl ?_
          obtain ⟨r7, hc8, h⟩ := qB_of h
          refine g_Si (r := r7) (As := [.ref (ad 4), iv x1, iv (x2 + 1)]) (rest := []) (w := wC g ad o) E (c_X7_digitsAt l g ad o x1 (x2 + 1) r7 hc8) okm_X7_digitsAt w_607 w_606 rfl rfl (Nat.le_of_ble_eq_true rfl) ⟨Nat.le_of_ble_eq_true rfl, Nat.le_of_ble_eq_true rfl⟩ gdX7_firstFault_46 ?_
          refine g_istore E [(4, iv r7), (2, iv (x2 + 1)), (3, iv r3), (0, .ref (ad 4)), (1, iv x1)] gdX7_firstFault_49 (by decide) rfl ?_
          refine g_iload E gdX7_firstFault_51 0 rfl ?_
          refine g_if_ne E 58 gdX7_firstFault_53 (by decide) h (fun h => ?_) (fun h => ?_)
          ·
            refine g_iload_n E gdX7_firstFault_58 rfl 1 rfl ?_
            refine g_iload E gdX7_firstFault_59 0 rfl ?_
            refine g_iadd E gdX7_firstFault_61 ?_
            obtain ⟨n9, e_n9, h⟩ := qNm_of h
            refine g_nmi e_n9 ?_
            refine g_istore_n E [(2, iv n9), (4, iv r7), (3, iv r3), (0, .ref (ad 4)), (1, iv x1)] gdX7_firstFault_62 rfl (by decide) rfl ?_
            refine g_goto E 2 gdX7_firstFault_63 (by decide) ?_
            refine g_sub E [3, 4, 0] rfl ?_
            exact k0 n9 (Option.some.inj h).symm
          ·
            refine g_sub E [1] rfl ?_
            exact k2 (x2 + 1) (Option.some.inj h).symm
        ·
          refine g_sub E [0] rfl ?_
          exact k1 (x2 + 1) (Option.some.inj h).symm
      ·
        refine g_goto E 2 gdX7_firstFault_27 (by decide) ?_
        refine g_sub E [2, 3, 0] rfl ?_
        exact k0 (x2 + 1) (Option.some.inj h).symm
  have j2 : ∀ (x1 : Int) (x2 : Int), e_X7_firstFault_2 o x1 x2 = some v → Go X 2 (wC g ad o) [(0, .ref (ad 4)), (1, iv x1), (2, iv x2)] [] := by
    intro x1 x2 h
    unfold e_X7_firstFault_2 at h
    obtain ⟨r, hr, h⟩ := qB_of h
    refine l2 x1 r _ hr ?_ ?_ ?_
    ·
      intro u0 e
      subst e
      have h : b_X7_firstFault_39 o u0 = some v := h
      exact j39 u0 h
    ·
      intro u0 e
      subst e
      have h : b_X7_firstFault_56 o u0 = some v := h
      exact j56 u0 h
    ·
      intro e
      subst e
      have h : b_X7_firstFault_66 o = some v := h
      exact j66  h
  unfold s_X7_firstFault at h
  refine g_iconst E gdX7_firstFault_0 ?_
  refine g_istore_n E [(2, iv 0), (0, .ref (ad 4)), (1, iv x1)] gdX7_firstFault_1 rfl (by decide) rfl ?_
  refine g_sub E [1, 2, 0] rfl ?_
  exact j2 x1 0 h
set_option maxHeartbeats 4000000 in
set_option maxRecDepth 100000 in
theorem c_X11_fault (l : Launch) (g : GG) (ad : Nat → Nat) (o : OO) (x1 : Int) (v : Int × OO) (h : s_X11_fault o x1 = some v) : CI l g yX11_fault cX11_fault 2 (some .int) 3 69 (wC g ad o) [.ref (ad 0), iv x1] v.1 (wC g ad v.2) := by
  refine met_I (by decide) (Nat.le_of_ble_eq_true rfl) ?_
  intro X E hQ
  show Go X 0 (wC g ad o) [(0, .ref (ad 0)), (1, iv x1)] []
  unfold s_X11_fault at h
  refine g_aload_n E gdX11_fault_0 rfl 0 rfl ?_
  refine g_get (T := TX11) E fw_X11 0 (wC_0 g ad o) rfl 1 (by decide) w_459 rfl rfl gdX11_fault_1 ?_
  refine g_iload_n E gdX11_fault_4 rfl 1 rfl ?_
  obtain ⟨r1, hc2, h⟩ := qB_of h
  refine g_Vi (r := r1) (As := [iv x1]) (rest := []) (w := wC g ad o) E (c_X8_exists__4 l g ad o x1 r1 hc2) okm_X8_exists okw_X8_exists w_517 rfl (wC_4 g ad o) rfl rfl (Nat.le_of_ble_eq_true rfl) ⟨Nat.le_of_ble_eq_true rfl, Nat.le_of_ble_eq_true rfl⟩ gdX11_fault_5 ?_
  refine g_if_ne E 13 gdX11_fault_8 (by decide) h (fun h => ?_) (fun h => ?_)
  ·
    refine g_aload_n E gdX11_fault_13 rfl 0 rfl ?_
    refine g_get (T := TX11) E fw_X11 0 (wC_0 g ad o) rfl 1 (by decide) w_459 rfl rfl gdX11_fault_14 ?_
    refine g_iload_n E gdX11_fault_17 rfl 1 rfl ?_
    obtain ⟨r3, hc4, h⟩ := qB_of h
    refine g_Vi (r := r3) (As := [iv x1]) (rest := []) (w := wC g ad o) E (c_X8_isThere__4 l g ad o x1 r3 hc4) okm_X8_isThere okw_X8_isThere w_539 rfl (wC_4 g ad o) rfl rfl (Nat.le_of_ble_eq_true rfl) ⟨Nat.le_of_ble_eq_true rfl, Nat.le_of_ble_eq_true rfl⟩ gdX11_fault_18 ?_
    refine g_if_ne E 30 gdX11_fault_21 (by decide) h (fun h => ?_) (fun h => ?_)
    ·
      refine g_aload_n E gdX11_fault_30 rfl 0 rfl ?_
      refine g_get (T := TX11) E fw_X11 0 (wC_0 g ad o) rfl 1 (by decide) w_459 rfl rfl gdX11_fault_31 ?_
      refine g_iload_n E gdX11_fault_34 rfl 1 rfl ?_
      obtain ⟨r5, hc6, h⟩ := qB_of h
      refine g_Si (r := r5) (As := [.ref (ad 4), iv x1]) (rest := []) (w := wC g ad o) E (c_X7_firstFault l g ad o x1 r5 hc6) okm_X7_firstFault w_591 w_590 rfl rfl (Nat.le_of_ble_eq_true rfl) ⟨Nat.le_of_ble_eq_true rfl, Nat.le_of_ble_eq_true rfl⟩ gdX11_fault_35 ?_
      exact g_iret E hQ (by rw [← Option.some.inj h]) (by rw [← Option.some.inj h]) gdX11_fault_38
    ·
      refine g_aload_n E gdX11_fault_24 rfl 0 rfl ?_
      refine g_iconst E gdX11_fault_25 ?_
      obtain ⟨r7, o9, hc8, h⟩ := qB2_of h
      refine g_Vi (r := r7) (As := [iv 1]) (rest := []) (w := wC g ad o9) E (c_X11_found l g ad o 1 (r7, o9) hc8) okm_X11_found okw_X11_found w_521 rfl (wC_0 g ad o) rfl rfl (Nat.le_of_ble_eq_true rfl) ⟨Nat.le_of_ble_eq_true rfl, Nat.le_of_ble_eq_true rfl⟩ gdX11_fault_26 ?_
      exact g_iret E hQ (by rw [← Option.some.inj h]) (by rw [← Option.some.inj h]) gdX11_fault_29
  ·
    refine g_iconst E gdX11_fault_11 ?_
    exact g_iret E hQ (by rw [← Option.some.inj h]) (by rw [← Option.some.inj h]) gdX11_fault_12
set_option maxHeartbeats 4000000 in
set_option maxRecDepth 100000 in
theorem c_X11_finding (l : Launch) (g : GG) (ad : Nat → Nat) (o : OO) (v : Int) (h : s_X11_finding o = some v) : CI l g yX11_finding cX11_finding 1 (some .int) 0 0 (wC g ad o) [.ref (ad 0)] v (wC g ad o) := by
  refine met_I (by decide) (Nat.le_of_ble_eq_true rfl) ?_
  intro X E hQ
  show Go X 0 (wC g ad o) [(0, .ref (ad 0))] []
  unfold s_X11_finding at h
  refine g_aload_n E gdX11_finding_0 rfl 0 rfl ?_
  refine g_get (T := TX11) E fw_X11 0 (wC_0 g ad o) rfl 17 (by decide) w_475 rfl rfl gdX11_finding_1 ?_
  exact g_iret E hQ (Option.some.inj h) rfl gdX11_finding_4
set_option maxHeartbeats 4000000 in
set_option maxRecDepth 100000 in
theorem c_X11_findings (l : Launch) (g : GG) (ad : Nat → Nat) (o : OO) (x1 : Int) (v : Int) (h : s_X11_findings o x1 = some v) : CI l g yX11_findings cX11_findings 2 (some .int) 0 0 (wC g ad o) [.ref (ad 0), iv x1] v (wC g ad o) := by
  refine met_I (by decide) (Nat.le_of_ble_eq_true rfl) ?_
  intro X E hQ
  show Go X 0 (wC g ad o) [(0, .ref (ad 0)), (1, iv x1)] []
  have j10 : b_X11_findings_10 o = some v → Go X 10 (wC g ad o) [] [] := by
    intro h
    unfold b_X11_findings_10 at h
    refine g_iconst E gdX11_findings_10 ?_
    exact g_iret E hQ (Option.some.inj h) rfl gdX11_findings_11
  unfold s_X11_findings at h
  refine g_iload_n E gdX11_findings_0 rfl 1 rfl ?_
  refine g_iconst E gdX11_findings_1 ?_
  refine g_icmp_lt E 10 gdX11_findings_2 (by decide) h (fun h => ?_) (fun h => ?_)
  ·
    refine g_sub E [] rfl ?_
    exact j10  h
  ·
    refine g_iload_n E gdX11_findings_5 rfl 1 rfl ?_
    refine g_iconst E gdX11_findings_6 ?_
    refine g_icmp_le E 12 gdX11_findings_7 (by decide) h (fun h => ?_) (fun h => ?_)
    ·
      refine g_aload_n E gdX11_findings_12 rfl 0 rfl ?_
      refine g_get (T := TX11) E fw_X11 0 (wC_0 g ad o) rfl 12 (by decide) w_470 rfl rfl gdX11_findings_13 ?_
      refine g_iload_n E gdX11_findings_16 rfl 1 rfl ?_
      obtain ⟨hi1, h⟩ := qIn_of h
      refine g_iald E 77 (wC_77 g ad o) (by decide) hi1 gdX11_findings_17 ?_
      obtain ⟨n2, e_n2, h⟩ := qNm_of h
      refine g_nmi e_n2 ?_
      exact g_iret E hQ (Option.some.inj h) rfl gdX11_findings_18
    ·
      refine g_sub E [] rfl ?_
      exact j10  h
set_option maxHeartbeats 4000000 in
set_option maxRecDepth 100000 in
theorem c_X7_isLetter (l : Launch) (g : GG) (ws : va_W) (x0 : Int) (v : Int) (h : s_X7_isLetter x0 = some v) : CI l g yX7_isLetter cX7_isLetter 1 (some .boolean) 0 0 ws [iv x0] v ws := by
  refine met_I (by decide) (Nat.le_of_ble_eq_true rfl) ?_
  intro X E hQ
  show Go X 0 ws [(0, iv x0)] []
  have j15 : ∀ (y0 : Int), b_X7_isLetter_15 y0 = some v → Go X 15 ws [] [iv y0] := by
    intro y0 h
    unfold b_X7_isLetter_15 at h
    obtain ⟨hz, h⟩ := qZ_of h
    exact g_zret E hQ hz (Option.some.inj h) rfl gdX7_isLetter_15
  have j14 : b_X7_isLetter_14  = some v → Go X 14 ws [] [] := by
    intro h
    unfold b_X7_isLetter_14 at h
    refine g_iconst E gdX7_isLetter_14 ?_
    exact j15 0 h
  unfold s_X7_isLetter at h
  refine g_iload_n E gdX7_isLetter_0 rfl 0 rfl ?_
  refine g_if_lt E 14 gdX7_isLetter_1 (by decide) h (fun h => ?_) (fun h => ?_)
  ·
    refine g_sub E [] rfl ?_
    exact j14  h
  ·
    refine g_iload_n E gdX7_isLetter_4 rfl 0 rfl ?_
    refine g_bipush E gdX7_isLetter_5 (by decide) ?_
    refine g_icmp_ge E 14 gdX7_isLetter_7 (by decide) h (fun h => ?_) (fun h => ?_)
    ·
      refine g_sub E [] rfl ?_
      exact j14  h
    ·
      refine g_iconst E gdX7_isLetter_10 ?_
      refine g_goto E 15 gdX7_isLetter_11 (by decide) ?_
      refine g_sub E [] rfl ?_
      exact j15 1 h
set_option maxHeartbeats 4000000 in
set_option maxRecDepth 100000 in
theorem c_X11_isDay (l : Launch) (g : GG) (ws : va_W) (x0 : Int) (v : Int) (h : s_X11_isDay x0 = some v) : CI l g yX11_isDay cX11_isDay 1 (some .boolean) 0 0 ws [iv x0] v ws := by
  refine met_I (by decide) (Nat.le_of_ble_eq_true rfl) ?_
  intro X E hQ
  show Go X 0 ws [(0, iv x0)] []
  have j16 : ∀ (y0 : Int), b_X11_isDay_16 y0 = some v → Go X 16 ws [] [iv y0] := by
    intro y0 h
    unfold b_X11_isDay_16 at h
    obtain ⟨hz, h⟩ := qZ_of h
    exact g_zret E hQ hz (Option.some.inj h) rfl gdX11_isDay_16
  have j15 : b_X11_isDay_15  = some v → Go X 15 ws [] [] := by
    intro h
    unfold b_X11_isDay_15 at h
    refine g_iconst E gdX11_isDay_15 ?_
    exact j16 0 h
  unfold s_X11_isDay at h
  refine g_iload_n E gdX11_isDay_0 rfl 0 rfl ?_
  refine g_if_lt E 15 gdX11_isDay_1 (by decide) h (fun h => ?_) (fun h => ?_)
  ·
    refine g_sub E [] rfl ?_
    exact j15  h
  ·
    refine g_iload_n E gdX11_isDay_4 rfl 0 rfl ?_
    refine g_sipush E gdX11_isDay_5 (by decide) ?_
    refine g_icmp_gt E 15 gdX11_isDay_8 (by decide) h (fun h => ?_) (fun h => ?_)
    ·
      refine g_sub E [] rfl ?_
      exact j15  h
    ·
      refine g_iconst E gdX11_isDay_11 ?_
      refine g_goto E 16 gdX11_isDay_12 (by decide) ?_
      refine g_sub E [] rfl ?_
      exact j16 1 h
set_option maxHeartbeats 4000000 in
set_option maxRecDepth 100000 in
theorem c_X11_force (l : Launch) (g : GG) (ad : Nat → Nat) (o : OO) (x1 : Int) (x2 : Int) (x3 : Int) (v : Int) (h : s_X11_force o x1 x2 x3 = some v) : CI l g yX11_force cX11_force 4 (some .int) 2 49 (wC g ad o) [.ref (ad 0), iv x1, iv x2, iv x3] v (wC g ad o) := by
  refine met_I (by decide) (Nat.le_of_ble_eq_true rfl) ?_
  intro X E hQ
  show Go X 0 (wC g ad o) [(0, .ref (ad 0)), (1, iv x1), (2, iv x2), (3, iv x3)] []
  have j21 : b_X11_force_21 o = some v → Go X 21 (wC g ad o) [] [] := by
    intro h
    unfold b_X11_force_21 at h
    refine g_iconst E gdX11_force_21 ?_
    exact g_iret E hQ (Option.some.inj h) rfl gdX11_force_22
  unfold s_X11_force at h
  refine g_iload_n E gdX11_force_0 rfl 1 rfl ?_
  obtain ⟨r1, hc2, h⟩ := qB_of h
  refine g_Si (r := r1) (As := [iv x1]) (rest := []) (w := wC g ad o) E (c_X7_isLetter l g (wC g ad o) x1 r1 hc2) okm_X7_isLetter w_769 w_768 rfl rfl (Nat.le_of_ble_eq_true rfl) ⟨Nat.le_of_ble_eq_true rfl, Nat.le_of_ble_eq_true rfl⟩ gdX11_force_1 ?_
  refine g_if_eq E 21 gdX11_force_4 (by decide) h (fun h => ?_) (fun h => ?_)
  ·
    refine g_sub E [] rfl ?_
    exact j21  h
  ·
    refine g_iload_n E gdX11_force_7 rfl 2 rfl ?_
    obtain ⟨r3, hc4, h⟩ := qB_of h
    refine g_Si (r := r3) (As := [iv x2]) (rest := []) (w := wC g ad o) E (c_X11_isDay l g (wC g ad o) x2 r3 hc4) okm_X11_isDay w_685 w_684 rfl rfl (Nat.le_of_ble_eq_true rfl) ⟨Nat.le_of_ble_eq_true rfl, Nat.le_of_ble_eq_true rfl⟩ gdX11_force_8 ?_
    refine g_if_eq E 21 gdX11_force_11 (by decide) h (fun h => ?_) (fun h => ?_)
    ·
      refine g_sub E [] rfl ?_
      exact j21  h
    ·
      refine g_iload_n E gdX11_force_14 rfl 3 rfl ?_
      obtain ⟨r5, hc6, h⟩ := qB_of h
      refine g_Si (r := r5) (As := [iv x3]) (rest := []) (w := wC g ad o) E (c_X11_isDay l g (wC g ad o) x3 r5 hc6) okm_X11_isDay w_685 w_684 rfl rfl (Nat.le_of_ble_eq_true rfl) ⟨Nat.le_of_ble_eq_true rfl, Nat.le_of_ble_eq_true rfl⟩ gdX11_force_15 ?_
      refine g_if_ne E 23 gdX11_force_18 (by decide) h (fun h => ?_) (fun h => ?_)
      ·
        refine g_aload_n E gdX11_force_23 rfl 0 rfl ?_
        refine g_get (T := TX11) E fw_X11 0 (wC_0 g ad o) rfl 5 (by decide) w_463 rfl rfl gdX11_force_24 ?_
        refine g_iload_n E gdX11_force_27 rfl 1 rfl ?_
        refine g_iload_n E gdX11_force_28 rfl 2 rfl ?_
        refine g_iload_n E gdX11_force_29 rfl 3 rfl ?_
        obtain ⟨r7, hc8, h⟩ := qB_of h
        refine g_Vi (r := r7) (As := [iv x1, iv x2, iv x3]) (rest := []) (w := wC g ad o) E (c_X7_valueFor l g ad o x1 x2 x3 r7 hc8) okm_X7_valueFor okw_X7_valueFor w_771 rfl (wC_28 g ad o) rfl rfl (Nat.le_of_ble_eq_true rfl) ⟨Nat.le_of_ble_eq_true rfl, Nat.le_of_ble_eq_true rfl⟩ gdX11_force_30 ?_
        exact g_iret E hQ (Option.some.inj h) rfl gdX11_force_33
      ·
        refine g_sub E [] rfl ?_
        exact j21  h
set_option maxHeartbeats 4000000 in
set_option maxRecDepth 100000 in
theorem c_X4_add (l : Launch) (g : GG) (ad : Nat → Nat) (o : OO) (x1 : Int) (x2 : Int) (x3 : Int) (v : Int × OO) (h : s_X4_add o x1 x2 x3 = some v) : CI l g yX4_add cX4_add 5 (some .int) 0 0 (wC g ad o) [.ref (ad 32), iv x1, iv x2, iv x3] v.1 (wC g ad v.2) := by
  refine met_I (by decide) (Nat.le_of_ble_eq_true rfl) ?_
  intro X E hQ
  show Go X 0 (wC g ad o) [(0, .ref (ad 32)), (1, iv x1), (2, iv x2), (3, iv x3)] []
  unfold s_X4_add at h
  refine g_aload_n E gdX4_add_0 rfl 0 rfl ?_
  refine g_get (T := TX4) E fw_X4 32 (wC_32 g ad o) rfl 13 (by decide) w_264 rfl rfl gdX4_add_1 ?_
  refine g_istore E [(4, iv (o.1 32 13)), (0, .ref (ad 32)), (1, iv x1), (2, iv x2), (3, iv x3)] gdX4_add_4 (by decide) rfl ?_
  refine g_aload_n E gdX4_add_6 rfl 1 rfl ?_
  refine g_dup E gdX4_add_7 rfl ?_
  refine g_get (T := TX4) E fw_X4 32 (wC_32 g ad o) rfl 13 (by decide) w_264 rfl rfl gdX4_add_8 ?_
  refine g_iconst E gdX4_add_11 ?_
  refine g_iadd E gdX4_add_12 ?_
  obtain ⟨o1, e_o1, h⟩ := qNm_of h
  refine g_puti (T := TX4) (ws' := wC g ad o1) E fw_X4 tyX4 tyX4_ok nmX4 32 (wC_32 g ad o) rfl 13 (by decide) w_264 rfl rfl (by decide +kernel) (Nat.le_of_ble_eq_true rfl) (by rw [e_o1]; exact wC_p32_13 g ad o _) gdX4_add_13 ?_
  refine g_aload_n E gdX4_add_16 rfl 1 rfl ?_
  refine g_get (T := TX4) E fw_X4 32 (wC_32 g ad o1) rfl 0 (by decide) w_251 rfl rfl gdX4_add_17 ?_
  refine g_iload E gdX4_add_20 0 rfl ?_
  refine g_iload_n E gdX4_add_22 rfl 2 rfl ?_
  obtain ⟨hi2, h⟩ := qIn_of h
  obtain ⟨o3, e_o3, h⟩ := qNm_of h
  refine g_iast (ws' := wC g ad o3) E 33 (wC_33 g ad o1) (by decide) hi2 (by rw [e_o3]; exact wC_s33 g ad o1 _ _) gdX4_add_23 ?_
  refine g_aload_n E gdX4_add_24 rfl 1 rfl ?_
  refine g_get (T := TX4) E fw_X4 32 (wC_32 g ad o3) rfl 1 (by decide) w_252 rfl rfl gdX4_add_25 ?_
  refine g_iload E gdX4_add_28 0 rfl ?_
  refine g_iload_n E gdX4_add_30 rfl 3 rfl ?_
  obtain ⟨hi4, h⟩ := qIn_of h
  obtain ⟨o5, e_o5, h⟩ := qNm_of h
  refine g_iast (ws' := wC g ad o5) E 34 (wC_34 g ad o3) (by decide) hi4 (by rw [e_o5]; exact wC_s34 g ad o3 _ _) gdX4_add_31 ?_
  refine g_aload_n E gdX4_add_32 rfl 1 rfl ?_
  refine g_get (T := TX4) E fw_X4 32 (wC_32 g ad o5) rfl 2 (by decide) w_253 rfl rfl gdX4_add_33 ?_
  refine g_iload E gdX4_add_36 0 rfl ?_
  refine g_iload_n E gdX4_add_38 rfl 4 rfl ?_
  obtain ⟨hi6, h⟩ := qIn_of h
  obtain ⟨o7, e_o7, h⟩ := qNm_of h
  refine g_iast (ws' := wC g ad o7) E 35 (wC_35 g ad o5) (by decide) hi6 (by rw [e_o7]; exact wC_s35 g ad o5 _ _) gdX4_add_39 ?_
  refine g_aload_n E gdX4_add_40 rfl 1 rfl ?_
  refine g_get (T := TX4) E fw_X4 32 (wC_32 g ad o7) rfl 7 (by decide) w_258 rfl rfl gdX4_add_41 ?_
  refine g_iload E gdX4_add_44 0 rfl ?_
  refine g_bipush E gdX4_add_46 (by decide) ?_
  obtain ⟨hi8, h⟩ := qIn_of h
  obtain ⟨o9, e_o9, h⟩ := qNm_of h
  refine g_iast (ws' := wC g ad o9) E 40 (wC_40 g ad o7) (by decide) hi8 (by rw [e_o9]; exact wC_s40 g ad o7 _ _) gdX4_add_48 ?_
  refine g_iload E gdX4_add_49 0 rfl ?_
  exact g_iret E hQ (by rw [← Option.some.inj h]) (by rw [← Option.some.inj h]) gdX4_add_51
set_option maxHeartbeats 4000000 in
set_option maxRecDepth 100000 in
theorem c_X4_setGrant (l : Launch) (g : GG) (ad : Nat → Nat) (o : OO) (x1 : Int) (x2 : Int) (x3 : Int) (v : OO) (h : s_X4_setGrant o x1 x2 x3 = some v) : CV l g yX4_setGrant cX4_setGrant 4 0 0 (wC g ad o) [.ref (ad 32), iv x1, iv x2, iv x3] (wC g ad v) := by
  refine met_V (by decide) (Nat.le_of_ble_eq_true rfl) ?_
  intro X E hQ
  show Go X 0 (wC g ad o) [(0, .ref (ad 32)), (1, iv x1), (2, iv x2), (3, iv x3)] []
  unfold s_X4_setGrant at h
  refine g_aload_n E gdX4_setGrant_0 rfl 0 rfl ?_
  refine g_get (T := TX4) E fw_X4 32 (wC_32 g ad o) rfl 8 (by decide) w_259 rfl rfl gdX4_setGrant_1 ?_
  refine g_iload_n E gdX4_setGrant_4 rfl 1 rfl ?_
  refine g_iload_n E gdX4_setGrant_5 rfl 2 rfl ?_
  obtain ⟨hi1, h⟩ := qIn_of h
  obtain ⟨o2, e_o2, h⟩ := qNm_of h
  refine g_iast (ws' := wC g ad o2) E 41 (wC_41 g ad o) (by decide) hi1 (by rw [e_o2]; exact wC_s41 g ad o _ _) gdX4_setGrant_6 ?_
  refine g_aload_n E gdX4_setGrant_7 rfl 0 rfl ?_
  refine g_get (T := TX4) E fw_X4 32 (wC_32 g ad o2) rfl 10 (by decide) w_261 rfl rfl gdX4_setGrant_8 ?_
  refine g_iload_n E gdX4_setGrant_11 rfl 1 rfl ?_
  refine g_iload_n E gdX4_setGrant_12 rfl 3 rfl ?_
  obtain ⟨hi3, h⟩ := qIn_of h
  obtain ⟨o4, e_o4, h⟩ := qNm_of h
  refine g_iast (ws' := wC g ad o4) E 43 (wC_43 g ad o2) (by decide) hi3 (by rw [e_o4]; exact wC_s43 g ad o2 _ _) gdX4_setGrant_13 ?_
  exact g_vret E hQ (by rw [← Option.some.inj h]) gdX4_setGrant_14
set_option maxHeartbeats 4000000 in
set_option maxRecDepth 100000 in
theorem c_X11_grant (l : Launch) (g : GG) (ad : Nat → Nat) (o : OO) (x1 : Int) (x2 : Int) (v : Int × OO) (h : s_X11_grant o x1 x2 = some v) : CI l g yX11_grant cX11_grant 4 (some .int) 1 24 (wC g ad o) [.ref (ad 0), iv x1, iv x2] v.1 (wC g ad v.2) := by
  refine met_I (by decide) (Nat.le_of_ble_eq_true rfl) ?_
  intro X E hQ
  show Go X 0 (wC g ad o) [(0, .ref (ad 0)), (1, iv x1), (2, iv x2)] []
  have j18 : ∀ (o : OO), b_X11_grant_18 o = some v → Go X 18 (wC g ad o) [] [] := by
    intro o h
    unfold b_X11_grant_18 at h
    refine g_iconst E gdX11_grant_18 ?_
    exact g_iret E hQ (by rw [← Option.some.inj h]) (by rw [← Option.some.inj h]) gdX11_grant_19
  unfold s_X11_grant at h
  refine g_iload_n E gdX11_grant_0 rfl 1 rfl ?_
  refine g_iconst E gdX11_grant_1 ?_
  refine g_icmp_lt E 18 gdX11_grant_2 (by decide) h (fun h => ?_) (fun h => ?_)
  ·
    refine g_sub E [] rfl ?_
    exact j18 o h
  ·
    refine g_iload_n E gdX11_grant_5 rfl 1 rfl ?_
    refine g_bipush E gdX11_grant_6 (by decide) ?_
    refine g_icmp_gt E 18 gdX11_grant_8 (by decide) h (fun h => ?_) (fun h => ?_)
    ·
      refine g_sub E [] rfl ?_
      exact j18 o h
    ·
      refine g_iload_n E gdX11_grant_11 rfl 2 rfl ?_
      obtain ⟨r1, hc2, h⟩ := qB_of h
      refine g_Si (r := r1) (As := [iv x2]) (rest := []) (w := wC g ad o) E (c_X11_isDay l g (wC g ad o) x2 r1 hc2) okm_X11_isDay w_685 w_684 rfl rfl (Nat.le_of_ble_eq_true rfl) ⟨Nat.le_of_ble_eq_true rfl, Nat.le_of_ble_eq_true rfl⟩ gdX11_grant_12 ?_
      refine g_if_ne E 20 gdX11_grant_15 (by decide) h (fun h => ?_) (fun h => ?_)
      ·
        refine g_aload_n E gdX11_grant_20 rfl 0 rfl ?_
        refine g_get (T := TX11) E fw_X11 0 (wC_0 g ad o) rfl 6 (by decide) w_464 rfl rfl gdX11_grant_21 ?_
        obtain ⟨r3, hc4, h⟩ := qB_of h
        refine g_Vi (r := r3) (As := []) (rest := []) (w := wC g ad o) E (c_X4_number l g ad o r3 hc4) okm_X4_number okw_X4_number w_790 rfl (wC_32 g ad o) rfl rfl (Nat.le_of_ble_eq_true rfl) ⟨Nat.le_of_ble_eq_true rfl, Nat.le_of_ble_eq_true rfl⟩ gdX11_grant_24 ?_
        refine g_bipush E gdX11_grant_27 (by decide) ?_
        refine g_icmp_lt E 35 gdX11_grant_29 (by decide) h (fun h => ?_) (fun h => ?_)
        ·
          refine g_aload_n E gdX11_grant_35 rfl 0 rfl ?_
          refine g_get (T := TX11) E fw_X11 0 (wC_0 g ad o) rfl 6 (by decide) w_464 rfl rfl gdX11_grant_36 ?_
          refine g_iconst E gdX11_grant_39 ?_
          refine g_aload_n E gdX11_grant_40 rfl 0 rfl ?_
          refine g_get (T := TX11) E fw_X11 0 (wC_0 g ad o) rfl 13 (by decide) w_471 rfl rfl gdX11_grant_41 ?_
          refine g_bipush E gdX11_grant_44 (by decide) ?_
          obtain ⟨r5, o7, hc6, h⟩ := qB2_of h
          refine g_Vi (r := r5) (As := [iv 5, iv (o.1 0 13), iv (-9)]) (rest := []) (w := wC g ad o7) E (c_X4_add l g ad o 5 (o.1 0 13) (-9) (r5, o7) hc6) okm_X4_add okw_X4_add w_869 rfl (wC_32 g ad o) rfl rfl (Nat.le_of_ble_eq_true rfl) ⟨Nat.le_of_ble_eq_true rfl, Nat.le_of_ble_eq_true rfl⟩ gdX11_grant_46 ?_
          refine g_istore_n E [(3, iv r5), (0, .ref (ad 0)), (1, iv x1), (2, iv x2)] gdX11_grant_49 rfl (by decide) rfl ?_
          refine g_aload_n E gdX11_grant_50 rfl 1 rfl ?_
          refine g_get (T := TX11) E fw_X11 0 (wC_0 g ad o7) rfl 6 (by decide) w_464 rfl rfl gdX11_grant_51 ?_
          refine g_iload_n E gdX11_grant_54 rfl 0 rfl ?_
          refine g_iload_n E gdX11_grant_55 rfl 2 rfl ?_
          refine g_iload_n E gdX11_grant_56 rfl 3 rfl ?_
          obtain ⟨o10, hc9, h⟩ := qB_of h
          refine g_Vv (As := [iv r5, iv x1, iv x2]) (rest := []) (w := wC g ad o10) E (c_X4_setGrant l g ad o7 r5 x1 x2 o10 hc9) okm_X4_setGrant okw_X4_setGrant w_999 rfl (wC_32 g ad o7) rfl rfl (Nat.le_of_ble_eq_true rfl) ⟨Nat.le_of_ble_eq_true rfl, Nat.le_of_ble_eq_true rfl⟩ gdX11_grant_57 ?_
          refine g_iload_n E gdX11_grant_60 rfl 0 rfl ?_
          exact g_iret E hQ (by rw [← Option.some.inj h]) (by rw [← Option.some.inj h]) gdX11_grant_61
        ·
          refine g_bipush E gdX11_grant_32 (by decide) ?_
          exact g_iret E hQ (by rw [← Option.some.inj h]) (by rw [← Option.some.inj h]) gdX11_grant_34
      ·
        refine g_sub E [] rfl ?_
        exact j18 o h
set_option maxHeartbeats 4000000 in
set_option maxRecDepth 100000 in
theorem c_X4_dateOf (l : Launch) (g : GG) (ad : Nat → Nat) (o : OO) (x1 : Int) (v : Int) (h : s_X4_dateOf o x1 = some v) : CI l g yX4_dateOf cX4_dateOf 2 (some .int) 0 0 (wC g ad o) [.ref (ad 32), iv x1] v (wC g ad o) := by
  refine met_I (by decide) (Nat.le_of_ble_eq_true rfl) ?_
  intro X E hQ
  show Go X 0 (wC g ad o) [(0, .ref (ad 32)), (1, iv x1)] []
  unfold s_X4_dateOf at h
  refine g_aload_n E gdX4_dateOf_0 rfl 0 rfl ?_
  refine g_get (T := TX4) E fw_X4 32 (wC_32 g ad o) rfl 10 (by decide) w_261 rfl rfl gdX4_dateOf_1 ?_
  refine g_iload_n E gdX4_dateOf_4 rfl 1 rfl ?_
  obtain ⟨hi1, h⟩ := qIn_of h
  refine g_iald E 43 (wC_43 g ad o) (by decide) hi1 gdX4_dateOf_5 ?_
  obtain ⟨n2, e_n2, h⟩ := qNm_of h
  refine g_nmi e_n2 ?_
  exact g_iret E hQ (Option.some.inj h) rfl gdX4_dateOf_6
set_option maxHeartbeats 4000000 in
set_option maxRecDepth 100000 in
theorem c_X4_amountOf (l : Launch) (g : GG) (ad : Nat → Nat) (o : OO) (x1 : Int) (v : Int) (h : s_X4_amountOf o x1 = some v) : CI l g yX4_amountOf cX4_amountOf 2 (some .int) 0 0 (wC g ad o) [.ref (ad 32), iv x1] v (wC g ad o) := by
  refine met_I (by decide) (Nat.le_of_ble_eq_true rfl) ?_
  intro X E hQ
  show Go X 0 (wC g ad o) [(0, .ref (ad 32)), (1, iv x1)] []
  unfold s_X4_amountOf at h
  refine g_aload_n E gdX4_amountOf_0 rfl 0 rfl ?_
  refine g_get (T := TX4) E fw_X4 32 (wC_32 g ad o) rfl 8 (by decide) w_259 rfl rfl gdX4_amountOf_1 ?_
  refine g_iload_n E gdX4_amountOf_4 rfl 1 rfl ?_
  obtain ⟨hi1, h⟩ := qIn_of h
  refine g_iald E 41 (wC_41 g ad o) (by decide) hi1 gdX4_amountOf_5 ?_
  obtain ⟨n2, e_n2, h⟩ := qNm_of h
  refine g_nmi e_n2 ?_
  exact g_iret E hQ (Option.some.inj h) rfl gdX4_amountOf_6
set_option maxHeartbeats 4000000 in
set_option maxRecDepth 100000 in
theorem c_X11_grants (l : Launch) (g : GG) (ad : Nat → Nat) (o : OO) (x1 : Int) (x2 : Int) (v : Int × OO) (h : s_X11_grants o x1 x2 = some v) : CI l g yX11_grants cX11_grants 5 (some .int) 1 23 (wC g ad o) [.ref (ad 0), iv x1, iv x2] v.1 (wC g ad v.2) := by
  refine met_I (by decide) (Nat.le_of_ble_eq_true rfl) ?_
  intro X E hQ
  show Go X 0 (wC g ad o) [(0, .ref (ad 0)), (1, iv x1), (2, iv x2)] []
  have j22 : ∀ (o : OO), b_X11_grants_22 o = some v → Go X 22 (wC g ad o) [] [] := by
    intro o h
    unfold b_X11_grants_22 at h
    refine g_iconst E gdX11_grants_22 ?_
    exact g_iret E hQ (by rw [← Option.some.inj h]) (by rw [← Option.some.inj h]) gdX11_grants_23
  have j48 : ∀ (o : OO), b_X11_grants_48 o = some v → Go X 48 (wC g ad o) [(0, .ref (ad 0))] [] := by
    intro o h
    unfold b_X11_grants_48 at h
    refine g_aload_n E gdX11_grants_48 rfl 0 rfl ?_
    refine g_iconst E gdX11_grants_49 ?_
    obtain ⟨r1, o3, hc2, h⟩ := qB2_of h
    refine g_Vi (r := r1) (As := [iv 3]) (rest := []) (w := wC g ad o3) E (c_X11_found l g ad o 3 (r1, o3) hc2) okm_X11_found okw_X11_found w_521 rfl (wC_0 g ad o) rfl rfl (Nat.le_of_ble_eq_true rfl) ⟨Nat.le_of_ble_eq_true rfl, Nat.le_of_ble_eq_true rfl⟩ gdX11_grants_50 ?_
    exact g_iret E hQ (by rw [← Option.some.inj h]) (by rw [← Option.some.inj h]) gdX11_grants_53
  have j144 : ∀ (o : OO) (y0 : Int), b_X11_grants_144 o y0 = some v → Go X 144 (wC g ad o) [] [iv y0] := by
    intro o y0 h
    unfold b_X11_grants_144 at h
    exact g_iret E hQ (by rw [← Option.some.inj h]) (by rw [← Option.some.inj h]) gdX11_grants_144
  have j131 : ∀ (o : OO) (x4 : Int) (y1 : Int64), b_X11_grants_131 o x4 y1 = some v → Go X 131 (wC g ad o) [(4, iv x4)] [.long y1, .ref (ad 0)] := by
    intro o x4 y1 h
    unfold b_X11_grants_131 at h
    obtain ⟨o4, e_o4, h⟩ := qNm_of h
    refine g_putl (T := TX11) (ws' := wC g ad o4) E fw_X11 tyX11 tyX11_ok nmX11 0 (wC_0 g ad o) rfl 15 (by decide) w_473 rfl rfl (by decide +kernel) (Nat.le_of_ble_eq_true rfl) (by rw [e_o4]; exact wC_p0_15 g ad o _) gdX11_grants_131 ?_
    refine g_iload E gdX11_grants_134 0 rfl ?_
    refine g_if_lt E 143 gdX11_grants_136 (by decide) h (fun h => ?_) (fun h => ?_)
    ·
      refine g_iconst E gdX11_grants_143 ?_
      refine g_sub E [] rfl ?_
      exact j144 o4 0 h
    ·
      refine g_iconst E gdX11_grants_139 ?_
      refine g_goto E 144 gdX11_grants_140 (by decide) ?_
      refine g_sub E [] rfl ?_
      exact j144 o4 1 h
  have j78 : ∀ (o : OO) (x1 : Int) (x2 : Int) (y0 : Int), b_X11_grants_78 o x1 x2 y0 = some v → Go X 78 (wC g ad o) [(0, .ref (ad 0)), (1, iv x1), (2, iv x2)] [iv y0] := by
    intro o x1 x2 y0 h
    unfold b_X11_grants_78 at h
    refine g_istore_n E [(3, iv y0), (0, .ref (ad 0)), (1, iv x1), (2, iv x2)] gdX11_grants_78 rfl (by decide) rfl ?_
    refine g_aload_n E gdX11_grants_79 rfl 1 rfl ?_
    refine g_get (T := TX11) E fw_X11 0 (wC_0 g ad o) rfl 6 (by decide) w_464 rfl rfl gdX11_grants_80 ?_
    refine g_iload_n E gdX11_grants_83 rfl 2 rfl ?_
    obtain ⟨r5, hc6, h⟩ := qB_of h
    refine g_Vi (r := r5) (As := [iv x1]) (rest := []) (w := wC g ad o) E (c_X4_dateOf l g ad o x1 r5 hc6) okm_X4_dateOf okw_X4_dateOf w_1238 rfl (wC_32 g ad o) rfl rfl (Nat.le_of_ble_eq_true rfl) ⟨Nat.le_of_ble_eq_true rfl, Nat.le_of_ble_eq_true rfl⟩ gdX11_grants_84 ?_
    refine g_iload_n E gdX11_grants_87 rfl 0 rfl ?_
    refine g_isub E gdX11_grants_88 ?_
    obtain ⟨n7, e_n7, h⟩ := qNm_of h
    refine g_nmi e_n7 ?_
    refine g_istore E [(4, iv n7), (3, iv y0), (0, .ref (ad 0)), (1, iv x1), (2, iv x2)] gdX11_grants_89 (by decide) rfl ?_
    refine g_aload_n E gdX11_grants_91 rfl 2 rfl ?_
    refine g_iload E gdX11_grants_92 0 rfl ?_
    obtain ⟨r8, o10, hc9, h⟩ := qB2_of h
    refine g_Vi (r := r8) (As := [iv n7]) (rest := []) (w := wC g ad o10) E (c_X11_tell l g ad o n7 (r8, o10) hc9) okm_X11_tell okw_X11_tell w_551 rfl (wC_0 g ad o) rfl rfl (Nat.le_of_ble_eq_true rfl) ⟨Nat.le_of_ble_eq_true rfl, Nat.le_of_ble_eq_true rfl⟩ gdX11_grants_94 ?_
    refine g_pop E gdX11_grants_97 rfl ?_
    refine g_aload_n E gdX11_grants_98 rfl 2 rfl ?_
    refine g_iload E gdX11_grants_99 0 rfl ?_
    refine g_if_lt E 130 gdX11_grants_101 (by decide) h (fun h => ?_) (fun h => ?_)
    ·
      refine g_lconst (v := 0) E gdX11_grants_130 (by decide) ?_
      refine g_sub E [0] rfl ?_
      exact j131 o10 n7 (0 : Int64) h
    ·
      refine g_aload_n E gdX11_grants_104 rfl 2 rfl ?_
      refine g_get (T := TX11) E fw_X11 0 (wC_0 g ad o10) rfl 6 (by decide) w_464 rfl rfl gdX11_grants_105 ?_
      refine g_iload_n E gdX11_grants_108 rfl 4 rfl ?_
      obtain ⟨r11, hc12, h⟩ := qB_of h
      refine g_Vi (r := r11) (As := [iv x2]) (rest := [.ref (ad 0)]) (w := wC g ad o10) E (c_X4_costOf l g ad o10 x2 r11 hc12) okm_X4_costOf okw_X4_costOf w_1054 rfl (wC_32 g ad o10) rfl rfl (Nat.le_of_ble_eq_true rfl) ⟨Nat.le_of_ble_eq_true rfl, Nat.le_of_ble_eq_true rfl⟩ gdX11_grants_109 ?_
      refine g_i2l E gdX11_grants_112 ?_
      refine g_aload_n E gdX11_grants_113 rfl 2 rfl ?_
      refine g_get (T := TX11) E fw_X11 0 (wC_0 g ad o10) rfl 6 (by decide) w_464 rfl rfl gdX11_grants_114 ?_
      refine g_iload_n E gdX11_grants_117 rfl 3 rfl ?_
      obtain ⟨r13, hc14, h⟩ := qB_of h
      refine g_Vi (r := r13) (As := [iv x1]) (rest := [.long (jl r11), .ref (ad 0)]) (w := wC g ad o10) E (c_X4_amountOf l g ad o10 x1 r13 hc14) okm_X4_amountOf okw_X4_amountOf w_1046 rfl (wC_32 g ad o10) rfl rfl (Nat.le_of_ble_eq_true rfl) ⟨Nat.le_of_ble_eq_true rfl, Nat.le_of_ble_eq_true rfl⟩ gdX11_grants_118 ?_
      refine g_i2l E gdX11_grants_121 ?_
      refine g_lmul E gdX11_grants_122 ?_
      refine g_ldc2 E gdX11_grants_123 w_1318 ?_
      refine g_ldiv E (by decide) gdX11_grants_126 ?_
      refine g_goto E 131 gdX11_grants_127 (by decide) ?_
      refine g_sub E [0] rfl ?_
      exact j131 o10 n7 (((jl r11) * (jl r13)) / (10 : Int64)) h
  unfold s_X11_grants at h
  refine g_aload_n E gdX11_grants_0 rfl 0 rfl ?_
  refine g_get (T := TX11) E fw_X11 0 (wC_0 g ad o) rfl 6 (by decide) w_464 rfl rfl gdX11_grants_1 ?_
  refine g_iload_n E gdX11_grants_4 rfl 1 rfl ?_
  obtain ⟨r15, hc16, h⟩ := qB_of h
  refine g_Vi (r := r15) (As := [iv x1]) (rest := []) (w := wC g ad o) E (c_X4_exists l g ad o x1 r15 hc16) okm_X4_exists okw_X4_exists w_882 rfl (wC_32 g ad o) rfl rfl (Nat.le_of_ble_eq_true rfl) ⟨Nat.le_of_ble_eq_true rfl, Nat.le_of_ble_eq_true rfl⟩ gdX11_grants_5 ?_
  refine g_if_eq E 22 gdX11_grants_8 (by decide) h (fun h => ?_) (fun h => ?_)
  ·
    refine g_sub E [] rfl ?_
    exact j22 o h
  ·
    refine g_aload_n E gdX11_grants_11 rfl 0 rfl ?_
    refine g_get (T := TX11) E fw_X11 0 (wC_0 g ad o) rfl 6 (by decide) w_464 rfl rfl gdX11_grants_12 ?_
    refine g_iload_n E gdX11_grants_15 rfl 2 rfl ?_
    obtain ⟨r17, hc18, h⟩ := qB_of h
    refine g_Vi (r := r17) (As := [iv x2]) (rest := []) (w := wC g ad o) E (c_X4_exists l g ad o x2 r17 hc18) okm_X4_exists okw_X4_exists w_882 rfl (wC_32 g ad o) rfl rfl (Nat.le_of_ble_eq_true rfl) ⟨Nat.le_of_ble_eq_true rfl, Nat.le_of_ble_eq_true rfl⟩ gdX11_grants_16 ?_
    refine g_if_ne E 24 gdX11_grants_19 (by decide) h (fun h => ?_) (fun h => ?_)
    ·
      refine g_aload_n E gdX11_grants_24 rfl 0 rfl ?_
      refine g_get (T := TX11) E fw_X11 0 (wC_0 g ad o) rfl 6 (by decide) w_464 rfl rfl gdX11_grants_25 ?_
      refine g_iload_n E gdX11_grants_28 rfl 1 rfl ?_
      refine g_iconst E gdX11_grants_29 ?_
      obtain ⟨r19, hc20, h⟩ := qB_of h
      refine g_Vi (r := r19) (As := [iv x1, iv 5]) (rest := []) (w := wC g ad o) E (c_X4_isOf l g ad o x1 5 r19 hc20) okm_X4_isOf okw_X4_isOf w_886 rfl (wC_32 g ad o) rfl rfl (Nat.le_of_ble_eq_true rfl) ⟨Nat.le_of_ble_eq_true rfl, Nat.le_of_ble_eq_true rfl⟩ gdX11_grants_30 ?_
      refine g_if_eq E 48 gdX11_grants_33 (by decide) h (fun h => ?_) (fun h => ?_)
      ·
        refine g_sub E [0] rfl ?_
        exact j48 o h
      ·
        refine g_aload_n E gdX11_grants_36 rfl 0 rfl ?_
        refine g_get (T := TX11) E fw_X11 0 (wC_0 g ad o) rfl 6 (by decide) w_464 rfl rfl gdX11_grants_37 ?_
        refine g_iload_n E gdX11_grants_40 rfl 2 rfl ?_
        refine g_iconst E gdX11_grants_41 ?_
        obtain ⟨r21, hc22, h⟩ := qB_of h
        refine g_Vi (r := r21) (As := [iv x2, iv 1]) (rest := []) (w := wC g ad o) E (c_X4_isOf l g ad o x2 1 r21 hc22) okm_X4_isOf okw_X4_isOf w_886 rfl (wC_32 g ad o) rfl rfl (Nat.le_of_ble_eq_true rfl) ⟨Nat.le_of_ble_eq_true rfl, Nat.le_of_ble_eq_true rfl⟩ gdX11_grants_42 ?_
        refine g_if_ne E 54 gdX11_grants_45 (by decide) h (fun h => ?_) (fun h => ?_)
        ·
          refine g_aload_n E gdX11_grants_54 rfl 0 rfl ?_
          refine g_get (T := TX11) E fw_X11 0 (wC_0 g ad o) rfl 10 (by decide) w_468 rfl rfl gdX11_grants_55 ?_
          refine g_get (T := TX0) E fw_X0 66 (wC_66 g ad o) rfl 0 (by decide) w_413 rfl rfl gdX11_grants_58 ?_
          refine g_if_le E 74 gdX11_grants_61 (by decide) h (fun h => ?_) (fun h => ?_)
          ·
            refine g_aload_n E gdX11_grants_74 rfl 0 rfl ?_
            refine g_get (T := TX11) E fw_X11 0 (wC_0 g ad o) rfl 13 (by decide) w_471 rfl rfl gdX11_grants_75 ?_
            exact j78 o x1 x2 (o.1 0 13) h
          ·
            refine g_aload_n E gdX11_grants_64 rfl 0 rfl ?_
            refine g_get (T := TX11) E fw_X11 0 (wC_0 g ad o) rfl 10 (by decide) w_468 rfl rfl gdX11_grants_65 ?_
            refine g_get (T := TX0) E fw_X0 66 (wC_66 g ad o) rfl 1 (by decide) w_415 rfl rfl gdX11_grants_68 ?_
            refine g_goto E 78 gdX11_grants_71 (by decide) ?_
            exact j78 o x1 x2 (o.1 66 1) h
        ·
          refine g_sub E [0] rfl ?_
          exact j48 o h
    ·
      refine g_sub E [] rfl ?_
      exact j22 o h
