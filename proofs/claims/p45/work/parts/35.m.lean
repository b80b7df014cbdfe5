set_option maxRecDepth 200000 in
theorem w_1468 : Cond.fieldLink "CityRoadModel" 205 "CityRoadModel" "asked" "I" ∈ tb := tb_mem 1468 (by decide +kernel) rfl
set_option maxRecDepth 200000 in
theorem w_1531 : Cond.fieldLink "CityRoadModel" 419 "CityRoadModel" "actMany" "I" ∈ tb := tb_mem 1531 (by decide +kernel) rfl
set_option maxRecDepth 200000 in
theorem w_1707 : Cond.code yX12_in cX12_in 3 (some .boolean) ∈ tb := tb_mem 1707 (by rfl) rfl
set_option maxRecDepth 200000 in
theorem w_103 : Cond.initialized "CityRoadModel" ∈ tb := tb_mem 103 (by decide +kernel) rfl
set_option maxRecDepth 200000 in
theorem w_1706 : Cond.static yX12_in ∈ tb := tb_mem 1706 (by decide +kernel) rfl
set_option maxRecDepth 200000 in
theorem w_1705 : Cond.methodLink "CityRoadModel" 208 yX12_in ∈ tb := tb_mem 1705 (by decide +kernel) rfl
set_option maxRecDepth 200000 in
theorem w_1534 : Cond.fieldLink "CityRoadModel" 178 "CityRoadModel" "actLater" "[I" ∈ tb := tb_mem 1534 (by decide +kernel) rfl
set_option maxRecDepth 200000 in
theorem w_1533 : Cond.fieldLink "CityRoadModel" 175 "CityRoadModel" "actEnd" "[I" ∈ tb := tb_mem 1533 (by decide +kernel) rfl
set_option maxRecDepth 200000 in
theorem w_1838 : Cond.code yX12_ask cX12_ask 3 (some .int) ∈ tb := tb_mem 1838 (by rfl) rfl
set_option maxRecDepth 200000 in
theorem w_1837 : Cond.instanceMethod yX12_ask ∈ tb := tb_mem 1837 (by decide +kernel) rfl
set_option maxRecDepth 200000 in
theorem w_49 : Cond.selects "CityRoadModel" yX12_ask yX12_ask ∈ tb := tb_mem 49 (by decide +kernel) rfl
set_option maxRecDepth 200000 in
theorem w_1835 : Cond.methodLink "CityRoadModel" 290 yX12_ask ∈ tb := tb_mem 1835 (by decide +kernel) rfl
set_option maxRecDepth 200000 in
theorem w_1466 : Cond.fieldLink "CityRoadModel" 202 "CityRoadModel" "finding" "I" ∈ tb := tb_mem 1466 (by decide +kernel) rfl
set_option maxRecDepth 200000 in
theorem w_1467 : Cond.fieldLink "CityRoadModel" 7 "CityRoadModel" "findings" "[I" ∈ tb := tb_mem 1467 (by decide +kernel) rfl
set_option maxRecDepth 200000 in
theorem w_1704 : Cond.code yX12_isRow cX12_isRow 1 (some .boolean) ∈ tb := tb_mem 1704 (by rfl) rfl
set_option maxRecDepth 200000 in
theorem w_1703 : Cond.static yX12_isRow ∈ tb := tb_mem 1703 (by decide +kernel) rfl
set_option maxRecDepth 200000 in
theorem w_1702 : Cond.methodLink "CityRoadModel" 212 yX12_isRow ∈ tb := tb_mem 1702 (by decide +kernel) rfl
set_option maxRecDepth 200000 in
theorem w_1471 : Cond.fieldLink "CityRoadModel" 13 "CityRoadModel" "sizes" "[I" ∈ tb := tb_mem 1471 (by decide +kernel) rfl
set_option maxRecDepth 200000 in
theorem w_1711 : Cond.code yX12_meets cX12_meets 2 (some .int) ∈ tb := tb_mem 1711 (by rfl) rfl
set_option maxRecDepth 200000 in
theorem w_1710 : Cond.instanceMethod yX12_meets ∈ tb := tb_mem 1710 (by decide +kernel) rfl
set_option maxRecDepth 200000 in
theorem w_37 : Cond.selects "CityRoadModel" yX12_meets yX12_meets ∈ tb := tb_mem 37 (by decide +kernel) rfl
set_option maxRecDepth 200000 in
theorem w_1708 : Cond.methodLink "CityRoadModel" 216 yX12_meets ∈ tb := tb_mem 1708 (by decide +kernel) rfl
set_option maxRecDepth 200000 in
theorem w_1472 : Cond.fieldLink "CityRoadModel" 16 "CityRoadModel" "rows" "[I" ∈ tb := tb_mem 1472 (by decide +kernel) rfl
set_option maxRecDepth 200000 in
theorem w_1535 : Cond.fieldLink "CityRoadModel" 181 "CityRoadModel" "ends" "[I" ∈ tb := tb_mem 1535 (by decide +kernel) rfl
set_option maxRecDepth 200000 in
theorem w_1536 : Cond.fieldLink "CityRoadModel" 184 "CityRoadModel" "laters" "[I" ∈ tb := tb_mem 1536 (by decide +kernel) rfl
set_option maxRecDepth 200000 in
theorem w_1532 : Cond.fieldLink "CityRoadModel" 171 "CityRoadModel" "actsEnd" "I" ∈ tb := tb_mem 1532 (by decide +kernel) rfl
set_option maxRecDepth 200000 in
theorem w_2077 : Cond.code yX12_ahead cX12_ahead 4 (some .int) ∈ tb := tb_mem 2077 (by rfl) rfl
set_option maxRecDepth 200000 in
theorem w_2076 : Cond.instanceMethod yX12_ahead ∈ tb := tb_mem 2076 (by decide +kernel) rfl
set_option maxRecDepth 200000 in
theorem w_79 : Cond.selects "CityRoadModel" yX12_ahead yX12_ahead ∈ tb := tb_mem 79 (by decide +kernel) rfl
set_option maxRecDepth 200000 in
theorem w_2074 : Cond.methodLink "CityRoadModel" 416 yX12_ahead ∈ tb := tb_mem 2074 (by decide +kernel) rfl
set_option maxRecDepth 200000 in
theorem w_1470 : Cond.fieldLink "CityRoadModel" 229 "CityRoadModel" "today" "I" ∈ tb := tb_mem 1470 (by decide +kernel) rfl
set_option maxRecDepth 200000 in
theorem w_1719 : Cond.code yX12_askedRow cX12_askedRow 2 (some .int) ∈ tb := tb_mem 1719 (by rfl) rfl
set_option maxRecDepth 200000 in
theorem w_1718 : Cond.instanceMethod yX12_askedRow ∈ tb := tb_mem 1718 (by decide +kernel) rfl
set_option maxRecDepth 200000 in
theorem w_38 : Cond.selects "CityRoadModel" yX12_askedRow yX12_askedRow ∈ tb := tb_mem 38 (by decide +kernel) rfl
set_option maxRecDepth 200000 in
theorem w_1716 : Cond.methodLink "CityRoadModel" 223 yX12_askedRow ∈ tb := tb_mem 1716 (by decide +kernel) rfl
set_option maxRecDepth 200000 in
theorem w_1504 : Cond.fieldLink "CityRoadModel" 98 "CityRoadModel" "wayMany" "[I" ∈ tb := tb_mem 1504 (by decide +kernel) rfl
set_option maxRecDepth 200000 in
theorem w_1505 : Cond.fieldLink "CityRoadModel" 101 "CityRoadModel" "wayCells" "[I" ∈ tb := tb_mem 1505 (by decide +kernel) rfl
set_option maxRecDepth 200000 in
theorem w_1481 : Cond.fieldLink "CityRoadModel" 40 "CityRoadModel" "sorts" "[I" ∈ tb := tb_mem 1481 (by decide +kernel) rfl
set_option maxRecDepth 200000 in
theorem w_1478 : Cond.fieldLink "CityRoadModel" 31 "CityRoadModel" "ruleFrom" "[I" ∈ tb := tb_mem 1478 (by decide +kernel) rfl
set_option maxRecDepth 200000 in
theorem w_1476 : Cond.fieldLink "CityRoadModel" 241 "CityRoadModel" "rules" "I" ∈ tb := tb_mem 1476 (by decide +kernel) rfl
set_option maxRecDepth 200000 in
theorem w_1477 : Cond.fieldLink "CityRoadModel" 28 "CityRoadModel" "ruleTold" "[I" ∈ tb := tb_mem 1477 (by decide +kernel) rfl
set_option maxRecDepth 200000 in
theorem w_1479 : Cond.fieldLink "CityRoadModel" 34 "CityRoadModel" "ruleSays" "[I" ∈ tb := tb_mem 1479 (by decide +kernel) rfl
set_option maxRecDepth 200000 in
theorem w_1779 : Cond.code yX12_ruleFor cX12_ruleFor 7 (some .int) ∈ tb := tb_mem 1779 (by rfl) rfl
set_option maxRecDepth 200000 in
theorem w_1778 : Cond.instanceMethod yX12_ruleFor ∈ tb := tb_mem 1778 (by decide +kernel) rfl
set_option maxRecDepth 200000 in
theorem w_42 : Cond.selects "CityRoadModel" yX12_ruleFor yX12_ruleFor ∈ tb := tb_mem 42 (by decide +kernel) rfl
set_option maxRecDepth 200000 in
theorem w_1776 : Cond.methodLink "CityRoadModel" 244 yX12_ruleFor ∈ tb := tb_mem 1776 (by decide +kernel) rfl
set_option maxRecDepth 200000 in
theorem w_1775 : Cond.code yX12_inForce cX12_inForce 5 (some .int) ∈ tb := tb_mem 1775 (by rfl) rfl
set_option maxRecDepth 200000 in
theorem w_1774 : Cond.instanceMethod yX12_inForce ∈ tb := tb_mem 1774 (by decide +kernel) rfl
set_option maxRecDepth 200000 in
theorem w_41 : Cond.selects "CityRoadModel" yX12_inForce yX12_inForce ∈ tb := tb_mem 41 (by decide +kernel) rfl
set_option maxRecDepth 200000 in
theorem w_1772 : Cond.methodLink "CityRoadModel" 248 yX12_inForce ∈ tb := tb_mem 1772 (by decide +kernel) rfl
set_option maxRecDepth 200000 in
theorem w_1913 : Cond.code yX12_apart cX12_apart 4 (some .int) ∈ tb := tb_mem 1913 (by rfl) rfl
set_option maxRecDepth 200000 in
theorem w_1912 : Cond.static yX12_apart ∈ tb := tb_mem 1912 (by decide +kernel) rfl
set_option maxRecDepth 200000 in
theorem w_1911 : Cond.methodLink "CityRoadModel" 337 yX12_apart ∈ tb := tb_mem 1911 (by decide +kernel) rfl
set_option maxRecDepth 200000 in
theorem w_1879 : Cond.constant "CityRoadModel" 314 (100000000) ∈ tb := tb_mem 1879 (by decide +kernel) rfl
set_option maxRecDepth 200000 in
theorem w_1493 : Cond.fieldLink "CityRoadModel" 281 "CityRoadModel" "persons" "I" ∈ tb := tb_mem 1493 (by decide +kernel) rfl
set_option maxRecDepth 200000 in
theorem w_1494 : Cond.fieldLink "CityRoadModel" 71 "CityRoadModel" "homes" "[I" ∈ tb := tb_mem 1494 (by decide +kernel) rfl
set_option maxRecDepth 200000 in
theorem w_1834 : Cond.code yX12_living cX12_living 4 (some .int) ∈ tb := tb_mem 1834 (by rfl) rfl
set_option maxRecDepth 200000 in
theorem w_1833 : Cond.instanceMethod yX12_living ∈ tb := tb_mem 1833 (by decide +kernel) rfl
set_option maxRecDepth 200000 in
theorem w_48 : Cond.selects "CityRoadModel" yX12_living yX12_living ∈ tb := tb_mem 48 (by decide +kernel) rfl
set_option maxRecDepth 200000 in
theorem w_1831 : Cond.methodLink "CityRoadModel" 284 yX12_living ∈ tb := tb_mem 1831 (by decide +kernel) rfl
set_option maxRecDepth 200000 in
theorem w_1483 : Cond.fieldLink "CityRoadModel" 254 "CityRoadModel" "buildings" "I" ∈ tb := tb_mem 1483 (by decide +kernel) rfl
set_option maxRecDepth 200000 in
theorem w_1485 : Cond.fieldLink "CityRoadModel" 49 "CityRoadModel" "uses" "[I" ∈ tb := tb_mem 1485 (by decide +kernel) rfl
set_option maxRecDepth 200000 in
theorem w_1487 : Cond.fieldLink "CityRoadModel" 55 "CityRoadModel" "isTaken" "[Z" ∈ tb := tb_mem 1487 (by decide +kernel) rfl
set_option maxRecDepth 200000 in
theorem w_1484 : Cond.fieldLink "CityRoadModel" 46 "CityRoadModel" "cellOfB" "[I" ∈ tb := tb_mem 1484 (by decide +kernel) rfl
set_option maxRecDepth 200000 in
theorem w_2041 : Cond.code yX12_noiseOf cX12_noiseOf 7 (some .int) ∈ tb := tb_mem 2041 (by rfl) rfl
set_option maxRecDepth 200000 in
theorem w_2040 : Cond.instanceMethod yX12_noiseOf ∈ tb := tb_mem 2040 (by decide +kernel) rfl
set_option maxRecDepth 200000 in
theorem w_75 : Cond.selects "CityRoadModel" yX12_noiseOf yX12_noiseOf ∈ tb := tb_mem 75 (by decide +kernel) rfl
set_option maxRecDepth 200000 in
theorem w_2038 : Cond.methodLink "CityRoadModel" 397 yX12_noiseOf ∈ tb := tb_mem 2038 (by decide +kernel) rfl
set_option maxRecDepth 200000 in
theorem w_1874 : Cond.code yX12_nowInForce cX12_nowInForce 2 (some .int) ∈ tb := tb_mem 1874 (by rfl) rfl
set_option maxRecDepth 200000 in
theorem w_1873 : Cond.instanceMethod yX12_nowInForce ∈ tb := tb_mem 1873 (by decide +kernel) rfl
set_option maxRecDepth 200000 in
theorem w_54 : Cond.selects "CityRoadModel" yX12_nowInForce yX12_nowInForce ∈ tb := tb_mem 54 (by decide +kernel) rfl
set_option maxRecDepth 200000 in
theorem w_1871 : Cond.methodLink "CityRoadModel" 328 yX12_nowInForce ∈ tb := tb_mem 1871 (by decide +kernel) rfl
set_option maxRecDepth 200000 in
theorem w_1502 : Cond.fieldLink "CityRoadModel" 92 "CityRoadModel" "costs" "[I" ∈ tb := tb_mem 1502 (by decide +kernel) rfl
set_option maxRecDepth 200000 in
theorem w_2049 : Cond.code yX12_parks cX12_parks 4 (some .int) ∈ tb := tb_mem 2049 (by rfl) rfl
set_option maxRecDepth 200000 in
theorem w_2048 : Cond.instanceMethod yX12_parks ∈ tb := tb_mem 2048 (by decide +kernel) rfl
set_option maxRecDepth 200000 in
theorem w_76 : Cond.selects "CityRoadModel" yX12_parks yX12_parks ∈ tb := tb_mem 76 (by decide +kernel) rfl
set_option maxRecDepth 200000 in
theorem w_2046 : Cond.methodLink "CityRoadModel" 404 yX12_parks ∈ tb := tb_mem 2046 (by decide +kernel) rfl
set_option maxRecDepth 200000 in
theorem w_2037 : Cond.code yX12_loud cX12_loud 8 (some .int) ∈ tb := tb_mem 2037 (by rfl) rfl
set_option maxRecDepth 200000 in
theorem w_2036 : Cond.instanceMethod yX12_loud ∈ tb := tb_mem 2036 (by decide +kernel) rfl
set_option maxRecDepth 200000 in
theorem w_74 : Cond.selects "CityRoadModel" yX12_loud yX12_loud ∈ tb := tb_mem 74 (by decide +kernel) rfl
set_option maxRecDepth 200000 in
theorem w_2034 : Cond.methodLink "CityRoadModel" 400 yX12_loud ∈ tb := tb_mem 2034 (by decide +kernel) rfl
set_option maxRecDepth 200000 in
theorem w_1920 : Cond.code yX12_has cX12_has 3 (some .boolean) ∈ tb := tb_mem 1920 (by rfl) rfl
set_option maxRecDepth 200000 in
theorem w_1919 : Cond.static yX12_has ∈ tb := tb_mem 1919 (by decide +kernel) rfl
set_option maxRecDepth 200000 in
theorem w_1918 : Cond.methodLink "CityRoadModel" 344 yX12_has ∈ tb := tb_mem 1918 (by decide +kernel) rfl
set_option maxRecDepth 200000 in
theorem w_1917 : Cond.code yX12_cellsOf cX12_cellsOf 5 (some .long) ∈ tb := tb_mem 1917 (by rfl) rfl
set_option maxRecDepth 200000 in
theorem w_1916 : Cond.instanceMethod yX12_cellsOf ∈ tb := tb_mem 1916 (by decide +kernel) rfl
set_option maxRecDepth 200000 in
theorem w_62 : Cond.selects "CityRoadModel" yX12_cellsOf yX12_cellsOf ∈ tb := tb_mem 62 (by decide +kernel) rfl
set_option maxRecDepth 200000 in
theorem w_1914 : Cond.methodLink "CityRoadModel" 340 yX12_cellsOf ∈ tb := tb_mem 1914 (by decide +kernel) rfl
set_option maxRecDepth 200000 in
theorem w_1499 : Cond.fieldLink "CityRoadModel" 83 "CityRoadModel" "kinds" "[I" ∈ tb := tb_mem 1499 (by decide +kernel) rfl
set_option maxRecDepth 200000 in
theorem w_1498 : Cond.fieldLink "CityRoadModel" 305 "CityRoadModel" "marks" "I" ∈ tb := tb_mem 1498 (by decide +kernel) rfl
set_option maxRecDepth 200000 in
theorem w_2117 : Cond.code yX12_judged cX12_judged 8 (some .int) ∈ tb := tb_mem 2117 (by rfl) rfl
set_option maxRecDepth 200000 in
theorem w_2116 : Cond.instanceMethod yX12_judged ∈ tb := tb_mem 2116 (by decide +kernel) rfl
set_option maxRecDepth 200000 in
theorem w_84 : Cond.selects "CityRoadModel" yX12_judged yX12_judged ∈ tb := tb_mem 84 (by decide +kernel) rfl
set_option maxRecDepth 200000 in
theorem w_2114 : Cond.methodLink "CityRoadModel" 440 yX12_judged ∈ tb := tb_mem 2114 (by decide +kernel) rfl
set_option maxRecDepth 200000 in
theorem w_2113 : Cond.code yX12_askedWeights cX12_askedWeights 5 (some .int) ∈ tb := tb_mem 2113 (by rfl) rfl
set_option maxRecDepth 200000 in
theorem w_2112 : Cond.instanceMethod yX12_askedWeights ∈ tb := tb_mem 2112 (by decide +kernel) rfl
set_option maxRecDepth 200000 in
theorem w_83 : Cond.selects "CityRoadModel" yX12_askedWeights yX12_askedWeights ∈ tb := tb_mem 83 (by decide +kernel) rfl
set_option maxRecDepth 200000 in
theorem w_2110 : Cond.methodLink "CityRoadModel" 437 yX12_askedWeights ∈ tb := tb_mem 2110 (by decide +kernel) rfl
theorem gdX12_in_15 : decode cX12_in 15 = .ok (.ireturn, 1) := by decide +kernel
theorem gdX12_in_14 : decode cX12_in 14 = .ok (.iconst 0, 1) := by decide +kernel
theorem gdX12_in_0 : decode cX12_in 0 = .ok (.iload_n 0, 1) := by decide +kernel
theorem gdX12_in_1 : decode cX12_in 1 = .ok (.iload_n 1, 1) := by decide +kernel
theorem gdX12_in_2 : decode cX12_in 2 = .ok (.if_icmp .lt 12, 3) := by decide +kernel
theorem gdX12_in_5 : decode cX12_in 5 = .ok (.iload_n 0, 1) := by decide +kernel
theorem gdX12_in_6 : decode cX12_in 6 = .ok (.iload_n 2, 1) := by decide +kernel
theorem gdX12_in_7 : decode cX12_in 7 = .ok (.if_icmp .gt 7, 3) := by decide +kernel
theorem gdX12_in_10 : decode cX12_in 10 = .ok (.iconst 1, 1) := by decide +kernel
theorem gdX12_in_11 : decode cX12_in 11 = .ok (.goto 4, 3) := by decide +kernel
theorem gdX12_ask_0 : decode cX12_ask 0 = .ok (.aload_n 0, 1) := by decide +kernel
theorem gdX12_ask_1 : decode cX12_ask 1 = .ok (.iload_n 1, 1) := by decide +kernel
theorem gdX12_ask_2 : decode cX12_ask 2 = .ok (.putfield 205, 3) := by decide +kernel
theorem gdX12_ask_5 : decode cX12_ask 5 = .ok (.iload_n 2, 1) := by decide +kernel
theorem gdX12_ask_6 : decode cX12_ask 6 = .ok (.ireturn, 1) := by decide +kernel
theorem gdX12_act_35 : decode cX12_act 35 = .ok (.ireturn, 1) := by decide +kernel
theorem gdX12_act_0 : decode cX12_act 0 = .ok (.iload_n 1, 1) := by decide +kernel
theorem gdX12_act_1 : decode cX12_act 1 = .ok (.iconst 0, 1) := by decide +kernel
theorem gdX12_act_2 : decode cX12_act 2 = .ok (.aload_n 0, 1) := by decide +kernel
theorem gdX12_act_3 : decode cX12_act 3 = .ok (.getfield 419, 3) := by decide +kernel
theorem gdX12_act_6 : decode cX12_act 6 = .ok (.iconst 1, 1) := by decide +kernel
theorem gdX12_act_7 : decode cX12_act 7 = .ok (.isub, 1) := by decide +kernel
theorem gdX12_act_8 : decode cX12_act 8 = .ok (.invokestatic 208, 3) := by decide +kernel
theorem gdX12_act_11 : decode cX12_act 11 = .ok (.ifCond .eq 22, 3) := by decide +kernel
theorem gdX12_act_33 : decode cX12_act 33 = .ok (.bipush (-9), 2) := by decide +kernel
theorem gdX12_act_14 : decode cX12_act 14 = .ok (.aload_n 0, 1) := by decide +kernel
theorem gdX12_act_15 : decode cX12_act 15 = .ok (.aload_n 0, 1) := by decide +kernel
theorem gdX12_act_16 : decode cX12_act 16 = .ok (.getfield 178, 3) := by decide +kernel
theorem gdX12_act_19 : decode cX12_act 19 = .ok (.iload_n 1, 1) := by decide +kernel
theorem gdX12_act_20 : decode cX12_act 20 = .ok (.iaload, 1) := by decide +kernel
theorem gdX12_act_21 : decode cX12_act 21 = .ok (.aload_n 0, 1) := by decide +kernel
theorem gdX12_act_22 : decode cX12_act 22 = .ok (.getfield 175, 3) := by decide +kernel
theorem gdX12_act_25 : decode cX12_act 25 = .ok (.iload_n 1, 1) := by decide +kernel
theorem gdX12_act_26 : decode cX12_act 26 = .ok (.iaload, 1) := by decide +kernel
theorem gdX12_act_27 : decode cX12_act 27 = .ok (.invokevirtual 290, 3) := by decide +kernel
theorem gdX12_act_30 : decode cX12_act 30 = .ok (.goto 5, 3) := by decide +kernel
theorem gdX12_isRow_0 : decode cX12_isRow 0 = .ok (.iload_n 0, 1) := by decide +kernel
theorem gdX12_isRow_1 : decode cX12_isRow 1 = .ok (.iconst 0, 1) := by decide +kernel
theorem gdX12_isRow_2 : decode cX12_isRow 2 = .ok (.iconst 5, 1) := by decide +kernel
theorem gdX12_isRow_3 : decode cX12_isRow 3 = .ok (.invokestatic 208, 3) := by decide +kernel
theorem gdX12_isRow_6 : decode cX12_isRow 6 = .ok (.ireturn, 1) := by decide +kernel
theorem gdX12_meets_0 : decode cX12_meets 0 = .ok (.aload_n 0, 1) := by decide +kernel
theorem gdX12_meets_1 : decode cX12_meets 1 = .ok (.iload_n 1, 1) := by decide +kernel
theorem gdX12_meets_2 : decode cX12_meets 2 = .ok (.putfield 202, 3) := by decide +kernel
theorem gdX12_meets_5 : decode cX12_meets 5 = .ok (.aload_n 0, 1) := by decide +kernel
theorem gdX12_meets_6 : decode cX12_meets 6 = .ok (.getfield 7, 3) := by decide +kernel
theorem gdX12_meets_9 : decode cX12_meets 9 = .ok (.iload_n 1, 1) := by decide +kernel
theorem gdX12_meets_10 : decode cX12_meets 10 = .ok (.dup2, 1) := by decide +kernel
theorem gdX12_meets_11 : decode cX12_meets 11 = .ok (.iaload, 1) := by decide +kernel
theorem gdX12_meets_12 : decode cX12_meets 12 = .ok (.iconst 1, 1) := by decide +kernel
theorem gdX12_meets_13 : decode cX12_meets 13 = .ok (.iadd, 1) := by decide +kernel
theorem gdX12_meets_14 : decode cX12_meets 14 = .ok (.iastore, 1) := by decide +kernel
theorem gdX12_meets_15 : decode cX12_meets 15 = .ok (.bipush (-3), 2) := by decide +kernel
theorem gdX12_meets_17 : decode cX12_meets 17 = .ok (.ireturn, 1) := by decide +kernel
theorem gdX12_askedRow_29 : decode cX12_askedRow 29 = .ok (.ireturn, 1) := by decide +kernel
theorem gdX12_askedRow_0 : decode cX12_askedRow 0 = .ok (.iload_n 1, 1) := by decide +kernel
theorem gdX12_askedRow_1 : decode cX12_askedRow 1 = .ok (.invokestatic 212, 3) := by decide +kernel
theorem gdX12_askedRow_4 : decode cX12_askedRow 4 = .ok (.ifCond .ne 7, 3) := by decide +kernel
theorem gdX12_askedRow_11 : decode cX12_askedRow 11 = .ok (.aload_n 0, 1) := by decide +kernel
theorem gdX12_askedRow_12 : decode cX12_askedRow 12 = .ok (.getfield 13, 3) := by decide +kernel
theorem gdX12_askedRow_15 : decode cX12_askedRow 15 = .ok (.iload_n 1, 1) := by decide +kernel
theorem gdX12_askedRow_16 : decode cX12_askedRow 16 = .ok (.iaload, 1) := by decide +kernel
theorem gdX12_askedRow_17 : decode cX12_askedRow 17 = .ok (.ifCond .ge 11, 3) := by decide +kernel
theorem gdX12_askedRow_28 : decode cX12_askedRow 28 = .ok (.iconst 0, 1) := by decide +kernel
theorem gdX12_askedRow_20 : decode cX12_askedRow 20 = .ok (.aload_n 0, 1) := by decide +kernel
theorem gdX12_askedRow_21 : decode cX12_askedRow 21 = .ok (.iconst 1, 1) := by decide +kernel
theorem gdX12_askedRow_22 : decode cX12_askedRow 22 = .ok (.invokevirtual 216, 3) := by decide +kernel
theorem gdX12_askedRow_25 : decode cX12_askedRow 25 = .ok (.goto 4, 3) := by decide +kernel
theorem gdX12_askedRow_7 : decode cX12_askedRow 7 = .ok (.iconst (-1), 1) := by decide +kernel
theorem gdX12_askedRow_8 : decode cX12_askedRow 8 = .ok (.goto 21, 3) := by decide +kernel
theorem gdX12_ahead_0 : decode cX12_ahead 0 = .ok (.aload_n 0, 1) := by decide +kernel
theorem gdX12_ahead_1 : decode cX12_ahead 1 = .ok (.getfield 16, 3) := by decide +kernel
theorem gdX12_ahead_4 : decode cX12_ahead 4 = .ok (.bipush 40, 2) := by decide +kernel
theorem gdX12_ahead_6 : decode cX12_ahead 6 = .ok (.iload_n 1, 1) := by decide +kernel
theorem gdX12_ahead_7 : decode cX12_ahead 7 = .ok (.imul, 1) := by decide +kernel
theorem gdX12_ahead_8 : decode cX12_ahead 8 = .ok (.iconst 3, 1) := by decide +kernel
theorem gdX12_ahead_9 : decode cX12_ahead 9 = .ok (.iload_n 2, 1) := by decide +kernel
theorem gdX12_ahead_10 : decode cX12_ahead 10 = .ok (.imul, 1) := by decide +kernel
theorem gdX12_ahead_11 : decode cX12_ahead 11 = .ok (.iadd, 1) := by decide +kernel
theorem gdX12_ahead_12 : decode cX12_ahead 12 = .ok (.iconst 1, 1) := by decide +kernel
theorem gdX12_ahead_13 : decode cX12_ahead 13 = .ok (.iadd, 1) := by decide +kernel
theorem gdX12_ahead_14 : decode cX12_ahead 14 = .ok (.iload_n 3, 1) := by decide +kernel
theorem gdX12_ahead_15 : decode cX12_ahead 15 = .ok (.iadd, 1) := by decide +kernel
theorem gdX12_ahead_16 : decode cX12_ahead 16 = .ok (.iaload, 1) := by decide +kernel
theorem gdX12_ahead_17 : decode cX12_ahead 17 = .ok (.ireturn, 1) := by decide +kernel
theorem gdX12_acts_42 : decode cX12_acts 42 = .ok (.aload_n 0, 1) := by decide +kernel
theorem gdX12_acts_43 : decode cX12_acts 43 = .ok (.iconst 5, 1) := by decide +kernel
theorem gdX12_acts_44 : decode cX12_acts 44 = .ok (.invokevirtual 216, 3) := by decide +kernel
theorem gdX12_acts_47 : decode cX12_acts 47 = .ok (.ireturn, 1) := by decide +kernel
theorem gdX12_acts_349 : decode cX12_acts 349 = .ok (.aload_n 0, 1) := by decide +kernel
theorem gdX12_acts_350 : decode cX12_acts 350 = .ok (.iconst 3, 1) := by decide +kernel
theorem gdX12_acts_351 : decode cX12_acts 351 = .ok (.invokevirtual 216, 3) := by decide +kernel
theorem gdX12_acts_354 : decode cX12_acts 354 = .ok (.ireturn, 1) := by decide +kernel
theorem gdX12_acts_622 : decode cX12_acts 622 = .ok (.iload 6, 2) := by decide +kernel
theorem gdX12_acts_624 : decode cX12_acts 624 = .ok (.ireturn, 1) := by decide +kernel
theorem gdX12_acts_582 : decode cX12_acts 582 = .ok (.iload 7, 2) := by decide +kernel
theorem gdX12_acts_584 : decode cX12_acts 584 = .ok (.iload_n 3, 1) := by decide +kernel
theorem gdX12_acts_585 : decode cX12_acts 585 = .ok (.if_icmp .ge 37, 3) := by decide +kernel
theorem gdX12_acts_588 : decode cX12_acts 588 = .ok (.aload_n 0, 1) := by decide +kernel
theorem gdX12_acts_589 : decode cX12_acts 589 = .ok (.getfield 175, 3) := by decide +kernel
theorem gdX12_acts_592 : decode cX12_acts 592 = .ok (.iload 7, 2) := by decide +kernel
theorem gdX12_acts_594 : decode cX12_acts 594 = .ok (.aload_n 0, 1) := by decide +kernel
theorem gdX12_acts_595 : decode cX12_acts 595 = .ok (.getfield 181, 3) := by decide +kernel
theorem gdX12_acts_598 : decode cX12_acts 598 = .ok (.iload 7, 2) := by decide +kernel
theorem gdX12_acts_600 : decode cX12_acts 600 = .ok (.iaload, 1) := by decide +kernel
theorem gdX12_acts_601 : decode cX12_acts 601 = .ok (.iastore, 1) := by decide +kernel
theorem gdX12_acts_602 : decode cX12_acts 602 = .ok (.aload_n 0, 1) := by decide +kernel
theorem gdX12_acts_603 : decode cX12_acts 603 = .ok (.getfield 178, 3) := by decide +kernel
theorem gdX12_acts_606 : decode cX12_acts 606 = .ok (.iload 7, 2) := by decide +kernel
theorem gdX12_acts_608 : decode cX12_acts 608 = .ok (.aload_n 0, 1) := by decide +kernel
theorem gdX12_acts_609 : decode cX12_acts 609 = .ok (.getfield 184, 3) := by decide +kernel
theorem gdX12_acts_612 : decode cX12_acts 612 = .ok (.iload 7, 2) := by decide +kernel
theorem gdX12_acts_614 : decode cX12_acts 614 = .ok (.iaload, 1) := by decide +kernel
theorem gdX12_acts_615 : decode cX12_acts 615 = .ok (.iastore, 1) := by decide +kernel
theorem gdX12_acts_616 : decode cX12_acts 616 = .ok (.iinc 7 1, 3) := by decide +kernel
theorem gdX12_acts_619 : decode cX12_acts 619 = .ok (.goto (-37), 3) := by decide +kernel
theorem gdX12_acts_568 : decode cX12_acts 568 = .ok (.aload_n 0, 1) := by decide +kernel
theorem gdX12_acts_569 : decode cX12_acts 569 = .ok (.iload_n 3, 1) := by decide +kernel
theorem gdX12_acts_570 : decode cX12_acts 570 = .ok (.putfield 419, 3) := by decide +kernel
theorem gdX12_acts_573 : decode cX12_acts 573 = .ok (.aload_n 0, 1) := by decide +kernel
theorem gdX12_acts_574 : decode cX12_acts 574 = .ok (.iload 6, 2) := by decide +kernel
theorem gdX12_acts_576 : decode cX12_acts 576 = .ok (.putfield 171, 3) := by decide +kernel
theorem gdX12_acts_579 : decode cX12_acts 579 = .ok (.iconst 0, 1) := by decide +kernel
theorem gdX12_acts_580 : decode cX12_acts 580 = .ok (.istore 7, 2) := by decide +kernel
theorem gdX12_acts_562 : decode cX12_acts 562 = .ok (.iinc 7 1, 3) := by decide +kernel
theorem gdX12_acts_565 : decode cX12_acts 565 = .ok (.goto (-128), 3) := by decide +kernel
theorem gdX12_acts_556 : decode cX12_acts 556 = .ok (.iinc 8 1, 3) := by decide +kernel
theorem gdX12_acts_559 : decode cX12_acts 559 = .ok (.goto (-113), 3) := by decide +kernel
theorem gdX12_acts_550 : decode cX12_acts 550 = .ok (.iinc 9 1, 3) := by decide +kernel
theorem gdX12_acts_553 : decode cX12_acts 553 = .ok (.goto (-98), 3) := by decide +kernel
theorem gdX12_acts_549 : decode cX12_acts 549 = .ok (.iastore, 1) := by decide +kernel
theorem gdX12_acts_455 : decode cX12_acts 455 = .ok (.iload 9, 2) := by decide +kernel
theorem gdX12_acts_457 : decode cX12_acts 457 = .ok (.iconst 2, 1) := by decide +kernel
theorem gdX12_acts_458 : decode cX12_acts 458 = .ok (.if_icmp .ge 98, 3) := by decide +kernel
theorem gdX12_acts_461 : decode cX12_acts 461 = .ok (.aload_n 0, 1) := by decide +kernel
theorem gdX12_acts_462 : decode cX12_acts 462 = .ok (.iload_n 1, 1) := by decide +kernel
theorem gdX12_acts_463 : decode cX12_acts 463 = .ok (.iload 8, 2) := by decide +kernel
theorem gdX12_acts_465 : decode cX12_acts 465 = .ok (.iload 9, 2) := by decide +kernel
theorem gdX12_acts_467 : decode cX12_acts 467 = .ok (.invokevirtual 416, 3) := by decide +kernel
theorem gdX12_acts_470 : decode cX12_acts 470 = .ok (.istore 10, 2) := by decide +kernel
theorem gdX12_acts_472 : decode cX12_acts 472 = .ok (.iload 10, 2) := by decide +kernel
theorem gdX12_acts_474 : decode cX12_acts 474 = .ok (.bipush (-9), 2) := by decide +kernel
theorem gdX12_acts_476 : decode cX12_acts 476 = .ok (.if_icmp .eq 74, 3) := by decide +kernel
theorem gdX12_acts_479 : decode cX12_acts 479 = .ok (.aload_n 0, 1) := by decide +kernel
theorem gdX12_acts_480 : decode cX12_acts 480 = .ok (.getfield 181, 3) := by decide +kernel
theorem gdX12_acts_483 : decode cX12_acts 483 = .ok (.iload 8, 2) := by decide +kernel
theorem gdX12_acts_485 : decode cX12_acts 485 = .ok (.iaload, 1) := by decide +kernel
theorem gdX12_acts_486 : decode cX12_acts 486 = .ok (.aload_n 0, 1) := by decide +kernel
theorem gdX12_acts_487 : decode cX12_acts 487 = .ok (.getfield 184, 3) := by decide +kernel
theorem gdX12_acts_490 : decode cX12_acts 490 = .ok (.iload 8, 2) := by decide +kernel
theorem gdX12_acts_492 : decode cX12_acts 492 = .ok (.iaload, 1) := by decide +kernel
theorem gdX12_acts_493 : decode cX12_acts 493 = .ok (.iadd, 1) := by decide +kernel
theorem gdX12_acts_494 : decode cX12_acts 494 = .ok (.aload_n 0, 1) := by decide +kernel
theorem gdX12_acts_495 : decode cX12_acts 495 = .ok (.getfield 16, 3) := by decide +kernel
theorem gdX12_acts_498 : decode cX12_acts 498 = .ok (.bipush 40, 2) := by decide +kernel
theorem gdX12_acts_500 : decode cX12_acts 500 = .ok (.iload_n 1, 1) := by decide +kernel
theorem gdX12_acts_501 : decode cX12_acts 501 = .ok (.imul, 1) := by decide +kernel
theorem gdX12_acts_502 : decode cX12_acts 502 = .ok (.iconst 3, 1) := by decide +kernel
theorem gdX12_acts_503 : decode cX12_acts 503 = .ok (.iload 8, 2) := by decide +kernel
theorem gdX12_acts_505 : decode cX12_acts 505 = .ok (.imul, 1) := by decide +kernel
theorem gdX12_acts_506 : decode cX12_acts 506 = .ok (.iadd, 1) := by decide +kernel
theorem gdX12_acts_507 : decode cX12_acts 507 = .ok (.iaload, 1) := by decide +kernel
theorem gdX12_acts_508 : decode cX12_acts 508 = .ok (.isub, 1) := by decide +kernel
theorem gdX12_acts_509 : decode cX12_acts 509 = .ok (.aload_n 0, 1) := by decide +kernel
theorem gdX12_acts_510 : decode cX12_acts 510 = .ok (.getfield 181, 3) := by decide +kernel
theorem gdX12_acts_513 : decode cX12_acts 513 = .ok (.iload 10, 2) := by decide +kernel
theorem gdX12_acts_515 : decode cX12_acts 515 = .ok (.iaload, 1) := by decide +kernel
theorem gdX12_acts_516 : decode cX12_acts 516 = .ok (.isub, 1) := by decide +kernel
theorem gdX12_acts_517 : decode cX12_acts 517 = .ok (.istore 11, 2) := by decide +kernel
theorem gdX12_acts_519 : decode cX12_acts 519 = .ok (.aload_n 0, 1) := by decide +kernel
theorem gdX12_acts_520 : decode cX12_acts 520 = .ok (.getfield 184, 3) := by decide +kernel
theorem gdX12_acts_523 : decode cX12_acts 523 = .ok (.iload 10, 2) := by decide +kernel
theorem gdX12_acts_525 : decode cX12_acts 525 = .ok (.iload 11, 2) := by decide +kernel
theorem gdX12_acts_527 : decode cX12_acts 527 = .ok (.aload_n 0, 1) := by decide +kernel
theorem gdX12_acts_528 : decode cX12_acts 528 = .ok (.getfield 184, 3) := by decide +kernel
theorem gdX12_acts_531 : decode cX12_acts 531 = .ok (.iload 10, 2) := by decide +kernel
theorem gdX12_acts_533 : decode cX12_acts 533 = .ok (.iaload, 1) := by decide +kernel
theorem gdX12_acts_534 : decode cX12_acts 534 = .ok (.if_icmp .ge 8, 3) := by decide +kernel
theorem gdX12_acts_542 : decode cX12_acts 542 = .ok (.aload_n 0, 1) := by decide +kernel
theorem gdX12_acts_543 : decode cX12_acts 543 = .ok (.getfield 184, 3) := by decide +kernel
theorem gdX12_acts_546 : decode cX12_acts 546 = .ok (.iload 10, 2) := by decide +kernel
theorem gdX12_acts_548 : decode cX12_acts 548 = .ok (.iaload, 1) := by decide +kernel
theorem gdX12_acts_537 : decode cX12_acts 537 = .ok (.iload 11, 2) := by decide +kernel
theorem gdX12_acts_539 : decode cX12_acts 539 = .ok (.goto 10, 3) := by decide +kernel
theorem gdX12_acts_446 : decode cX12_acts 446 = .ok (.iload 8, 2) := by decide +kernel
theorem gdX12_acts_448 : decode cX12_acts 448 = .ok (.iload_n 3, 1) := by decide +kernel
theorem gdX12_acts_449 : decode cX12_acts 449 = .ok (.if_icmp .ge 113, 3) := by decide +kernel
theorem gdX12_acts_452 : decode cX12_acts 452 = .ok (.iconst 0, 1) := by decide +kernel
theorem gdX12_acts_453 : decode cX12_acts 453 = .ok (.istore 9, 2) := by decide +kernel
theorem gdX12_acts_437 : decode cX12_acts 437 = .ok (.iload 7, 2) := by decide +kernel
theorem gdX12_acts_439 : decode cX12_acts 439 = .ok (.iload_n 3, 1) := by decide +kernel
theorem gdX12_acts_440 : decode cX12_acts 440 = .ok (.if_icmp .ge 128, 3) := by decide +kernel
theorem gdX12_acts_443 : decode cX12_acts 443 = .ok (.iconst 0, 1) := by decide +kernel
theorem gdX12_acts_444 : decode cX12_acts 444 = .ok (.istore 8, 2) := by decide +kernel
theorem gdX12_acts_434 : decode cX12_acts 434 = .ok (.iconst 0, 1) := by decide +kernel
theorem gdX12_acts_435 : decode cX12_acts 435 = .ok (.istore 7, 2) := by decide +kernel
theorem gdX12_acts_405 : decode cX12_acts 405 = .ok (.iload 7, 2) := by decide +kernel
theorem gdX12_acts_407 : decode cX12_acts 407 = .ok (.iload_n 3, 1) := by decide +kernel
theorem gdX12_acts_408 : decode cX12_acts 408 = .ok (.if_icmp .ge 26, 3) := by decide +kernel
theorem gdX12_acts_411 : decode cX12_acts 411 = .ok (.aload_n 0, 1) := by decide +kernel
theorem gdX12_acts_412 : decode cX12_acts 412 = .ok (.getfield 184, 3) := by decide +kernel
theorem gdX12_acts_415 : decode cX12_acts 415 = .ok (.iload 7, 2) := by decide +kernel
theorem gdX12_acts_417 : decode cX12_acts 417 = .ok (.iload 6, 2) := by decide +kernel
theorem gdX12_acts_419 : decode cX12_acts 419 = .ok (.aload_n 0, 1) := by decide +kernel
theorem gdX12_acts_420 : decode cX12_acts 420 = .ok (.getfield 181, 3) := by decide +kernel
theorem gdX12_acts_423 : decode cX12_acts 423 = .ok (.iload 7, 2) := by decide +kernel
theorem gdX12_acts_425 : decode cX12_acts 425 = .ok (.iaload, 1) := by decide +kernel
theorem gdX12_acts_426 : decode cX12_acts 426 = .ok (.isub, 1) := by decide +kernel
theorem gdX12_acts_427 : decode cX12_acts 427 = .ok (.iastore, 1) := by decide +kernel
theorem gdX12_acts_428 : decode cX12_acts 428 = .ok (.iinc 7 1, 3) := by decide +kernel
theorem gdX12_acts_431 : decode cX12_acts 431 = .ok (.goto (-26), 3) := by decide +kernel
theorem gdX12_acts_402 : decode cX12_acts 402 = .ok (.iconst 0, 1) := by decide +kernel
theorem gdX12_acts_403 : decode cX12_acts 403 = .ok (.istore 7, 2) := by decide +kernel
theorem gdX12_acts_394 : decode cX12_acts 394 = .ok (.istore 6, 2) := by decide +kernel
theorem gdX12_acts_396 : decode cX12_acts 396 = .ok (.iinc 7 1, 3) := by decide +kernel
theorem gdX12_acts_399 : decode cX12_acts 399 = .ok (.goto (-35), 3) := by decide +kernel
theorem gdX12_acts_364 : decode cX12_acts 364 = .ok (.iload 7, 2) := by decide +kernel
theorem gdX12_acts_366 : decode cX12_acts 366 = .ok (.iload_n 3, 1) := by decide +kernel
theorem gdX12_acts_367 : decode cX12_acts 367 = .ok (.if_icmp .ge 35, 3) := by decide +kernel
theorem gdX12_acts_370 : decode cX12_acts 370 = .ok (.aload_n 0, 1) := by decide +kernel
theorem gdX12_acts_371 : decode cX12_acts 371 = .ok (.getfield 181, 3) := by decide +kernel
theorem gdX12_acts_374 : decode cX12_acts 374 = .ok (.iload 7, 2) := by decide +kernel
theorem gdX12_acts_376 : decode cX12_acts 376 = .ok (.iaload, 1) := by decide +kernel
theorem gdX12_acts_377 : decode cX12_acts 377 = .ok (.iload 6, 2) := by decide +kernel
theorem gdX12_acts_379 : decode cX12_acts 379 = .ok (.if_icmp .le 13, 3) := by decide +kernel
theorem gdX12_acts_392 : decode cX12_acts 392 = .ok (.iload 6, 2) := by decide +kernel
theorem gdX12_acts_382 : decode cX12_acts 382 = .ok (.aload_n 0, 1) := by decide +kernel
theorem gdX12_acts_383 : decode cX12_acts 383 = .ok (.getfield 181, 3) := by decide +kernel
theorem gdX12_acts_386 : decode cX12_acts 386 = .ok (.iload 7, 2) := by decide +kernel
theorem gdX12_acts_388 : decode cX12_acts 388 = .ok (.iaload, 1) := by decide +kernel
theorem gdX12_acts_389 : decode cX12_acts 389 = .ok (.goto 5, 3) := by decide +kernel
theorem gdX12_acts_338 : decode cX12_acts 338 = .ok (.iload 4, 2) := by decide +kernel
theorem gdX12_acts_340 : decode cX12_acts 340 = .ok (.ifCond .eq 9, 3) := by decide +kernel
theorem gdX12_acts_343 : decode cX12_acts 343 = .ok (.iload 5, 2) := by decide +kernel
theorem gdX12_acts_345 : decode cX12_acts 345 = .ok (.iload_n 3, 1) := by decide +kernel
theorem gdX12_acts_346 : decode cX12_acts 346 = .ok (.if_icmp .ge 9, 3) := by decide +kernel
theorem gdX12_acts_355 : decode cX12_acts 355 = .ok (.aload_n 0, 1) := by decide +kernel
theorem gdX12_acts_356 : decode cX12_acts 356 = .ok (.getfield 229, 3) := by decide +kernel
theorem gdX12_acts_359 : decode cX12_acts 359 = .ok (.istore 6, 2) := by decide +kernel
theorem gdX12_acts_361 : decode cX12_acts 361 = .ok (.iconst 0, 1) := by decide +kernel
theorem gdX12_acts_362 : decode cX12_acts 362 = .ok (.istore 7, 2) := by decide +kernel
theorem gdX12_acts_332 : decode cX12_acts 332 = .ok (.iinc 6 1, 3) := by decide +kernel
theorem gdX12_acts_335 : decode cX12_acts 335 = .ok (.goto (-158), 3) := by decide +kernel
theorem gdX12_acts_326 : decode cX12_acts 326 = .ok (.iinc 7 1, 3) := by decide +kernel
theorem gdX12_acts_329 : decode cX12_acts 329 = .ok (.goto (-138), 3) := by decide +kernel
theorem gdX12_acts_307 : decode cX12_acts 307 = .ok (.aload_n 0, 1) := by decide +kernel
theorem gdX12_acts_308 : decode cX12_acts 308 = .ok (.getfield 16, 3) := by decide +kernel
theorem gdX12_acts_311 : decode cX12_acts 311 = .ok (.bipush 40, 2) := by decide +kernel
theorem gdX12_acts_313 : decode cX12_acts 313 = .ok (.iload_n 1, 1) := by decide +kernel
theorem gdX12_acts_314 : decode cX12_acts 314 = .ok (.imul, 1) := by decide +kernel
theorem gdX12_acts_315 : decode cX12_acts 315 = .ok (.iconst 3, 1) := by decide +kernel
theorem gdX12_acts_316 : decode cX12_acts 316 = .ok (.iload 7, 2) := by decide +kernel
theorem gdX12_acts_318 : decode cX12_acts 318 = .ok (.imul, 1) := by decide +kernel
theorem gdX12_acts_319 : decode cX12_acts 319 = .ok (.iadd, 1) := by decide +kernel
theorem gdX12_acts_320 : decode cX12_acts 320 = .ok (.iaload, 1) := by decide +kernel
theorem gdX12_acts_321 : decode cX12_acts 321 = .ok (.iadd, 1) := by decide +kernel
theorem gdX12_acts_322 : decode cX12_acts 322 = .ok (.iastore, 1) := by decide +kernel
theorem gdX12_acts_323 : decode cX12_acts 323 = .ok (.iinc 5 1, 3) := by decide +kernel
theorem gdX12_acts_265 : decode cX12_acts 265 = .ok (.istore 9, 2) := by decide +kernel
theorem gdX12_acts_267 : decode cX12_acts 267 = .ok (.aload_n 0, 1) := by decide +kernel
theorem gdX12_acts_268 : decode cX12_acts 268 = .ok (.getfield 181, 3) := by decide +kernel
theorem gdX12_acts_271 : decode cX12_acts 271 = .ok (.iload 7, 2) := by decide +kernel
theorem gdX12_acts_273 : decode cX12_acts 273 = .ok (.iaload, 1) := by decide +kernel
theorem gdX12_acts_274 : decode cX12_acts 274 = .ok (.ifCond .ge 52, 3) := by decide +kernel
theorem gdX12_acts_277 : decode cX12_acts 277 = .ok (.iload 8, 2) := by decide +kernel
theorem gdX12_acts_279 : decode cX12_acts 279 = .ok (.ifCond .lt 47, 3) := by decide +kernel
theorem gdX12_acts_282 : decode cX12_acts 282 = .ok (.iload 9, 2) := by decide +kernel
theorem gdX12_acts_284 : decode cX12_acts 284 = .ok (.ifCond .lt 42, 3) := by decide +kernel
theorem gdX12_acts_287 : decode cX12_acts 287 = .ok (.aload_n 0, 1) := by decide +kernel
theorem gdX12_acts_288 : decode cX12_acts 288 = .ok (.getfield 181, 3) := by decide +kernel
theorem gdX12_acts_291 : decode cX12_acts 291 = .ok (.iload 7, 2) := by decide +kernel
theorem gdX12_acts_293 : decode cX12_acts 293 = .ok (.iload 8, 2) := by decide +kernel
theorem gdX12_acts_295 : decode cX12_acts 295 = .ok (.iload 9, 2) := by decide +kernel
theorem gdX12_acts_297 : decode cX12_acts 297 = .ok (.if_icmp .le 8, 3) := by decide +kernel
theorem gdX12_acts_305 : decode cX12_acts 305 = .ok (.iload 9, 2) := by decide +kernel
theorem gdX12_acts_300 : decode cX12_acts 300 = .ok (.iload 8, 2) := by decide +kernel
theorem gdX12_acts_302 : decode cX12_acts 302 = .ok (.goto 5, 3) := by decide +kernel
theorem gdX12_acts_230 : decode cX12_acts 230 = .ok (.istore 8, 2) := by decide +kernel
theorem gdX12_acts_232 : decode cX12_acts 232 = .ok (.aload_n 0, 1) := by decide +kernel
theorem gdX12_acts_233 : decode cX12_acts 233 = .ok (.iload_n 1, 1) := by decide +kernel
theorem gdX12_acts_234 : decode cX12_acts 234 = .ok (.iload 7, 2) := by decide +kernel
theorem gdX12_acts_236 : decode cX12_acts 236 = .ok (.iconst 1, 1) := by decide +kernel
theorem gdX12_acts_237 : decode cX12_acts 237 = .ok (.invokevirtual 416, 3) := by decide +kernel
theorem gdX12_acts_240 : decode cX12_acts 240 = .ok (.bipush (-9), 2) := by decide +kernel
theorem gdX12_acts_242 : decode cX12_acts 242 = .ok (.if_icmp .ne 10, 3) := by decide +kernel
theorem gdX12_acts_252 : decode cX12_acts 252 = .ok (.aload_n 0, 1) := by decide +kernel
theorem gdX12_acts_253 : decode cX12_acts 253 = .ok (.getfield 181, 3) := by decide +kernel
theorem gdX12_acts_256 : decode cX12_acts 256 = .ok (.aload_n 0, 1) := by decide +kernel
theorem gdX12_acts_257 : decode cX12_acts 257 = .ok (.iload_n 1, 1) := by decide +kernel
theorem gdX12_acts_258 : decode cX12_acts 258 = .ok (.iload 7, 2) := by decide +kernel
theorem gdX12_acts_260 : decode cX12_acts 260 = .ok (.iconst 1, 1) := by decide +kernel
theorem gdX12_acts_261 : decode cX12_acts 261 = .ok (.invokevirtual 416, 3) := by decide +kernel
theorem gdX12_acts_264 : decode cX12_acts 264 = .ok (.iaload, 1) := by decide +kernel
theorem gdX12_acts_245 : decode cX12_acts 245 = .ok (.aload_n 0, 1) := by decide +kernel
theorem gdX12_acts_246 : decode cX12_acts 246 = .ok (.getfield 229, 3) := by decide +kernel
theorem gdX12_acts_249 : decode cX12_acts 249 = .ok (.goto 16, 3) := by decide +kernel
theorem gdX12_acts_191 : decode cX12_acts 191 = .ok (.iload 7, 2) := by decide +kernel
theorem gdX12_acts_193 : decode cX12_acts 193 = .ok (.iload_n 3, 1) := by decide +kernel
theorem gdX12_acts_194 : decode cX12_acts 194 = .ok (.if_icmp .ge 138, 3) := by decide +kernel
theorem gdX12_acts_197 : decode cX12_acts 197 = .ok (.aload_n 0, 1) := by decide +kernel
theorem gdX12_acts_198 : decode cX12_acts 198 = .ok (.iload_n 1, 1) := by decide +kernel
theorem gdX12_acts_199 : decode cX12_acts 199 = .ok (.iload 7, 2) := by decide +kernel
theorem gdX12_acts_201 : decode cX12_acts 201 = .ok (.iconst 0, 1) := by decide +kernel
theorem gdX12_acts_202 : decode cX12_acts 202 = .ok (.invokevirtual 416, 3) := by decide +kernel
theorem gdX12_acts_205 : decode cX12_acts 205 = .ok (.bipush (-9), 2) := by decide +kernel
theorem gdX12_acts_207 : decode cX12_acts 207 = .ok (.if_icmp .ne 10, 3) := by decide +kernel
theorem gdX12_acts_217 : decode cX12_acts 217 = .ok (.aload_n 0, 1) := by decide +kernel
theorem gdX12_acts_218 : decode cX12_acts 218 = .ok (.getfield 181, 3) := by decide +kernel
theorem gdX12_acts_221 : decode cX12_acts 221 = .ok (.aload_n 0, 1) := by decide +kernel
theorem gdX12_acts_222 : decode cX12_acts 222 = .ok (.iload_n 1, 1) := by decide +kernel
theorem gdX12_acts_223 : decode cX12_acts 223 = .ok (.iload 7, 2) := by decide +kernel
theorem gdX12_acts_225 : decode cX12_acts 225 = .ok (.iconst 0, 1) := by decide +kernel
theorem gdX12_acts_226 : decode cX12_acts 226 = .ok (.invokevirtual 416, 3) := by decide +kernel
theorem gdX12_acts_229 : decode cX12_acts 229 = .ok (.iaload, 1) := by decide +kernel
theorem gdX12_acts_210 : decode cX12_acts 210 = .ok (.aload_n 0, 1) := by decide +kernel
theorem gdX12_acts_211 : decode cX12_acts 211 = .ok (.getfield 229, 3) := by decide +kernel
theorem gdX12_acts_214 : decode cX12_acts 214 = .ok (.goto 16, 3) := by decide +kernel
theorem gdX12_acts_177 : decode cX12_acts 177 = .ok (.iload 6, 2) := by decide +kernel
theorem gdX12_acts_179 : decode cX12_acts 179 = .ok (.iload_n 3, 1) := by decide +kernel
theorem gdX12_acts_180 : decode cX12_acts 180 = .ok (.if_icmp .ge 158, 3) := by decide +kernel
theorem gdX12_acts_183 : decode cX12_acts 183 = .ok (.iload 4, 2) := by decide +kernel
theorem gdX12_acts_185 : decode cX12_acts 185 = .ok (.ifCond .eq 153, 3) := by decide +kernel
theorem gdX12_acts_188 : decode cX12_acts 188 = .ok (.iconst 0, 1) := by decide +kernel
theorem gdX12_acts_189 : decode cX12_acts 189 = .ok (.istore 7, 2) := by decide +kernel
theorem gdX12_acts_171 : decode cX12_acts 171 = .ok (.iconst 0, 1) := by decide +kernel
theorem gdX12_acts_172 : decode cX12_acts 172 = .ok (.istore 5, 2) := by decide +kernel
theorem gdX12_acts_174 : decode cX12_acts 174 = .ok (.iconst 0, 1) := by decide +kernel
theorem gdX12_acts_175 : decode cX12_acts 175 = .ok (.istore 6, 2) := by decide +kernel
theorem gdX12_acts_156 : decode cX12_acts 156 = .ok (.aload_n 0, 1) := by decide +kernel
theorem gdX12_acts_157 : decode cX12_acts 157 = .ok (.getfield 181, 3) := by decide +kernel
theorem gdX12_acts_160 : decode cX12_acts 160 = .ok (.iload 5, 2) := by decide +kernel
theorem gdX12_acts_162 : decode cX12_acts 162 = .ok (.bipush (-9), 2) := by decide +kernel
theorem gdX12_acts_164 : decode cX12_acts 164 = .ok (.iastore, 1) := by decide +kernel
theorem gdX12_acts_165 : decode cX12_acts 165 = .ok (.iinc 5 1, 3) := by decide +kernel
theorem gdX12_acts_168 : decode cX12_acts 168 = .ok (.goto (-114), 3) := by decide +kernel
theorem gdX12_acts_148 : decode cX12_acts 148 = .ok (.istore 4, 2) := by decide +kernel
theorem gdX12_acts_150 : decode cX12_acts 150 = .ok (.iinc 6 1, 3) := by decide +kernel
theorem gdX12_acts_153 : decode cX12_acts 153 = .ok (.goto (-54), 3) := by decide +kernel
theorem gdX12_acts_143 : decode cX12_acts 143 = .ok (.iconst 1, 1) := by decide +kernel
theorem gdX12_acts_144 : decode cX12_acts 144 = .ok (.goto 4, 3) := by decide +kernel
theorem gdX12_acts_147 : decode cX12_acts 147 = .ok (.iconst 0, 1) := by decide +kernel
theorem gdX12_acts_99 : decode cX12_acts 99 = .ok (.iload 6, 2) := by decide +kernel
theorem gdX12_acts_101 : decode cX12_acts 101 = .ok (.iconst 2, 1) := by decide +kernel
theorem gdX12_acts_102 : decode cX12_acts 102 = .ok (.if_icmp .ge 54, 3) := by decide +kernel
theorem gdX12_acts_105 : decode cX12_acts 105 = .ok (.iload 4, 2) := by decide +kernel
theorem gdX12_acts_107 : decode cX12_acts 107 = .ok (.ifCond .eq 40, 3) := by decide +kernel
theorem gdX12_acts_110 : decode cX12_acts 110 = .ok (.aload_n 0, 1) := by decide +kernel
theorem gdX12_acts_111 : decode cX12_acts 111 = .ok (.iload_n 1, 1) := by decide +kernel
theorem gdX12_acts_112 : decode cX12_acts 112 = .ok (.iload 5, 2) := by decide +kernel
theorem gdX12_acts_114 : decode cX12_acts 114 = .ok (.iload 6, 2) := by decide +kernel
theorem gdX12_acts_116 : decode cX12_acts 116 = .ok (.invokevirtual 416, 3) := by decide +kernel
theorem gdX12_acts_119 : decode cX12_acts 119 = .ok (.bipush (-9), 2) := by decide +kernel
theorem gdX12_acts_121 : decode cX12_acts 121 = .ok (.if_icmp .eq 22, 3) := by decide +kernel
theorem gdX12_acts_124 : decode cX12_acts 124 = .ok (.aload_n 0, 1) := by decide +kernel
theorem gdX12_acts_125 : decode cX12_acts 125 = .ok (.iload_n 1, 1) := by decide +kernel
theorem gdX12_acts_126 : decode cX12_acts 126 = .ok (.iload 5, 2) := by decide +kernel
theorem gdX12_acts_128 : decode cX12_acts 128 = .ok (.iload 6, 2) := by decide +kernel
theorem gdX12_acts_130 : decode cX12_acts 130 = .ok (.invokevirtual 416, 3) := by decide +kernel
theorem gdX12_acts_133 : decode cX12_acts 133 = .ok (.iconst 0, 1) := by decide +kernel
theorem gdX12_acts_134 : decode cX12_acts 134 = .ok (.iload_n 3, 1) := by decide +kernel
theorem gdX12_acts_135 : decode cX12_acts 135 = .ok (.iconst 1, 1) := by decide +kernel
theorem gdX12_acts_136 : decode cX12_acts 136 = .ok (.isub, 1) := by decide +kernel
theorem gdX12_acts_137 : decode cX12_acts 137 = .ok (.invokestatic 208, 3) := by decide +kernel
theorem gdX12_acts_140 : decode cX12_acts 140 = .ok (.ifCond .eq 7, 3) := by decide +kernel
theorem gdX12_acts_94 : decode cX12_acts 94 = .ok (.istore 4, 2) := by decide +kernel
theorem gdX12_acts_96 : decode cX12_acts 96 = .ok (.iconst 0, 1) := by decide +kernel
theorem gdX12_acts_97 : decode cX12_acts 97 = .ok (.istore 6, 2) := by decide +kernel
theorem gdX12_acts_93 : decode cX12_acts 93 = .ok (.iconst 0, 1) := by decide +kernel
theorem gdX12_acts_54 : decode cX12_acts 54 = .ok (.iload 5, 2) := by decide +kernel
theorem gdX12_acts_56 : decode cX12_acts 56 = .ok (.iload_n 3, 1) := by decide +kernel
theorem gdX12_acts_57 : decode cX12_acts 57 = .ok (.if_icmp .ge 114, 3) := by decide +kernel
theorem gdX12_acts_60 : decode cX12_acts 60 = .ok (.iload 4, 2) := by decide +kernel
theorem gdX12_acts_62 : decode cX12_acts 62 = .ok (.ifCond .eq 31, 3) := by decide +kernel
theorem gdX12_acts_65 : decode cX12_acts 65 = .ok (.aload_n 0, 1) := by decide +kernel
theorem gdX12_acts_66 : decode cX12_acts 66 = .ok (.getfield 16, 3) := by decide +kernel
theorem gdX12_acts_69 : decode cX12_acts 69 = .ok (.bipush 40, 2) := by decide +kernel
theorem gdX12_acts_71 : decode cX12_acts 71 = .ok (.iload_n 1, 1) := by decide +kernel
theorem gdX12_acts_72 : decode cX12_acts 72 = .ok (.imul, 1) := by decide +kernel
theorem gdX12_acts_73 : decode cX12_acts 73 = .ok (.iconst 3, 1) := by decide +kernel
theorem gdX12_acts_74 : decode cX12_acts 74 = .ok (.iload 5, 2) := by decide +kernel
theorem gdX12_acts_76 : decode cX12_acts 76 = .ok (.imul, 1) := by decide +kernel
theorem gdX12_acts_77 : decode cX12_acts 77 = .ok (.iadd, 1) := by decide +kernel
theorem gdX12_acts_78 : decode cX12_acts 78 = .ok (.iaload, 1) := by decide +kernel
theorem gdX12_acts_79 : decode cX12_acts 79 = .ok (.iconst 0, 1) := by decide +kernel
theorem gdX12_acts_80 : decode cX12_acts 80 = .ok (.sipush 200, 3) := by decide +kernel
theorem gdX12_acts_83 : decode cX12_acts 83 = .ok (.invokestatic 208, 3) := by decide +kernel
theorem gdX12_acts_86 : decode cX12_acts 86 = .ok (.ifCond .eq 7, 3) := by decide +kernel
theorem gdX12_acts_89 : decode cX12_acts 89 = .ok (.iconst 1, 1) := by decide +kernel
theorem gdX12_acts_90 : decode cX12_acts 90 = .ok (.goto 4, 3) := by decide +kernel
theorem gdX12_acts_0 : decode cX12_acts 0 = .ok (.aload_n 0, 1) := by decide +kernel
theorem gdX12_acts_1 : decode cX12_acts 1 = .ok (.iload_n 1, 1) := by decide +kernel
theorem gdX12_acts_2 : decode cX12_acts 2 = .ok (.invokevirtual 223, 3) := by decide +kernel
theorem gdX12_acts_5 : decode cX12_acts 5 = .ok (.istore_n 2, 1) := by decide +kernel
theorem gdX12_acts_6 : decode cX12_acts 6 = .ok (.iload_n 2, 1) := by decide +kernel
theorem gdX12_acts_7 : decode cX12_acts 7 = .ok (.ifCond .ge 5, 3) := by decide +kernel
theorem gdX12_acts_12 : decode cX12_acts 12 = .ok (.aload_n 0, 1) := by decide +kernel
theorem gdX12_acts_13 : decode cX12_acts 13 = .ok (.getfield 13, 3) := by decide +kernel
theorem gdX12_acts_16 : decode cX12_acts 16 = .ok (.iload_n 1, 1) := by decide +kernel
theorem gdX12_acts_17 : decode cX12_acts 17 = .ok (.iaload, 1) := by decide +kernel
theorem gdX12_acts_18 : decode cX12_acts 18 = .ok (.iconst 3, 1) := by decide +kernel
theorem gdX12_acts_19 : decode cX12_acts 19 = .ok (.idiv, 1) := by decide +kernel
theorem gdX12_acts_20 : decode cX12_acts 20 = .ok (.istore_n 3, 1) := by decide +kernel
theorem gdX12_acts_21 : decode cX12_acts 21 = .ok (.aload_n 0, 1) := by decide +kernel
theorem gdX12_acts_22 : decode cX12_acts 22 = .ok (.getfield 13, 3) := by decide +kernel
theorem gdX12_acts_25 : decode cX12_acts 25 = .ok (.iload_n 1, 1) := by decide +kernel
theorem gdX12_acts_26 : decode cX12_acts 26 = .ok (.iaload, 1) := by decide +kernel
theorem gdX12_acts_27 : decode cX12_acts 27 = .ok (.iconst 3, 1) := by decide +kernel
theorem gdX12_acts_28 : decode cX12_acts 28 = .ok (.irem, 1) := by decide +kernel
theorem gdX12_acts_29 : decode cX12_acts 29 = .ok (.ifCond .ne 13, 3) := by decide +kernel
theorem gdX12_acts_32 : decode cX12_acts 32 = .ok (.iload_n 3, 1) := by decide +kernel
theorem gdX12_acts_33 : decode cX12_acts 33 = .ok (.iconst 1, 1) := by decide +kernel
theorem gdX12_acts_34 : decode cX12_acts 34 = .ok (.bipush 13, 2) := by decide +kernel
theorem gdX12_acts_36 : decode cX12_acts 36 = .ok (.invokestatic 208, 3) := by decide +kernel
theorem gdX12_acts_39 : decode cX12_acts 39 = .ok (.ifCond .ne 9, 3) := by decide +kernel
theorem gdX12_acts_48 : decode cX12_acts 48 = .ok (.iconst 1, 1) := by decide +kernel
theorem gdX12_acts_49 : decode cX12_acts 49 = .ok (.istore 4, 2) := by decide +kernel
theorem gdX12_acts_51 : decode cX12_acts 51 = .ok (.iconst 0, 1) := by decide +kernel
theorem gdX12_acts_52 : decode cX12_acts 52 = .ok (.istore 5, 2) := by decide +kernel
theorem gdX12_acts_10 : decode cX12_acts 10 = .ok (.iload_n 2, 1) := by decide +kernel
theorem gdX12_acts_11 : decode cX12_acts 11 = .ok (.ireturn, 1) := by decide +kernel
theorem gdX12_asked_0 : decode cX12_asked 0 = .ok (.aload_n 0, 1) := by decide +kernel
theorem gdX12_asked_1 : decode cX12_asked 1 = .ok (.getfield 205, 3) := by decide +kernel
theorem gdX12_asked_4 : decode cX12_asked 4 = .ok (.ireturn, 1) := by decide +kernel
theorem gdX12_askedWeights_18 : decode cX12_askedWeights 18 = .ok (.aload_n 0, 1) := by decide +kernel
theorem gdX12_askedWeights_19 : decode cX12_askedWeights 19 = .ok (.iconst 1, 1) := by decide +kernel
theorem gdX12_askedWeights_20 : decode cX12_askedWeights 20 = .ok (.invokevirtual 216, 3) := by decide +kernel
theorem gdX12_askedWeights_23 : decode cX12_askedWeights 23 = .ok (.ireturn, 1) := by decide +kernel
theorem gdX12_askedWeights_101 : decode cX12_askedWeights 101 = .ok (.ireturn, 1) := by decide +kernel
theorem gdX12_askedWeights_88 : decode cX12_askedWeights 88 = .ok (.iload_n 3, 1) := by decide +kernel
theorem gdX12_askedWeights_89 : decode cX12_askedWeights 89 = .ok (.ifCond .eq 7, 3) := by decide +kernel
theorem gdX12_askedWeights_96 : decode cX12_askedWeights 96 = .ok (.aload_n 0, 1) := by decide +kernel
theorem gdX12_askedWeights_97 : decode cX12_askedWeights 97 = .ok (.iconst 3, 1) := by decide +kernel
theorem gdX12_askedWeights_98 : decode cX12_askedWeights 98 = .ok (.invokevirtual 216, 3) := by decide +kernel
theorem gdX12_askedWeights_92 : decode cX12_askedWeights 92 = .ok (.iconst 0, 1) := by decide +kernel
theorem gdX12_askedWeights_93 : decode cX12_askedWeights 93 = .ok (.goto 8, 3) := by decide +kernel
theorem gdX12_askedWeights_81 : decode cX12_askedWeights 81 = .ok (.istore_n 3, 1) := by decide +kernel
theorem gdX12_askedWeights_82 : decode cX12_askedWeights 82 = .ok (.iinc 4 1, 3) := by decide +kernel
theorem gdX12_askedWeights_85 : decode cX12_askedWeights 85 = .ok (.goto (-40), 3) := by decide +kernel
theorem gdX12_askedWeights_80 : decode cX12_askedWeights 80 = .ok (.iconst 0, 1) := by decide +kernel
theorem gdX12_askedWeights_45 : decode cX12_askedWeights 45 = .ok (.iload 4, 2) := by decide +kernel
theorem gdX12_askedWeights_47 : decode cX12_askedWeights 47 = .ok (.iconst 4, 1) := by decide +kernel
theorem gdX12_askedWeights_48 : decode cX12_askedWeights 48 = .ok (.if_icmp .ge 40, 3) := by decide +kernel
theorem gdX12_askedWeights_51 : decode cX12_askedWeights 51 = .ok (.iload_n 3, 1) := by decide +kernel
theorem gdX12_askedWeights_52 : decode cX12_askedWeights 52 = .ok (.ifCond .eq 28, 3) := by decide +kernel
theorem gdX12_askedWeights_55 : decode cX12_askedWeights 55 = .ok (.aload_n 0, 1) := by decide +kernel
theorem gdX12_askedWeights_56 : decode cX12_askedWeights 56 = .ok (.getfield 16, 3) := by decide +kernel
theorem gdX12_askedWeights_59 : decode cX12_askedWeights 59 = .ok (.bipush 40, 2) := by decide +kernel
theorem gdX12_askedWeights_61 : decode cX12_askedWeights 61 = .ok (.iload_n 1, 1) := by decide +kernel
theorem gdX12_askedWeights_62 : decode cX12_askedWeights 62 = .ok (.imul, 1) := by decide +kernel
theorem gdX12_askedWeights_63 : decode cX12_askedWeights 63 = .ok (.iload 4, 2) := by decide +kernel
theorem gdX12_askedWeights_65 : decode cX12_askedWeights 65 = .ok (.iadd, 1) := by decide +kernel
theorem gdX12_askedWeights_66 : decode cX12_askedWeights 66 = .ok (.iaload, 1) := by decide +kernel
theorem gdX12_askedWeights_67 : decode cX12_askedWeights 67 = .ok (.iconst 0, 1) := by decide +kernel
theorem gdX12_askedWeights_68 : decode cX12_askedWeights 68 = .ok (.bipush 100, 2) := by decide +kernel
theorem gdX12_askedWeights_70 : decode cX12_askedWeights 70 = .ok (.invokestatic 208, 3) := by decide +kernel
theorem gdX12_askedWeights_73 : decode cX12_askedWeights 73 = .ok (.ifCond .eq 7, 3) := by decide +kernel
theorem gdX12_askedWeights_76 : decode cX12_askedWeights 76 = .ok (.iconst 1, 1) := by decide +kernel
theorem gdX12_askedWeights_77 : decode cX12_askedWeights 77 = .ok (.goto 4, 3) := by decide +kernel
theorem gdX12_askedWeights_0 : decode cX12_askedWeights 0 = .ok (.aload_n 0, 1) := by decide +kernel
theorem gdX12_askedWeights_1 : decode cX12_askedWeights 1 = .ok (.getfield 13, 3) := by decide +kernel
theorem gdX12_askedWeights_4 : decode cX12_askedWeights 4 = .ok (.iload_n 1, 1) := by decide +kernel
theorem gdX12_askedWeights_5 : decode cX12_askedWeights 5 = .ok (.iaload, 1) := by decide +kernel
theorem gdX12_askedWeights_6 : decode cX12_askedWeights 6 = .ok (.ifCond .lt 12, 3) := by decide +kernel
theorem gdX12_askedWeights_9 : decode cX12_askedWeights 9 = .ok (.aload_n 0, 1) := by decide +kernel
theorem gdX12_askedWeights_10 : decode cX12_askedWeights 10 = .ok (.getfield 13, 3) := by decide +kernel
theorem gdX12_askedWeights_13 : decode cX12_askedWeights 13 = .ok (.iload_n 2, 1) := by decide +kernel
theorem gdX12_askedWeights_14 : decode cX12_askedWeights 14 = .ok (.iaload, 1) := by decide +kernel
theorem gdX12_askedWeights_15 : decode cX12_askedWeights 15 = .ok (.ifCond .ge 9, 3) := by decide +kernel
theorem gdX12_askedWeights_24 : decode cX12_askedWeights 24 = .ok (.aload_n 0, 1) := by decide +kernel
theorem gdX12_askedWeights_25 : decode cX12_askedWeights 25 = .ok (.getfield 13, 3) := by decide +kernel
theorem gdX12_askedWeights_28 : decode cX12_askedWeights 28 = .ok (.iload_n 1, 1) := by decide +kernel
theorem gdX12_askedWeights_29 : decode cX12_askedWeights 29 = .ok (.iaload, 1) := by decide +kernel
theorem gdX12_askedWeights_30 : decode cX12_askedWeights 30 = .ok (.iconst 4, 1) := by decide +kernel
theorem gdX12_askedWeights_31 : decode cX12_askedWeights 31 = .ok (.if_icmp .eq 9, 3) := by decide +kernel
theorem gdX12_askedWeights_40 : decode cX12_askedWeights 40 = .ok (.iconst 1, 1) := by decide +kernel
theorem gdX12_askedWeights_41 : decode cX12_askedWeights 41 = .ok (.istore_n 3, 1) := by decide +kernel
theorem gdX12_askedWeights_42 : decode cX12_askedWeights 42 = .ok (.iconst 0, 1) := by decide +kernel
theorem gdX12_askedWeights_43 : decode cX12_askedWeights 43 = .ok (.istore 4, 2) := by decide +kernel
theorem gdX12_askedWeights_34 : decode cX12_askedWeights 34 = .ok (.aload_n 0, 1) := by decide +kernel
theorem gdX12_askedWeights_35 : decode cX12_askedWeights 35 = .ok (.iconst 5, 1) := by decide +kernel
theorem gdX12_askedWeights_36 : decode cX12_askedWeights 36 = .ok (.invokevirtual 216, 3) := by decide +kernel
theorem gdX12_askedWeights_39 : decode cX12_askedWeights 39 = .ok (.ireturn, 1) := by decide +kernel
theorem gdX12_cellsOf_39 : decode cX12_cellsOf 39 = .ok (.lload_n 2, 1) := by decide +kernel
theorem gdX12_cellsOf_40 : decode cX12_cellsOf 40 = .ok (.lreturn, 1) := by decide +kernel
theorem gdX12_cellsOf_5 : decode cX12_cellsOf 5 = .ok (.iload 4, 2) := by decide +kernel
theorem gdX12_cellsOf_7 : decode cX12_cellsOf 7 = .ok (.aload_n 0, 1) := by decide +kernel
theorem gdX12_cellsOf_8 : decode cX12_cellsOf 8 = .ok (.getfield 98, 3) := by decide +kernel
theorem gdX12_cellsOf_11 : decode cX12_cellsOf 11 = .ok (.iload_n 1, 1) := by decide +kernel
theorem gdX12_cellsOf_12 : decode cX12_cellsOf 12 = .ok (.iaload, 1) := by decide +kernel
theorem gdX12_cellsOf_13 : decode cX12_cellsOf 13 = .ok (.if_icmp .ge 26, 3) := by decide +kernel
theorem gdX12_cellsOf_16 : decode cX12_cellsOf 16 = .ok (.lload_n 2, 1) := by decide +kernel
theorem gdX12_cellsOf_17 : decode cX12_cellsOf 17 = .ok (.lconst 1, 1) := by decide +kernel
theorem gdX12_cellsOf_18 : decode cX12_cellsOf 18 = .ok (.aload_n 0, 1) := by decide +kernel
theorem gdX12_cellsOf_19 : decode cX12_cellsOf 19 = .ok (.getfield 101, 3) := by decide +kernel
theorem gdX12_cellsOf_22 : decode cX12_cellsOf 22 = .ok (.bipush 64, 2) := by decide +kernel
theorem gdX12_cellsOf_24 : decode cX12_cellsOf 24 = .ok (.iload_n 1, 1) := by decide +kernel
theorem gdX12_cellsOf_25 : decode cX12_cellsOf 25 = .ok (.imul, 1) := by decide +kernel
theorem gdX12_cellsOf_26 : decode cX12_cellsOf 26 = .ok (.iload 4, 2) := by decide +kernel
theorem gdX12_cellsOf_28 : decode cX12_cellsOf 28 = .ok (.iadd, 1) := by decide +kernel
theorem gdX12_cellsOf_29 : decode cX12_cellsOf 29 = .ok (.iaload, 1) := by decide +kernel
theorem gdX12_cellsOf_30 : decode cX12_cellsOf 30 = .ok (.lshl, 1) := by decide +kernel
theorem gdX12_cellsOf_31 : decode cX12_cellsOf 31 = .ok (.lor, 1) := by decide +kernel
theorem gdX12_cellsOf_32 : decode cX12_cellsOf 32 = .ok (.lstore_n 2, 1) := by decide +kernel
theorem gdX12_cellsOf_33 : decode cX12_cellsOf 33 = .ok (.iinc 4 1, 3) := by decide +kernel
theorem gdX12_cellsOf_36 : decode cX12_cellsOf 36 = .ok (.goto (-31), 3) := by decide +kernel
theorem gdX12_cellsOf_0 : decode cX12_cellsOf 0 = .ok (.lconst 0, 1) := by decide +kernel
theorem gdX12_cellsOf_1 : decode cX12_cellsOf 1 = .ok (.lstore_n 2, 1) := by decide +kernel
theorem gdX12_cellsOf_2 : decode cX12_cellsOf 2 = .ok (.iconst 0, 1) := by decide +kernel
theorem gdX12_cellsOf_3 : decode cX12_cellsOf 3 = .ok (.istore 4, 2) := by decide +kernel
theorem gdX12_has_15 : decode cX12_has 15 = .ok (.ireturn, 1) := by decide +kernel
theorem gdX12_has_0 : decode cX12_has 0 = .ok (.lload_n 0, 1) := by decide +kernel
theorem gdX12_has_1 : decode cX12_has 1 = .ok (.iload_n 2, 1) := by decide +kernel
theorem gdX12_has_2 : decode cX12_has 2 = .ok (.lshr, 1) := by decide +kernel
theorem gdX12_has_3 : decode cX12_has 3 = .ok (.lconst 1, 1) := by decide +kernel
theorem gdX12_has_4 : decode cX12_has 4 = .ok (.land, 1) := by decide +kernel
theorem gdX12_has_5 : decode cX12_has 5 = .ok (.lconst 1, 1) := by decide +kernel
theorem gdX12_has_6 : decode cX12_has 6 = .ok (.lcmp, 1) := by decide +kernel
theorem gdX12_has_7 : decode cX12_has 7 = .ok (.ifCond .ne 7, 3) := by decide +kernel
theorem gdX12_has_14 : decode cX12_has 14 = .ok (.iconst 0, 1) := by decide +kernel
theorem gdX12_has_10 : decode cX12_has 10 = .ok (.iconst 1, 1) := by decide +kernel
theorem gdX12_has_11 : decode cX12_has 11 = .ok (.goto 4, 3) := by decide +kernel
theorem gdX12_parks_48 : decode cX12_parks 48 = .ok (.iload_n 2, 1) := by decide +kernel
theorem gdX12_parks_49 : decode cX12_parks 49 = .ok (.ireturn, 1) := by decide +kernel
theorem gdX12_parks_40 : decode cX12_parks 40 = .ok (.iadd, 1) := by decide +kernel
theorem gdX12_parks_41 : decode cX12_parks 41 = .ok (.istore_n 2, 1) := by decide +kernel
theorem gdX12_parks_42 : decode cX12_parks 42 = .ok (.iinc 3 1, 3) := by decide +kernel
theorem gdX12_parks_45 : decode cX12_parks 45 = .ok (.goto (-41), 3) := by decide +kernel
theorem gdX12_parks_4 : decode cX12_parks 4 = .ok (.iload_n 3, 1) := by decide +kernel
theorem gdX12_parks_5 : decode cX12_parks 5 = .ok (.aload_n 0, 1) := by decide +kernel
theorem gdX12_parks_6 : decode cX12_parks 6 = .ok (.getfield 98, 3) := by decide +kernel
theorem gdX12_parks_9 : decode cX12_parks 9 = .ok (.iload_n 1, 1) := by decide +kernel
theorem gdX12_parks_10 : decode cX12_parks 10 = .ok (.iaload, 1) := by decide +kernel
theorem gdX12_parks_11 : decode cX12_parks 11 = .ok (.if_icmp .ge 37, 3) := by decide +kernel
theorem gdX12_parks_14 : decode cX12_parks 14 = .ok (.iload_n 2, 1) := by decide +kernel
theorem gdX12_parks_15 : decode cX12_parks 15 = .ok (.aload_n 0, 1) := by decide +kernel
theorem gdX12_parks_16 : decode cX12_parks 16 = .ok (.getfield 40, 3) := by decide +kernel
theorem gdX12_parks_19 : decode cX12_parks 19 = .ok (.aload_n 0, 1) := by decide +kernel
theorem gdX12_parks_20 : decode cX12_parks 20 = .ok (.getfield 101, 3) := by decide +kernel
theorem gdX12_parks_23 : decode cX12_parks 23 = .ok (.bipush 64, 2) := by decide +kernel
theorem gdX12_parks_25 : decode cX12_parks 25 = .ok (.iload_n 1, 1) := by decide +kernel
theorem gdX12_parks_26 : decode cX12_parks 26 = .ok (.imul, 1) := by decide +kernel
theorem gdX12_parks_27 : decode cX12_parks 27 = .ok (.iload_n 3, 1) := by decide +kernel
theorem gdX12_parks_28 : decode cX12_parks 28 = .ok (.iadd, 1) := by decide +kernel
theorem gdX12_parks_29 : decode cX12_parks 29 = .ok (.iaload, 1) := by decide +kernel
theorem gdX12_parks_30 : decode cX12_parks 30 = .ok (.iaload, 1) := by decide +kernel
theorem gdX12_parks_31 : decode cX12_parks 31 = .ok (.iconst 2, 1) := by decide +kernel
theorem gdX12_parks_32 : decode cX12_parks 32 = .ok (.if_icmp .ne 7, 3) := by decide +kernel
theorem gdX12_parks_39 : decode cX12_parks 39 = .ok (.iconst 0, 1) := by decide +kernel
theorem gdX12_parks_35 : decode cX12_parks 35 = .ok (.iconst 1, 1) := by decide +kernel
theorem gdX12_parks_36 : decode cX12_parks 36 = .ok (.goto 4, 3) := by decide +kernel
theorem gdX12_parks_0 : decode cX12_parks 0 = .ok (.iconst 0, 1) := by decide +kernel
theorem gdX12_parks_1 : decode cX12_parks 1 = .ok (.istore_n 2, 1) := by decide +kernel
theorem gdX12_parks_2 : decode cX12_parks 2 = .ok (.iconst 0, 1) := by decide +kernel
theorem gdX12_parks_3 : decode cX12_parks 3 = .ok (.istore_n 3, 1) := by decide +kernel
theorem gdX12_ruleFor_102 : decode cX12_ruleFor 102 = .ok (.iload 4, 2) := by decide +kernel
theorem gdX12_ruleFor_104 : decode cX12_ruleFor 104 = .ok (.ireturn, 1) := by decide +kernel
theorem gdX12_ruleFor_94 : decode cX12_ruleFor 94 = .ok (.istore 4, 2) := by decide +kernel
theorem gdX12_ruleFor_96 : decode cX12_ruleFor 96 = .ok (.iinc 5 1, 3) := by decide +kernel
theorem gdX12_ruleFor_99 : decode cX12_ruleFor 99 = .ok (.goto (-92), 3) := by decide +kernel
theorem gdX12_ruleFor_87 : decode cX12_ruleFor 87 = .ok (.iload 5, 2) := by decide +kernel
theorem gdX12_ruleFor_89 : decode cX12_ruleFor 89 = .ok (.goto 5, 3) := by decide +kernel
theorem gdX12_ruleFor_92 : decode cX12_ruleFor 92 = .ok (.iload 4, 2) := by decide +kernel
theorem gdX12_ruleFor_58 : decode cX12_ruleFor 58 = .ok (.istore 6, 2) := by decide +kernel
theorem gdX12_ruleFor_60 : decode cX12_ruleFor 60 = .ok (.iload 6, 2) := by decide +kernel
theorem gdX12_ruleFor_62 : decode cX12_ruleFor 62 = .ok (.ifCond .eq 30, 3) := by decide +kernel
theorem gdX12_ruleFor_65 : decode cX12_ruleFor 65 = .ok (.iload 4, 2) := by decide +kernel
theorem gdX12_ruleFor_67 : decode cX12_ruleFor 67 = .ok (.ifCond .lt 20, 3) := by decide +kernel
theorem gdX12_ruleFor_70 : decode cX12_ruleFor 70 = .ok (.aload_n 0, 1) := by decide +kernel
theorem gdX12_ruleFor_71 : decode cX12_ruleFor 71 = .ok (.getfield 31, 3) := by decide +kernel
theorem gdX12_ruleFor_74 : decode cX12_ruleFor 74 = .ok (.iload 5, 2) := by decide +kernel
theorem gdX12_ruleFor_76 : decode cX12_ruleFor 76 = .ok (.iaload, 1) := by decide +kernel
theorem gdX12_ruleFor_77 : decode cX12_ruleFor 77 = .ok (.aload_n 0, 1) := by decide +kernel
theorem gdX12_ruleFor_78 : decode cX12_ruleFor 78 = .ok (.getfield 31, 3) := by decide +kernel
theorem gdX12_ruleFor_81 : decode cX12_ruleFor 81 = .ok (.iload 4, 2) := by decide +kernel
theorem gdX12_ruleFor_83 : decode cX12_ruleFor 83 = .ok (.iaload, 1) := by decide +kernel
theorem gdX12_ruleFor_84 : decode cX12_ruleFor 84 = .ok (.if_icmp .lt 8, 3) := by decide +kernel
theorem gdX12_ruleFor_57 : decode cX12_ruleFor 57 = .ok (.iconst 0, 1) := by decide +kernel
theorem gdX12_ruleFor_7 : decode cX12_ruleFor 7 = .ok (.iload 5, 2) := by decide +kernel
theorem gdX12_ruleFor_9 : decode cX12_ruleFor 9 = .ok (.aload_n 0, 1) := by decide +kernel
theorem gdX12_ruleFor_10 : decode cX12_ruleFor 10 = .ok (.getfield 241, 3) := by decide +kernel
theorem gdX12_ruleFor_13 : decode cX12_ruleFor 13 = .ok (.if_icmp .ge 89, 3) := by decide +kernel
theorem gdX12_ruleFor_16 : decode cX12_ruleFor 16 = .ok (.aload_n 0, 1) := by decide +kernel
theorem gdX12_ruleFor_17 : decode cX12_ruleFor 17 = .ok (.getfield 28, 3) := by decide +kernel
theorem gdX12_ruleFor_20 : decode cX12_ruleFor 20 = .ok (.iload 5, 2) := by decide +kernel
theorem gdX12_ruleFor_22 : decode cX12_ruleFor 22 = .ok (.iaload, 1) := by decide +kernel
theorem gdX12_ruleFor_23 : decode cX12_ruleFor 23 = .ok (.iload_n 3, 1) := by decide +kernel
theorem gdX12_ruleFor_24 : decode cX12_ruleFor 24 = .ok (.if_icmp .gt 33, 3) := by decide +kernel
theorem gdX12_ruleFor_27 : decode cX12_ruleFor 27 = .ok (.aload_n 0, 1) := by decide +kernel
theorem gdX12_ruleFor_28 : decode cX12_ruleFor 28 = .ok (.getfield 31, 3) := by decide +kernel
theorem gdX12_ruleFor_31 : decode cX12_ruleFor 31 = .ok (.iload 5, 2) := by decide +kernel
theorem gdX12_ruleFor_33 : decode cX12_ruleFor 33 = .ok (.iaload, 1) := by decide +kernel
theorem gdX12_ruleFor_34 : decode cX12_ruleFor 34 = .ok (.iload_n 2, 1) := by decide +kernel
theorem gdX12_ruleFor_35 : decode cX12_ruleFor 35 = .ok (.if_icmp .gt 22, 3) := by decide +kernel
theorem gdX12_ruleFor_38 : decode cX12_ruleFor 38 = .ok (.aload_n 0, 1) := by decide +kernel
theorem gdX12_ruleFor_39 : decode cX12_ruleFor 39 = .ok (.getfield 34, 3) := by decide +kernel
theorem gdX12_ruleFor_42 : decode cX12_ruleFor 42 = .ok (.bipush 8, 2) := by decide +kernel
theorem gdX12_ruleFor_44 : decode cX12_ruleFor 44 = .ok (.iload 5, 2) := by decide +kernel
theorem gdX12_ruleFor_46 : decode cX12_ruleFor 46 = .ok (.imul, 1) := by decide +kernel
theorem gdX12_ruleFor_47 : decode cX12_ruleFor 47 = .ok (.iload_n 1, 1) := by decide +kernel
theorem gdX12_ruleFor_48 : decode cX12_ruleFor 48 = .ok (.iadd, 1) := by decide +kernel
theorem gdX12_ruleFor_49 : decode cX12_ruleFor 49 = .ok (.iaload, 1) := by decide +kernel
theorem gdX12_ruleFor_50 : decode cX12_ruleFor 50 = .ok (.ifCond .lt 7, 3) := by decide +kernel
theorem gdX12_ruleFor_53 : decode cX12_ruleFor 53 = .ok (.iconst 1, 1) := by decide +kernel
theorem gdX12_ruleFor_54 : decode cX12_ruleFor 54 = .ok (.goto 4, 3) := by decide +kernel
theorem gdX12_ruleFor_0 : decode cX12_ruleFor 0 = .ok (.bipush (-9), 2) := by decide +kernel
theorem gdX12_ruleFor_2 : decode cX12_ruleFor 2 = .ok (.istore 4, 2) := by decide +kernel
theorem gdX12_ruleFor_4 : decode cX12_ruleFor 4 = .ok (.iconst 0, 1) := by decide +kernel
theorem gdX12_ruleFor_5 : decode cX12_ruleFor 5 = .ok (.istore 5, 2) := by decide +kernel
theorem gdX12_inForce_0 : decode cX12_inForce 0 = .ok (.aload_n 0, 1) := by decide +kernel
theorem gdX12_inForce_1 : decode cX12_inForce 1 = .ok (.iload_n 1, 1) := by decide +kernel
theorem gdX12_inForce_2 : decode cX12_inForce 2 = .ok (.iload_n 2, 1) := by decide +kernel
theorem gdX12_inForce_3 : decode cX12_inForce 3 = .ok (.iload_n 3, 1) := by decide +kernel
theorem gdX12_inForce_4 : decode cX12_inForce 4 = .ok (.invokevirtual 244, 3) := by decide +kernel
theorem gdX12_inForce_7 : decode cX12_inForce 7 = .ok (.istore 4, 2) := by decide +kernel
theorem gdX12_inForce_9 : decode cX12_inForce 9 = .ok (.iload 4, 2) := by decide +kernel
theorem gdX12_inForce_11 : decode cX12_inForce 11 = .ok (.ifCond .lt 16, 3) := by decide +kernel
theorem gdX12_inForce_27 : decode cX12_inForce 27 = .ok (.iload_n 1, 1) := by decide +kernel
theorem gdX12_inForce_28 : decode cX12_inForce 28 = .ok (.tableswitch 63 0 6 #[44, 47, 50, 53, 56, 58, 61], 44) := by decide +kernel
theorem gdX12_inForce_72 : decode cX12_inForce 72 = .ok (.bipush 10, 2) := by decide +kernel
theorem gdX12_inForce_74 : decode cX12_inForce 74 = .ok (.ireturn, 1) := by decide +kernel
theorem gdX12_inForce_75 : decode cX12_inForce 75 = .ok (.bipush 20, 2) := by decide +kernel
theorem gdX12_inForce_77 : decode cX12_inForce 77 = .ok (.ireturn, 1) := by decide +kernel
theorem gdX12_inForce_78 : decode cX12_inForce 78 = .ok (.bipush 100, 2) := by decide +kernel
theorem gdX12_inForce_80 : decode cX12_inForce 80 = .ok (.ireturn, 1) := by decide +kernel
theorem gdX12_inForce_81 : decode cX12_inForce 81 = .ok (.bipush 50, 2) := by decide +kernel
theorem gdX12_inForce_83 : decode cX12_inForce 83 = .ok (.ireturn, 1) := by decide +kernel
theorem gdX12_inForce_84 : decode cX12_inForce 84 = .ok (.iconst 2, 1) := by decide +kernel
theorem gdX12_inForce_85 : decode cX12_inForce 85 = .ok (.ireturn, 1) := by decide +kernel
theorem gdX12_inForce_86 : decode cX12_inForce 86 = .ok (.bipush 60, 2) := by decide +kernel
theorem gdX12_inForce_88 : decode cX12_inForce 88 = .ok (.ireturn, 1) := by decide +kernel
theorem gdX12_inForce_89 : decode cX12_inForce 89 = .ok (.iconst 3, 1) := by decide +kernel
theorem gdX12_inForce_90 : decode cX12_inForce 90 = .ok (.ireturn, 1) := by decide +kernel
theorem gdX12_inForce_91 : decode cX12_inForce 91 = .ok (.bipush 7, 2) := by decide +kernel
theorem gdX12_inForce_93 : decode cX12_inForce 93 = .ok (.ireturn, 1) := by decide +kernel
theorem gdX12_inForce_14 : decode cX12_inForce 14 = .ok (.aload_n 0, 1) := by decide +kernel
theorem gdX12_inForce_15 : decode cX12_inForce 15 = .ok (.getfield 34, 3) := by decide +kernel
theorem gdX12_inForce_18 : decode cX12_inForce 18 = .ok (.bipush 8, 2) := by decide +kernel
theorem gdX12_inForce_20 : decode cX12_inForce 20 = .ok (.iload 4, 2) := by decide +kernel
theorem gdX12_inForce_22 : decode cX12_inForce 22 = .ok (.imul, 1) := by decide +kernel
theorem gdX12_inForce_23 : decode cX12_inForce 23 = .ok (.iload_n 1, 1) := by decide +kernel
theorem gdX12_inForce_24 : decode cX12_inForce 24 = .ok (.iadd, 1) := by decide +kernel
theorem gdX12_inForce_25 : decode cX12_inForce 25 = .ok (.iaload, 1) := by decide +kernel
theorem gdX12_inForce_26 : decode cX12_inForce 26 = .ok (.ireturn, 1) := by decide +kernel
theorem gdX12_nowInForce_0 : decode cX12_nowInForce 0 = .ok (.aload_n 0, 1) := by decide +kernel
theorem gdX12_nowInForce_1 : decode cX12_nowInForce 1 = .ok (.iload_n 1, 1) := by decide +kernel
theorem gdX12_nowInForce_2 : decode cX12_nowInForce 2 = .ok (.aload_n 0, 1) := by decide +kernel
theorem gdX12_nowInForce_3 : decode cX12_nowInForce 3 = .ok (.getfield 229, 3) := by decide +kernel
theorem gdX12_nowInForce_6 : decode cX12_nowInForce 6 = .ok (.aload_n 0, 1) := by decide +kernel
theorem gdX12_nowInForce_7 : decode cX12_nowInForce 7 = .ok (.getfield 229, 3) := by decide +kernel
theorem gdX12_nowInForce_10 : decode cX12_nowInForce 10 = .ok (.invokevirtual 248, 3) := by decide +kernel
theorem gdX12_nowInForce_13 : decode cX12_nowInForce 13 = .ok (.ireturn, 1) := by decide +kernel
theorem gdX12_apart_40 : decode cX12_apart 40 = .ok (.iadd, 1) := by decide +kernel
theorem gdX12_apart_41 : decode cX12_apart 41 = .ok (.ireturn, 1) := by decide +kernel
theorem gdX12_apart_30 : decode cX12_apart 30 = .ok (.iload_n 3, 1) := by decide +kernel
theorem gdX12_apart_31 : decode cX12_apart 31 = .ok (.ifCond .ge 8, 3) := by decide +kernel
theorem gdX12_apart_39 : decode cX12_apart 39 = .ok (.iload_n 3, 1) := by decide +kernel
theorem gdX12_apart_34 : decode cX12_apart 34 = .ok (.iload_n 3, 1) := by decide +kernel
theorem gdX12_apart_35 : decode cX12_apart 35 = .ok (.ineg, 1) := by decide +kernel
theorem gdX12_apart_36 : decode cX12_apart 36 = .ok (.goto 4, 3) := by decide +kernel
theorem gdX12_apart_0 : decode cX12_apart 0 = .ok (.iload_n 0, 1) := by decide +kernel
theorem gdX12_apart_1 : decode cX12_apart 1 = .ok (.bipush 8, 2) := by decide +kernel
theorem gdX12_apart_3 : decode cX12_apart 3 = .ok (.irem, 1) := by decide +kernel
theorem gdX12_apart_4 : decode cX12_apart 4 = .ok (.iload_n 1, 1) := by decide +kernel
theorem gdX12_apart_5 : decode cX12_apart 5 = .ok (.bipush 8, 2) := by decide +kernel
theorem gdX12_apart_7 : decode cX12_apart 7 = .ok (.irem, 1) := by decide +kernel
theorem gdX12_apart_8 : decode cX12_apart 8 = .ok (.isub, 1) := by decide +kernel
theorem gdX12_apart_9 : decode cX12_apart 9 = .ok (.istore_n 2, 1) := by decide +kernel
theorem gdX12_apart_10 : decode cX12_apart 10 = .ok (.iload_n 0, 1) := by decide +kernel
theorem gdX12_apart_11 : decode cX12_apart 11 = .ok (.bipush 8, 2) := by decide +kernel
theorem gdX12_apart_13 : decode cX12_apart 13 = .ok (.idiv, 1) := by decide +kernel
theorem gdX12_apart_14 : decode cX12_apart 14 = .ok (.iload_n 1, 1) := by decide +kernel
theorem gdX12_apart_15 : decode cX12_apart 15 = .ok (.bipush 8, 2) := by decide +kernel
theorem gdX12_apart_17 : decode cX12_apart 17 = .ok (.idiv, 1) := by decide +kernel
theorem gdX12_apart_18 : decode cX12_apart 18 = .ok (.isub, 1) := by decide +kernel
theorem gdX12_apart_19 : decode cX12_apart 19 = .ok (.istore_n 3, 1) := by decide +kernel
theorem gdX12_apart_20 : decode cX12_apart 20 = .ok (.iload_n 2, 1) := by decide +kernel
theorem gdX12_apart_21 : decode cX12_apart 21 = .ok (.ifCond .ge 8, 3) := by decide +kernel
theorem gdX12_apart_29 : decode cX12_apart 29 = .ok (.iload_n 2, 1) := by decide +kernel
theorem gdX12_apart_24 : decode cX12_apart 24 = .ok (.iload_n 2, 1) := by decide +kernel
theorem gdX12_apart_25 : decode cX12_apart 25 = .ok (.ineg, 1) := by decide +kernel
theorem gdX12_apart_26 : decode cX12_apart 26 = .ok (.goto 4, 3) := by decide +kernel
theorem gdX12_noiseOf_86 : decode cX12_noiseOf 86 = .ok (.ireturn, 1) := by decide +kernel
theorem gdX12_noiseOf_59 : decode cX12_noiseOf 59 = .ok (.iload 4, 2) := by decide +kernel
theorem gdX12_noiseOf_61 : decode cX12_noiseOf 61 = .ok (.aload_n 0, 1) := by decide +kernel
theorem gdX12_noiseOf_62 : decode cX12_noiseOf 62 = .ok (.getfield 13, 3) := by decide +kernel
theorem gdX12_noiseOf_65 : decode cX12_noiseOf 65 = .ok (.iload_n 3, 1) := by decide +kernel
theorem gdX12_noiseOf_66 : decode cX12_noiseOf 66 = .ok (.iaload, 1) := by decide +kernel
theorem gdX12_noiseOf_67 : decode cX12_noiseOf 67 = .ok (.if_icmp .ge 18, 3) := by decide +kernel
theorem gdX12_noiseOf_85 : decode cX12_noiseOf 85 = .ok (.iconst 0, 1) := by decide +kernel
theorem gdX12_noiseOf_70 : decode cX12_noiseOf 70 = .ok (.aload_n 0, 1) := by decide +kernel
theorem gdX12_noiseOf_71 : decode cX12_noiseOf 71 = .ok (.getfield 16, 3) := by decide +kernel
theorem gdX12_noiseOf_74 : decode cX12_noiseOf 74 = .ok (.bipush 40, 2) := by decide +kernel
theorem gdX12_noiseOf_76 : decode cX12_noiseOf 76 = .ok (.iload_n 3, 1) := by decide +kernel
theorem gdX12_noiseOf_77 : decode cX12_noiseOf 77 = .ok (.imul, 1) := by decide +kernel
theorem gdX12_noiseOf_78 : decode cX12_noiseOf 78 = .ok (.iload 4, 2) := by decide +kernel
theorem gdX12_noiseOf_80 : decode cX12_noiseOf 80 = .ok (.iadd, 1) := by decide +kernel
theorem gdX12_noiseOf_81 : decode cX12_noiseOf 81 = .ok (.iaload, 1) := by decide +kernel
theorem gdX12_noiseOf_82 : decode cX12_noiseOf 82 = .ok (.goto 4, 3) := by decide +kernel
theorem gdX12_noiseOf_51 : decode cX12_noiseOf 51 = .ok (.istore 4, 2) := by decide +kernel
theorem gdX12_noiseOf_53 : decode cX12_noiseOf 53 = .ok (.iinc 5 1, 3) := by decide +kernel
theorem gdX12_noiseOf_56 : decode cX12_noiseOf 56 = .ok (.goto (-48), 3) := by decide +kernel
theorem gdX12_noiseOf_8 : decode cX12_noiseOf 8 = .ok (.iload 5, 2) := by decide +kernel
theorem gdX12_noiseOf_10 : decode cX12_noiseOf 10 = .ok (.aload_n 0, 1) := by decide +kernel
theorem gdX12_noiseOf_11 : decode cX12_noiseOf 11 = .ok (.getfield 98, 3) := by decide +kernel
theorem gdX12_noiseOf_14 : decode cX12_noiseOf 14 = .ok (.iload_n 1, 1) := by decide +kernel
theorem gdX12_noiseOf_15 : decode cX12_noiseOf 15 = .ok (.iaload, 1) := by decide +kernel
theorem gdX12_noiseOf_16 : decode cX12_noiseOf 16 = .ok (.if_icmp .ge 43, 3) := by decide +kernel
theorem gdX12_noiseOf_19 : decode cX12_noiseOf 19 = .ok (.aload_n 0, 1) := by decide +kernel
theorem gdX12_noiseOf_20 : decode cX12_noiseOf 20 = .ok (.getfield 101, 3) := by decide +kernel
theorem gdX12_noiseOf_23 : decode cX12_noiseOf 23 = .ok (.bipush 64, 2) := by decide +kernel
theorem gdX12_noiseOf_25 : decode cX12_noiseOf 25 = .ok (.iload_n 1, 1) := by decide +kernel
theorem gdX12_noiseOf_26 : decode cX12_noiseOf 26 = .ok (.imul, 1) := by decide +kernel
theorem gdX12_noiseOf_27 : decode cX12_noiseOf 27 = .ok (.iload 5, 2) := by decide +kernel
theorem gdX12_noiseOf_29 : decode cX12_noiseOf 29 = .ok (.iadd, 1) := by decide +kernel
theorem gdX12_noiseOf_30 : decode cX12_noiseOf 30 = .ok (.iaload, 1) := by decide +kernel
theorem gdX12_noiseOf_31 : decode cX12_noiseOf 31 = .ok (.iload_n 2, 1) := by decide +kernel
theorem gdX12_noiseOf_32 : decode cX12_noiseOf 32 = .ok (.invokestatic 337, 3) := by decide +kernel
theorem gdX12_noiseOf_35 : decode cX12_noiseOf 35 = .ok (.istore 6, 2) := by decide +kernel
theorem gdX12_noiseOf_37 : decode cX12_noiseOf 37 = .ok (.iload 6, 2) := by decide +kernel
theorem gdX12_noiseOf_39 : decode cX12_noiseOf 39 = .ok (.iload 4, 2) := by decide +kernel
theorem gdX12_noiseOf_41 : decode cX12_noiseOf 41 = .ok (.if_icmp .ge 8, 3) := by decide +kernel
theorem gdX12_noiseOf_49 : decode cX12_noiseOf 49 = .ok (.iload 4, 2) := by decide +kernel
theorem gdX12_noiseOf_44 : decode cX12_noiseOf 44 = .ok (.iload 6, 2) := by decide +kernel
theorem gdX12_noiseOf_46 : decode cX12_noiseOf 46 = .ok (.goto 5, 3) := by decide +kernel
theorem gdX12_noiseOf_0 : decode cX12_noiseOf 0 = .ok (.ldc_w 314, 3) := by decide +kernel
theorem gdX12_noiseOf_3 : decode cX12_noiseOf 3 = .ok (.istore 4, 2) := by decide +kernel
theorem gdX12_noiseOf_5 : decode cX12_noiseOf 5 = .ok (.iconst 0, 1) := by decide +kernel
theorem gdX12_noiseOf_6 : decode cX12_noiseOf 6 = .ok (.istore 5, 2) := by decide +kernel
theorem gdX12_living_36 : decode cX12_living 36 = .ok (.iload_n 2, 1) := by decide +kernel
theorem gdX12_living_37 : decode cX12_living 37 = .ok (.ireturn, 1) := by decide +kernel
theorem gdX12_living_28 : decode cX12_living 28 = .ok (.iadd, 1) := by decide +kernel
theorem gdX12_living_29 : decode cX12_living 29 = .ok (.istore_n 2, 1) := by decide +kernel
theorem gdX12_living_30 : decode cX12_living 30 = .ok (.iinc 3 1, 3) := by decide +kernel
theorem gdX12_living_33 : decode cX12_living 33 = .ok (.goto (-29), 3) := by decide +kernel
theorem gdX12_living_4 : decode cX12_living 4 = .ok (.iload_n 3, 1) := by decide +kernel
theorem gdX12_living_5 : decode cX12_living 5 = .ok (.aload_n 0, 1) := by decide +kernel
theorem gdX12_living_6 : decode cX12_living 6 = .ok (.getfield 281, 3) := by decide +kernel
theorem gdX12_living_9 : decode cX12_living 9 = .ok (.if_icmp .ge 27, 3) := by decide +kernel
theorem gdX12_living_12 : decode cX12_living 12 = .ok (.iload_n 2, 1) := by decide +kernel
theorem gdX12_living_13 : decode cX12_living 13 = .ok (.aload_n 0, 1) := by decide +kernel
theorem gdX12_living_14 : decode cX12_living 14 = .ok (.getfield 71, 3) := by decide +kernel
theorem gdX12_living_17 : decode cX12_living 17 = .ok (.iload_n 3, 1) := by decide +kernel
theorem gdX12_living_18 : decode cX12_living 18 = .ok (.iaload, 1) := by decide +kernel
theorem gdX12_living_19 : decode cX12_living 19 = .ok (.iload_n 1, 1) := by decide +kernel
theorem gdX12_living_20 : decode cX12_living 20 = .ok (.if_icmp .ne 7, 3) := by decide +kernel
theorem gdX12_living_27 : decode cX12_living 27 = .ok (.iconst 0, 1) := by decide +kernel
theorem gdX12_living_23 : decode cX12_living 23 = .ok (.iconst 1, 1) := by decide +kernel
theorem gdX12_living_24 : decode cX12_living 24 = .ok (.goto 4, 3) := by decide +kernel
theorem gdX12_living_0 : decode cX12_living 0 = .ok (.iconst 0, 1) := by decide +kernel
theorem gdX12_living_1 : decode cX12_living 1 = .ok (.istore_n 2, 1) := by decide +kernel
theorem gdX12_living_2 : decode cX12_living 2 = .ok (.iconst 0, 1) := by decide +kernel
theorem gdX12_living_3 : decode cX12_living 3 = .ok (.istore_n 3, 1) := by decide +kernel
theorem gdX12_loud_101 : decode cX12_loud 101 = .ok (.iload 5, 2) := by decide +kernel
theorem gdX12_loud_103 : decode cX12_loud 103 = .ok (.ireturn, 1) := by decide +kernel
theorem gdX12_loud_92 : decode cX12_loud 92 = .ok (.iadd, 1) := by decide +kernel
theorem gdX12_loud_93 : decode cX12_loud 93 = .ok (.istore 5, 2) := by decide +kernel
theorem gdX12_loud_95 : decode cX12_loud 95 = .ok (.iinc 6 1, 3) := by decide +kernel
theorem gdX12_loud_98 : decode cX12_loud 98 = .ok (.goto (-85), 3) := by decide +kernel
theorem gdX12_loud_65 : decode cX12_loud 65 = .ok (.istore 7, 2) := by decide +kernel
theorem gdX12_loud_67 : decode cX12_loud 67 = .ok (.iload 5, 2) := by decide +kernel
theorem gdX12_loud_69 : decode cX12_loud 69 = .ok (.iload 7, 2) := by decide +kernel
theorem gdX12_loud_71 : decode cX12_loud 71 = .ok (.ifCond .ne 7, 3) := by decide +kernel
theorem gdX12_loud_78 : decode cX12_loud 78 = .ok (.iload_n 3, 1) := by decide +kernel
theorem gdX12_loud_79 : decode cX12_loud 79 = .ok (.ifCond .eq 12, 3) := by decide +kernel
theorem gdX12_loud_91 : decode cX12_loud 91 = .ok (.iconst 1, 1) := by decide +kernel
theorem gdX12_loud_82 : decode cX12_loud 82 = .ok (.aload_n 0, 1) := by decide +kernel
theorem gdX12_loud_83 : decode cX12_loud 83 = .ok (.iload 6, 2) := by decide +kernel
theorem gdX12_loud_85 : decode cX12_loud 85 = .ok (.invokevirtual 284, 3) := by decide +kernel
theorem gdX12_loud_88 : decode cX12_loud 88 = .ok (.goto 4, 3) := by decide +kernel
theorem gdX12_loud_74 : decode cX12_loud 74 = .ok (.iconst 0, 1) := by decide +kernel
theorem gdX12_loud_75 : decode cX12_loud 75 = .ok (.goto 17, 3) := by decide +kernel
theorem gdX12_loud_64 : decode cX12_loud 64 = .ok (.iconst 0, 1) := by decide +kernel
theorem gdX12_loud_13 : decode cX12_loud 13 = .ok (.iload 6, 2) := by decide +kernel
theorem gdX12_loud_15 : decode cX12_loud 15 = .ok (.aload_n 0, 1) := by decide +kernel
theorem gdX12_loud_16 : decode cX12_loud 16 = .ok (.getfield 254, 3) := by decide +kernel
theorem gdX12_loud_19 : decode cX12_loud 19 = .ok (.if_icmp .ge 82, 3) := by decide +kernel
theorem gdX12_loud_22 : decode cX12_loud 22 = .ok (.aload_n 0, 1) := by decide +kernel
theorem gdX12_loud_23 : decode cX12_loud 23 = .ok (.getfield 49, 3) := by decide +kernel
theorem gdX12_loud_26 : decode cX12_loud 26 = .ok (.iload 6, 2) := by decide +kernel
theorem gdX12_loud_28 : decode cX12_loud 28 = .ok (.iaload, 1) := by decide +kernel
theorem gdX12_loud_29 : decode cX12_loud 29 = .ok (.ifCond .ne 35, 3) := by decide +kernel
theorem gdX12_loud_32 : decode cX12_loud 32 = .ok (.aload_n 0, 1) := by decide +kernel
theorem gdX12_loud_33 : decode cX12_loud 33 = .ok (.getfield 55, 3) := by decide +kernel
theorem gdX12_loud_36 : decode cX12_loud 36 = .ok (.iload 6, 2) := by decide +kernel
theorem gdX12_loud_38 : decode cX12_loud 38 = .ok (.baload, 1) := by decide +kernel
theorem gdX12_loud_39 : decode cX12_loud 39 = .ok (.ifCond .ne 25, 3) := by decide +kernel
theorem gdX12_loud_42 : decode cX12_loud 42 = .ok (.aload_n 0, 1) := by decide +kernel
theorem gdX12_loud_43 : decode cX12_loud 43 = .ok (.iload_n 1, 1) := by decide +kernel
theorem gdX12_loud_44 : decode cX12_loud 44 = .ok (.aload_n 0, 1) := by decide +kernel
theorem gdX12_loud_45 : decode cX12_loud 45 = .ok (.getfield 46, 3) := by decide +kernel
theorem gdX12_loud_48 : decode cX12_loud 48 = .ok (.iload 6, 2) := by decide +kernel
theorem gdX12_loud_50 : decode cX12_loud 50 = .ok (.iaload, 1) := by decide +kernel
theorem gdX12_loud_51 : decode cX12_loud 51 = .ok (.iload_n 2, 1) := by decide +kernel
theorem gdX12_loud_52 : decode cX12_loud 52 = .ok (.invokevirtual 397, 3) := by decide +kernel
theorem gdX12_loud_55 : decode cX12_loud 55 = .ok (.iload 4, 2) := by decide +kernel
theorem gdX12_loud_57 : decode cX12_loud 57 = .ok (.if_icmp .le 7, 3) := by decide +kernel
theorem gdX12_loud_60 : decode cX12_loud 60 = .ok (.iconst 1, 1) := by decide +kernel
theorem gdX12_loud_61 : decode cX12_loud 61 = .ok (.goto 4, 3) := by decide +kernel
theorem gdX12_loud_0 : decode cX12_loud 0 = .ok (.aload_n 0, 1) := by decide +kernel
theorem gdX12_loud_1 : decode cX12_loud 1 = .ok (.iconst 5, 1) := by decide +kernel
theorem gdX12_loud_2 : decode cX12_loud 2 = .ok (.invokevirtual 328, 3) := by decide +kernel
theorem gdX12_loud_5 : decode cX12_loud 5 = .ok (.istore 4, 2) := by decide +kernel
theorem gdX12_loud_7 : decode cX12_loud 7 = .ok (.iconst 0, 1) := by decide +kernel
theorem gdX12_loud_8 : decode cX12_loud 8 = .ok (.istore 5, 2) := by decide +kernel
theorem gdX12_loud_10 : decode cX12_loud 10 = .ok (.iconst 0, 1) := by decide +kernel
theorem gdX12_loud_11 : decode cX12_loud 11 = .ok (.istore 6, 2) := by decide +kernel
theorem gdX12_judged_68 : decode cX12_judged 68 = .ok (.bipush 40, 2) := by decide +kernel
theorem gdX12_judged_70 : decode cX12_judged 70 = .ok (.iload_n 2, 1) := by decide +kernel
theorem gdX12_judged_71 : decode cX12_judged 71 = .ok (.imul, 1) := by decide +kernel
theorem gdX12_judged_72 : decode cX12_judged 72 = .ok (.istore 7, 2) := by decide +kernel
theorem gdX12_judged_74 : decode cX12_judged 74 = .ok (.aload_n 0, 1) := by decide +kernel
theorem gdX12_judged_75 : decode cX12_judged 75 = .ok (.getfield 16, 3) := by decide +kernel
theorem gdX12_judged_78 : decode cX12_judged 78 = .ok (.iload 7, 2) := by decide +kernel
theorem gdX12_judged_80 : decode cX12_judged 80 = .ok (.iaload, 1) := by decide +kernel
theorem gdX12_judged_81 : decode cX12_judged 81 = .ok (.aload_n 0, 1) := by decide +kernel
theorem gdX12_judged_82 : decode cX12_judged 82 = .ok (.getfield 92, 3) := by decide +kernel
theorem gdX12_judged_85 : decode cX12_judged 85 = .ok (.iload_n 1, 1) := by decide +kernel
theorem gdX12_judged_86 : decode cX12_judged 86 = .ok (.iaload, 1) := by decide +kernel
theorem gdX12_judged_87 : decode cX12_judged 87 = .ok (.imul, 1) := by decide +kernel
theorem gdX12_judged_88 : decode cX12_judged 88 = .ok (.aload_n 0, 1) := by decide +kernel
theorem gdX12_judged_89 : decode cX12_judged 89 = .ok (.getfield 16, 3) := by decide +kernel
theorem gdX12_judged_92 : decode cX12_judged 92 = .ok (.iload 7, 2) := by decide +kernel
theorem gdX12_judged_94 : decode cX12_judged 94 = .ok (.iconst 1, 1) := by decide +kernel
theorem gdX12_judged_95 : decode cX12_judged 95 = .ok (.iadd, 1) := by decide +kernel
theorem gdX12_judged_96 : decode cX12_judged 96 = .ok (.iaload, 1) := by decide +kernel
theorem gdX12_judged_97 : decode cX12_judged 97 = .ok (.iload 4, 2) := by decide +kernel
theorem gdX12_judged_99 : decode cX12_judged 99 = .ok (.imul, 1) := by decide +kernel
theorem gdX12_judged_100 : decode cX12_judged 100 = .ok (.iadd, 1) := by decide +kernel
theorem gdX12_judged_101 : decode cX12_judged 101 = .ok (.aload_n 0, 1) := by decide +kernel
theorem gdX12_judged_102 : decode cX12_judged 102 = .ok (.getfield 16, 3) := by decide +kernel
theorem gdX12_judged_105 : decode cX12_judged 105 = .ok (.iload 7, 2) := by decide +kernel
theorem gdX12_judged_107 : decode cX12_judged 107 = .ok (.iconst 2, 1) := by decide +kernel
theorem gdX12_judged_108 : decode cX12_judged 108 = .ok (.iadd, 1) := by decide +kernel
theorem gdX12_judged_109 : decode cX12_judged 109 = .ok (.iaload, 1) := by decide +kernel
theorem gdX12_judged_110 : decode cX12_judged 110 = .ok (.aload_n 0, 1) := by decide +kernel
theorem gdX12_judged_111 : decode cX12_judged 111 = .ok (.iload_n 1, 1) := by decide +kernel
theorem gdX12_judged_112 : decode cX12_judged 112 = .ok (.invokevirtual 404, 3) := by decide +kernel
theorem gdX12_judged_115 : decode cX12_judged 115 = .ok (.imul, 1) := by decide +kernel
theorem gdX12_judged_116 : decode cX12_judged 116 = .ok (.iadd, 1) := by decide +kernel
theorem gdX12_judged_117 : decode cX12_judged 117 = .ok (.aload_n 0, 1) := by decide +kernel
theorem gdX12_judged_118 : decode cX12_judged 118 = .ok (.getfield 16, 3) := by decide +kernel
theorem gdX12_judged_121 : decode cX12_judged 121 = .ok (.iload 7, 2) := by decide +kernel
theorem gdX12_judged_123 : decode cX12_judged 123 = .ok (.iconst 3, 1) := by decide +kernel
theorem gdX12_judged_124 : decode cX12_judged 124 = .ok (.iadd, 1) := by decide +kernel
theorem gdX12_judged_125 : decode cX12_judged 125 = .ok (.iaload, 1) := by decide +kernel
theorem gdX12_judged_126 : decode cX12_judged 126 = .ok (.aload_n 0, 1) := by decide +kernel
theorem gdX12_judged_127 : decode cX12_judged 127 = .ok (.iload_n 1, 1) := by decide +kernel
theorem gdX12_judged_128 : decode cX12_judged 128 = .ok (.iload_n 3, 1) := by decide +kernel
theorem gdX12_judged_129 : decode cX12_judged 129 = .ok (.iconst 0, 1) := by decide +kernel
theorem gdX12_judged_130 : decode cX12_judged 130 = .ok (.invokevirtual 400, 3) := by decide +kernel
theorem gdX12_judged_133 : decode cX12_judged 133 = .ok (.imul, 1) := by decide +kernel
theorem gdX12_judged_134 : decode cX12_judged 134 = .ok (.iadd, 1) := by decide +kernel
theorem gdX12_judged_135 : decode cX12_judged 135 = .ok (.ireturn, 1) := by decide +kernel
theorem gdX12_judged_59 : decode cX12_judged 59 = .ok (.iadd, 1) := by decide +kernel
theorem gdX12_judged_60 : decode cX12_judged 60 = .ok (.istore 4, 2) := by decide +kernel
theorem gdX12_judged_62 : decode cX12_judged 62 = .ok (.iinc 7 1, 3) := by decide +kernel
theorem gdX12_judged_65 : decode cX12_judged 65 = .ok (.goto (-52), 3) := by decide +kernel
theorem gdX12_judged_58 : decode cX12_judged 58 = .ok (.iconst 0, 1) := by decide +kernel
theorem gdX12_judged_13 : decode cX12_judged 13 = .ok (.iload 7, 2) := by decide +kernel
theorem gdX12_judged_15 : decode cX12_judged 15 = .ok (.aload_n 0, 1) := by decide +kernel
theorem gdX12_judged_16 : decode cX12_judged 16 = .ok (.getfield 281, 3) := by decide +kernel
theorem gdX12_judged_19 : decode cX12_judged 19 = .ok (.if_icmp .ge 49, 3) := by decide +kernel
theorem gdX12_judged_22 : decode cX12_judged 22 = .ok (.iload 4, 2) := by decide +kernel
theorem gdX12_judged_24 : decode cX12_judged 24 = .ok (.aload_n 0, 1) := by decide +kernel
theorem gdX12_judged_25 : decode cX12_judged 25 = .ok (.getfield 71, 3) := by decide +kernel
theorem gdX12_judged_28 : decode cX12_judged 28 = .ok (.iload 7, 2) := by decide +kernel
theorem gdX12_judged_30 : decode cX12_judged 30 = .ok (.iaload, 1) := by decide +kernel
theorem gdX12_judged_31 : decode cX12_judged 31 = .ok (.ifCond .lt 27, 3) := by decide +kernel
theorem gdX12_judged_34 : decode cX12_judged 34 = .ok (.lload 5, 2) := by decide +kernel
theorem gdX12_judged_36 : decode cX12_judged 36 = .ok (.aload_n 0, 1) := by decide +kernel
theorem gdX12_judged_37 : decode cX12_judged 37 = .ok (.getfield 46, 3) := by decide +kernel
theorem gdX12_judged_40 : decode cX12_judged 40 = .ok (.aload_n 0, 1) := by decide +kernel
theorem gdX12_judged_41 : decode cX12_judged 41 = .ok (.getfield 71, 3) := by decide +kernel
theorem gdX12_judged_44 : decode cX12_judged 44 = .ok (.iload 7, 2) := by decide +kernel
theorem gdX12_judged_46 : decode cX12_judged 46 = .ok (.iaload, 1) := by decide +kernel
theorem gdX12_judged_47 : decode cX12_judged 47 = .ok (.iaload, 1) := by decide +kernel
theorem gdX12_judged_48 : decode cX12_judged 48 = .ok (.invokestatic 344, 3) := by decide +kernel
theorem gdX12_judged_51 : decode cX12_judged 51 = .ok (.ifCond .eq 7, 3) := by decide +kernel
theorem gdX12_judged_54 : decode cX12_judged 54 = .ok (.iconst 1, 1) := by decide +kernel
theorem gdX12_judged_55 : decode cX12_judged 55 = .ok (.goto 4, 3) := by decide +kernel
theorem gdX12_judged_0 : decode cX12_judged 0 = .ok (.iconst 0, 1) := by decide +kernel
theorem gdX12_judged_1 : decode cX12_judged 1 = .ok (.istore 4, 2) := by decide +kernel
theorem gdX12_judged_3 : decode cX12_judged 3 = .ok (.aload_n 0, 1) := by decide +kernel
theorem gdX12_judged_4 : decode cX12_judged 4 = .ok (.iload_n 1, 1) := by decide +kernel
theorem gdX12_judged_5 : decode cX12_judged 5 = .ok (.invokevirtual 340, 3) := by decide +kernel
theorem gdX12_judged_8 : decode cX12_judged 8 = .ok (.lstore 5, 2) := by decide +kernel
theorem gdX12_judged_10 : decode cX12_judged 10 = .ok (.iconst 0, 1) := by decide +kernel
theorem gdX12_judged_11 : decode cX12_judged 11 = .ok (.istore 7, 2) := by decide +kernel
theorem gdX12_best_14 : decode cX12_best 14 = .ok (.iconst (-1), 1) := by decide +kernel
theorem gdX12_best_15 : decode cX12_best 15 = .ok (.ireturn, 1) := by decide +kernel
theorem gdX12_best_128 : decode cX12_best 128 = .ok (.ireturn, 1) := by decide +kernel
theorem gdX12_best_110 : decode cX12_best 110 = .ok (.iload 4, 2) := by decide +kernel
theorem gdX12_best_112 : decode cX12_best 112 = .ok (.ifCond .ge 8, 3) := by decide +kernel
theorem gdX12_best_120 : decode cX12_best 120 = .ok (.aload_n 0, 1) := by decide +kernel
theorem gdX12_best_121 : decode cX12_best 121 = .ok (.iload 5, 2) := by decide +kernel
theorem gdX12_best_123 : decode cX12_best 123 = .ok (.iload 4, 2) := by decide +kernel
theorem gdX12_best_125 : decode cX12_best 125 = .ok (.invokevirtual 290, 3) := by decide +kernel
theorem gdX12_best_115 : decode cX12_best 115 = .ok (.bipush (-9), 2) := by decide +kernel
theorem gdX12_best_117 : decode cX12_best 117 = .ok (.goto 11, 3) := by decide +kernel
theorem gdX12_best_104 : decode cX12_best 104 = .ok (.iinc 6 1, 3) := by decide +kernel
theorem gdX12_best_107 : decode cX12_best 107 = .ok (.goto (-68), 3) := by decide +kernel
theorem gdX12_best_96 : decode cX12_best 96 = .ok (.iload 6, 2) := by decide +kernel
theorem gdX12_best_98 : decode cX12_best 98 = .ok (.istore 4, 2) := by decide +kernel
theorem gdX12_best_100 : decode cX12_best 100 = .ok (.iload 7, 2) := by decide +kernel
theorem gdX12_best_102 : decode cX12_best 102 = .ok (.istore 5, 2) := by decide +kernel
theorem gdX12_best_71 : decode cX12_best 71 = .ok (.istore 7, 2) := by decide +kernel
theorem gdX12_best_73 : decode cX12_best 73 = .ok (.aload_n 0, 1) := by decide +kernel
theorem gdX12_best_74 : decode cX12_best 74 = .ok (.getfield 83, 3) := by decide +kernel
theorem gdX12_best_77 : decode cX12_best 77 = .ok (.iload 6, 2) := by decide +kernel
theorem gdX12_best_79 : decode cX12_best 79 = .ok (.iaload, 1) := by decide +kernel
theorem gdX12_best_80 : decode cX12_best 80 = .ok (.iconst 1, 1) := by decide +kernel
theorem gdX12_best_81 : decode cX12_best 81 = .ok (.if_icmp .ne 23, 3) := by decide +kernel
theorem gdX12_best_84 : decode cX12_best 84 = .ok (.iload 4, 2) := by decide +kernel
theorem gdX12_best_86 : decode cX12_best 86 = .ok (.ifCond .lt 10, 3) := by decide +kernel
theorem gdX12_best_89 : decode cX12_best 89 = .ok (.iload 7, 2) := by decide +kernel
theorem gdX12_best_91 : decode cX12_best 91 = .ok (.iload 5, 2) := by decide +kernel
theorem gdX12_best_93 : decode cX12_best 93 = .ok (.if_icmp .ge 11, 3) := by decide +kernel
theorem gdX12_best_39 : decode cX12_best 39 = .ok (.iload 6, 2) := by decide +kernel
theorem gdX12_best_41 : decode cX12_best 41 = .ok (.aload_n 0, 1) := by decide +kernel
theorem gdX12_best_42 : decode cX12_best 42 = .ok (.getfield 305, 3) := by decide +kernel
theorem gdX12_best_45 : decode cX12_best 45 = .ok (.if_icmp .ge 65, 3) := by decide +kernel
theorem gdX12_best_48 : decode cX12_best 48 = .ok (.aload_n 0, 1) := by decide +kernel
theorem gdX12_best_49 : decode cX12_best 49 = .ok (.getfield 83, 3) := by decide +kernel
theorem gdX12_best_52 : decode cX12_best 52 = .ok (.iload 6, 2) := by decide +kernel
theorem gdX12_best_54 : decode cX12_best 54 = .ok (.iaload, 1) := by decide +kernel
theorem gdX12_best_55 : decode cX12_best 55 = .ok (.iconst 1, 1) := by decide +kernel
theorem gdX12_best_56 : decode cX12_best 56 = .ok (.if_icmp .ne 14, 3) := by decide +kernel
theorem gdX12_best_70 : decode cX12_best 70 = .ok (.iconst 0, 1) := by decide +kernel
theorem gdX12_best_59 : decode cX12_best 59 = .ok (.aload_n 0, 1) := by decide +kernel
theorem gdX12_best_60 : decode cX12_best 60 = .ok (.iload 6, 2) := by decide +kernel
theorem gdX12_best_62 : decode cX12_best 62 = .ok (.iload_n 1, 1) := by decide +kernel
theorem gdX12_best_63 : decode cX12_best 63 = .ok (.iload_n 2, 1) := by decide +kernel
theorem gdX12_best_64 : decode cX12_best 64 = .ok (.invokevirtual 440, 3) := by decide +kernel
theorem gdX12_best_67 : decode cX12_best 67 = .ok (.goto 4, 3) := by decide +kernel
theorem gdX12_best_0 : decode cX12_best 0 = .ok (.iload_n 1, 1) := by decide +kernel
theorem gdX12_best_1 : decode cX12_best 1 = .ok (.invokestatic 212, 3) := by decide +kernel
theorem gdX12_best_4 : decode cX12_best 4 = .ok (.ifCond .eq 10, 3) := by decide +kernel
theorem gdX12_best_7 : decode cX12_best 7 = .ok (.iload_n 2, 1) := by decide +kernel
theorem gdX12_best_8 : decode cX12_best 8 = .ok (.invokestatic 212, 3) := by decide +kernel
theorem gdX12_best_11 : decode cX12_best 11 = .ok (.ifCond .ne 5, 3) := by decide +kernel
theorem gdX12_best_16 : decode cX12_best 16 = .ok (.aload_n 0, 1) := by decide +kernel
theorem gdX12_best_17 : decode cX12_best 17 = .ok (.iload_n 1, 1) := by decide +kernel
theorem gdX12_best_18 : decode cX12_best 18 = .ok (.iload_n 2, 1) := by decide +kernel
theorem gdX12_best_19 : decode cX12_best 19 = .ok (.invokevirtual 437, 3) := by decide +kernel
theorem gdX12_best_22 : decode cX12_best 22 = .ok (.istore_n 3, 1) := by decide +kernel
theorem gdX12_best_23 : decode cX12_best 23 = .ok (.iload_n 3, 1) := by decide +kernel
theorem gdX12_best_24 : decode cX12_best 24 = .ok (.ifCond .ge 5, 3) := by decide +kernel
theorem gdX12_best_29 : decode cX12_best 29 = .ok (.bipush (-9), 2) := by decide +kernel
theorem gdX12_best_31 : decode cX12_best 31 = .ok (.istore 4, 2) := by decide +kernel
theorem gdX12_best_33 : decode cX12_best 33 = .ok (.iconst 0, 1) := by decide +kernel
theorem gdX12_best_34 : decode cX12_best 34 = .ok (.istore 5, 2) := by decide +kernel
theorem gdX12_best_36 : decode cX12_best 36 = .ok (.iconst 0, 1) := by decide +kernel
theorem gdX12_best_37 : decode cX12_best 37 = .ok (.istore 6, 2) := by decide +kernel
theorem gdX12_best_27 : decode cX12_best 27 = .ok (.iload_n 3, 1) := by decide +kernel
theorem gdX12_best_28 : decode cX12_best 28 = .ok (.ireturn, 1) := by decide +kernel
theorem okm_X12_in : okM yX12_in cX12_in 3 (some .boolean) 3 := ⟨w_1707, w_103, by decide +kernel, by decide +kernel, by decide +kernel⟩
theorem okm_X12_ask : okM yX12_ask cX12_ask 3 (some .int) 2 := ⟨w_1838, w_103, by decide +kernel, by decide +kernel, by decide +kernel⟩
theorem okw_X12_ask : okV yX12_ask := ⟨w_1837, w_49⟩
theorem okm_X12_isRow : okM yX12_isRow cX12_isRow 1 (some .boolean) 1 := ⟨w_1704, w_103, by decide +kernel, by decide +kernel, by decide +kernel⟩
theorem okm_X12_meets : okM yX12_meets cX12_meets 2 (some .int) 1 := ⟨w_1711, w_103, by decide +kernel, by decide +kernel, by decide +kernel⟩
theorem okw_X12_meets : okV yX12_meets := ⟨w_1710, w_37⟩
theorem okm_X12_ahead : okM yX12_ahead cX12_ahead 4 (some .int) 3 := ⟨w_2077, w_103, by decide +kernel, by decide +kernel, by decide +kernel⟩
theorem okw_X12_ahead : okV yX12_ahead := ⟨w_2076, w_79⟩
theorem okm_X12_askedRow : okM yX12_askedRow cX12_askedRow 2 (some .int) 1 := ⟨w_1719, w_103, by decide +kernel, by decide +kernel, by decide +kernel⟩
theorem okw_X12_askedRow : okV yX12_askedRow := ⟨w_1718, w_38⟩
theorem okm_X12_ruleFor : okM yX12_ruleFor cX12_ruleFor 7 (some .int) 3 := ⟨w_1779, w_103, by decide +kernel, by decide +kernel, by decide +kernel⟩
theorem okw_X12_ruleFor : okV yX12_ruleFor := ⟨w_1778, w_42⟩
theorem okm_X12_inForce : okM yX12_inForce cX12_inForce 5 (some .int) 3 := ⟨w_1775, w_103, by decide +kernel, by decide +kernel, by decide +kernel⟩
theorem okw_X12_inForce : okV yX12_inForce := ⟨w_1774, w_41⟩
theorem okm_X12_apart : okM yX12_apart cX12_apart 4 (some .int) 2 := ⟨w_1913, w_103, by decide +kernel, by decide +kernel, by decide +kernel⟩
theorem okm_X12_living : okM yX12_living cX12_living 4 (some .int) 1 := ⟨w_1834, w_103, by decide +kernel, by decide +kernel, by decide +kernel⟩
theorem okw_X12_living : okV yX12_living := ⟨w_1833, w_48⟩
theorem okm_X12_noiseOf : okM yX12_noiseOf cX12_noiseOf 7 (some .int) 3 := ⟨w_2041, w_103, by decide +kernel, by decide +kernel, by decide +kernel⟩
theorem okw_X12_noiseOf : okV yX12_noiseOf := ⟨w_2040, w_75⟩
theorem okm_X12_nowInForce : okM yX12_nowInForce cX12_nowInForce 2 (some .int) 1 := ⟨w_1874, w_103, by decide +kernel, by decide +kernel, by decide +kernel⟩
theorem okw_X12_nowInForce : okV yX12_nowInForce := ⟨w_1873, w_54⟩
theorem okm_X12_parks : okM yX12_parks cX12_parks 4 (some .int) 1 := ⟨w_2049, w_103, by decide +kernel, by decide +kernel, by decide +kernel⟩
theorem okw_X12_parks : okV yX12_parks := ⟨w_2048, w_76⟩
theorem okm_X12_loud : okM yX12_loud cX12_loud 8 (some .int) 3 := ⟨w_2037, w_103, by decide +kernel, by decide +kernel, by decide +kernel⟩
theorem okw_X12_loud : okV yX12_loud := ⟨w_2036, w_74⟩
theorem okm_X12_has : okM yX12_has cX12_has 3 (some .boolean) 2 := ⟨w_1920, w_103, by decide +kernel, by decide +kernel, by decide +kernel⟩
theorem okm_X12_cellsOf : okM yX12_cellsOf cX12_cellsOf 5 (some .long) 1 := ⟨w_1917, w_103, by decide +kernel, by decide +kernel, by decide +kernel⟩
theorem okw_X12_cellsOf : okV yX12_cellsOf := ⟨w_1916, w_62⟩
theorem okm_X12_judged : okM yX12_judged cX12_judged 8 (some .int) 3 := ⟨w_2117, w_103, by decide +kernel, by decide +kernel, by decide +kernel⟩
theorem okw_X12_judged : okV yX12_judged := ⟨w_2116, w_84⟩
theorem okm_X12_askedWeights : okM yX12_askedWeights cX12_askedWeights 5 (some .int) 2 := ⟨w_2113, w_103, by decide +kernel, by decide +kernel, by decide +kernel⟩
theorem okw_X12_askedWeights : okV yX12_askedWeights := ⟨w_2112, w_83⟩
set_option maxHeartbeats 4000000 in
set_option maxRecDepth 100000 in
theorem c_X12_in (l : Launch) (g : GG) (ws : va_W) (x0 : Int) (x1 : Int) (x2 : Int) (v : Int) (h : s_X12_in x0 x1 x2 = some v) : CI l g yX12_in cX12_in 3 (some .boolean) 0 0 ws [iv x0, iv x1, iv x2] v ws := by
  refine met_I (by decide) (Nat.le_of_ble_eq_true rfl) ?_
  intro X E hQ
  show Go X 0 ws [(0, iv x0), (1, iv x1), (2, iv x2)] []
  have j15 : ∀ (y0 : Int), b_X12_in_15 y0 = some v → Go X 15 ws [] [iv y0] := by
    intro y0 h
    unfold b_X12_in_15 at h
    obtain ⟨hz, h⟩ := qZ_of h
    exact g_zret E hQ hz (Option.some.inj h) rfl gdX12_in_15
  have j14 : b_X12_in_14  = some v → Go X 14 ws [] [] := by
    intro h
    unfold b_X12_in_14 at h
    refine g_iconst E gdX12_in_14 ?_
    exact j15 0 h
  unfold s_X12_in at h
  refine g_iload_n E gdX12_in_0 rfl 0 rfl ?_
  refine g_iload_n E gdX12_in_1 rfl 1 rfl ?_
  refine g_icmp_lt E 14 gdX12_in_2 (by decide) h (fun h => ?_) (fun h => ?_)
  ·
    refine g_sub E [] rfl ?_
    exact j14  h
  ·
    refine g_iload_n E gdX12_in_5 rfl 0 rfl ?_
    refine g_iload_n E gdX12_in_6 rfl 2 rfl ?_
    refine g_icmp_gt E 14 gdX12_in_7 (by decide) h (fun h => ?_) (fun h => ?_)
    ·
      refine g_sub E [] rfl ?_
      exact j14  h
    ·
      refine g_iconst E gdX12_in_10 ?_
      refine g_goto E 15 gdX12_in_11 (by decide) ?_
      refine g_sub E [] rfl ?_
      exact j15 1 h
set_option maxHeartbeats 4000000 in
set_option maxRecDepth 100000 in
theorem c_X12_ask (l : Launch) (g : GG) (ad : Nat → Nat) (o : OO) (x1 : Int) (x2 : Int) (v : Int × OO) (h : s_X12_ask o x1 x2 = some v) : CI l g yX12_ask cX12_ask 3 (some .int) 0 0 (wM g ad o) [.ref (ad 0), iv x1, iv x2] v.1 (wM g ad v.2) := by
  refine met_I (by decide) (Nat.le_of_ble_eq_true rfl) ?_
  intro X E hQ
  show Go X 0 (wM g ad o) [(0, .ref (ad 0)), (1, iv x1), (2, iv x2)] []
  unfold s_X12_ask at h
  refine g_aload_n E gdX12_ask_0 rfl 0 rfl ?_
  refine g_iload_n E gdX12_ask_1 rfl 1 rfl ?_
  obtain ⟨o1, e_o1, h⟩ := qNm_of h
  refine g_puti (T := TX12) (ws' := wM g ad o1) E fw_X12 tyX12 tyX12_ok nmX12 0 (wM_0 g ad o) rfl 2 (by decide) w_1468 rfl rfl (by decide +kernel) (Nat.le_of_ble_eq_true rfl) (by rw [e_o1]; exact wM_p0_2 g ad o _) gdX12_ask_2 ?_
  refine g_iload_n E gdX12_ask_5 rfl 2 rfl ?_
  exact g_iret E hQ (by rw [← Option.some.inj h]) (by rw [← Option.some.inj h]) gdX12_ask_6
set_option maxHeartbeats 4000000 in
set_option maxRecDepth 100000 in
theorem c_X12_act (l : Launch) (g : GG) (ad : Nat → Nat) (o : OO) (x1 : Int) (v : Int × OO) (h : s_X12_act o x1 = some v) : CI l g yX12_act cX12_act 2 (some .int) 1 22 (wM g ad o) [.ref (ad 0), iv x1] v.1 (wM g ad v.2) := by
  refine met_I (by decide) (Nat.le_of_ble_eq_true rfl) ?_
  intro X E hQ
  show Go X 0 (wM g ad o) [(0, .ref (ad 0)), (1, iv x1)] []
  have j35 : ∀ (o : OO) (y0 : Int), b_X12_act_35 o y0 = some v → Go X 35 (wM g ad o) [] [iv y0] := by
    intro o y0 h
    unfold b_X12_act_35 at h
    exact g_iret E hQ (by rw [← Option.some.inj h]) (by rw [← Option.some.inj h]) gdX12_act_35
  unfold s_X12_act at h
  refine g_iload_n E gdX12_act_0 rfl 1 rfl ?_
  refine g_iconst E gdX12_act_1 ?_
  refine g_aload_n E gdX12_act_2 rfl 0 rfl ?_
  refine g_get (T := TX12) E fw_X12 0 (wM_0 g ad o) rfl 65 (by decide) w_1531 rfl rfl gdX12_act_3 ?_
  refine g_iconst E gdX12_act_6 ?_
  refine g_isub E gdX12_act_7 ?_
  obtain ⟨r1, hc2, h⟩ := qB_of h
  refine g_Si (r := r1) (As := [iv x1, iv 0, iv ((o.1 0 65) - 1)]) (rest := []) (w := wM g ad o) E (c_X12_in l g (wM g ad o) x1 0 ((o.1 0 65) - 1) r1 hc2) okm_X12_in w_1706 w_1705 rfl rfl (Nat.le_of_ble_eq_true rfl) ⟨Nat.le_of_ble_eq_true rfl, Nat.le_of_ble_eq_true rfl⟩ gdX12_act_8 ?_
  refine g_if_eq E 33 gdX12_act_11 (by decide) h (fun h => ?_) (fun h => ?_)
  ·
    refine g_bipush E gdX12_act_33 (by decide) ?_
    refine g_sub E [] rfl ?_
    exact j35 o (-9) h
  ·
    refine g_aload_n E gdX12_act_14 rfl 0 rfl ?_
    refine g_aload_n E gdX12_act_15 rfl 0 rfl ?_
    refine g_get (T := TX12) E fw_X12 0 (wM_0 g ad o) rfl 68 (by decide) w_1534 rfl rfl gdX12_act_16 ?_
    refine g_iload_n E gdX12_act_19 rfl 1 rfl ?_
    obtain ⟨hi3, h⟩ := qIn_of h
    refine g_iald E 55 (wM_55 g ad o) (by decide) hi3 gdX12_act_20 ?_
    obtain ⟨n4, e_n4, h⟩ := qNm_of h
    refine g_nmi e_n4 ?_
    refine g_aload_n E gdX12_act_21 rfl 0 rfl ?_
    refine g_get (T := TX12) E fw_X12 0 (wM_0 g ad o) rfl 67 (by decide) w_1533 rfl rfl gdX12_act_22 ?_
    refine g_iload_n E gdX12_act_25 rfl 1 rfl ?_
    obtain ⟨hi5, h⟩ := qIn_of h
    refine g_iald E 54 (wM_54 g ad o) (by decide) hi5 gdX12_act_26 ?_
    obtain ⟨n6, e_n6, h⟩ := qNm_of h
    refine g_nmi e_n6 ?_
    obtain ⟨r7, o9, hc8, h⟩ := qB2_of h
    refine g_Vi (r := r7) (As := [iv n4, iv n6]) (rest := []) (w := wM g ad o9) E (c_X12_ask l g ad o n4 n6 (r7, o9) hc8) okm_X12_ask okw_X12_ask w_1835 rfl (wM_0 g ad o) rfl rfl (Nat.le_of_ble_eq_true rfl) ⟨Nat.le_of_ble_eq_true rfl, Nat.le_of_ble_eq_true rfl⟩ gdX12_act_27 ?_
    refine g_goto E 35 gdX12_act_30 (by decide) ?_
    refine g_sub E [] rfl ?_
    exact j35 o9 r7 h
set_option maxHeartbeats 4000000 in
set_option maxRecDepth 100000 in
theorem c_X12_isRow (l : Launch) (g : GG) (ws : va_W) (x0 : Int) (v : Int) (h : s_X12_isRow x0 = some v) : CI l g yX12_isRow cX12_isRow 1 (some .boolean) 1 22 ws [iv x0] v ws := by
  refine met_I (by decide) (Nat.le_of_ble_eq_true rfl) ?_
  intro X E hQ
  show Go X 0 ws [(0, iv x0)] []
  unfold s_X12_isRow at h
  refine g_iload_n E gdX12_isRow_0 rfl 0 rfl ?_
  refine g_iconst E gdX12_isRow_1 ?_
  refine g_iconst E gdX12_isRow_2 ?_
  obtain ⟨r1, hc2, h⟩ := qB_of h
  refine g_Si (r := r1) (As := [iv x0, iv 0, iv 5]) (rest := []) (w := ws) E (c_X12_in l g ws x0 0 5 r1 hc2) okm_X12_in w_1706 w_1705 rfl rfl (Nat.le_of_ble_eq_true rfl) ⟨Nat.le_of_ble_eq_true rfl, Nat.le_of_ble_eq_true rfl⟩ gdX12_isRow_3 ?_
  obtain ⟨hz, h⟩ := qZ_of h
  exact g_zret E hQ hz (Option.some.inj h) rfl gdX12_isRow_6
set_option maxHeartbeats 4000000 in
set_option maxRecDepth 100000 in
theorem c_X12_meets (l : Launch) (g : GG) (ad : Nat → Nat) (o : OO) (x1 : Int) (v : Int × OO) (h : s_X12_meets o x1 = some v) : CI l g yX12_meets cX12_meets 2 (some .int) 0 0 (wM g ad o) [.ref (ad 0), iv x1] v.1 (wM g ad v.2) := by
  refine met_I (by decide) (Nat.le_of_ble_eq_true rfl) ?_
  intro X E hQ
  show Go X 0 (wM g ad o) [(0, .ref (ad 0)), (1, iv x1)] []
  unfold s_X12_meets at h
  refine g_aload_n E gdX12_meets_0 rfl 0 rfl ?_
  refine g_iload_n E gdX12_meets_1 rfl 1 rfl ?_
  obtain ⟨o1, e_o1, h⟩ := qNm_of h
  refine g_puti (T := TX12) (ws' := wM g ad o1) E fw_X12 tyX12 tyX12_ok nmX12 0 (wM_0 g ad o) rfl 0 (by decide) w_1466 rfl rfl (by decide +kernel) (Nat.le_of_ble_eq_true rfl) (by rw [e_o1]; exact wM_p0_0 g ad o _) gdX12_meets_2 ?_
  refine g_aload_n E gdX12_meets_5 rfl 0 rfl ?_
  refine g_get (T := TX12) E fw_X12 0 (wM_0 g ad o1) rfl 1 (by decide) w_1467 rfl rfl gdX12_meets_6 ?_
  refine g_iload_n E gdX12_meets_9 rfl 1 rfl ?_
  refine g_dup2 E gdX12_meets_10 rfl rfl ?_
  obtain ⟨hi2, h⟩ := qIn_of h
  refine g_iald E 1 (wM_1 g ad o1) (by decide) hi2 gdX12_meets_11 ?_
  obtain ⟨n3, e_n3, h⟩ := qNm_of h
  refine g_nmi e_n3 ?_
  refine g_iconst E gdX12_meets_12 ?_
  refine g_iadd E gdX12_meets_13 ?_
  obtain ⟨hi4, h⟩ := qIn_of h
  obtain ⟨o5, e_o5, h⟩ := qNm_of h
  refine g_iast (ws' := wM g ad o5) E 1 (wM_1 g ad o1) (by decide) hi4 (by rw [e_o5]; exact wM_s1 g ad o1 _ _) gdX12_meets_14 ?_
  refine g_bipush E gdX12_meets_15 (by decide) ?_
  exact g_iret E hQ (by rw [← Option.some.inj h]) (by rw [← Option.some.inj h]) gdX12_meets_17
set_option maxHeartbeats 4000000 in
set_option maxRecDepth 100000 in
theorem c_X12_askedRow (l : Launch) (g : GG) (ad : Nat → Nat) (o : OO) (x1 : Int) (v : Int × OO) (h : s_X12_askedRow o x1 = some v) : CI l g yX12_askedRow cX12_askedRow 2 (some .int) 2 42 (wM g ad o) [.ref (ad 0), iv x1] v.1 (wM g ad v.2) := by
  refine met_I (by decide) (Nat.le_of_ble_eq_true rfl) ?_
  intro X E hQ
  show Go X 0 (wM g ad o) [(0, .ref (ad 0)), (1, iv x1)] []
  have j29 : ∀ (o : OO) (y0 : Int), b_X12_askedRow_29 o y0 = some v → Go X 29 (wM g ad o) [] [iv y0] := by
    intro o y0 h
    unfold b_X12_askedRow_29 at h
    exact g_iret E hQ (by rw [← Option.some.inj h]) (by rw [← Option.some.inj h]) gdX12_askedRow_29
  unfold s_X12_askedRow at h
  refine g_iload_n E gdX12_askedRow_0 rfl 1 rfl ?_
  obtain ⟨r1, hc2, h⟩ := qB_of h
  refine g_Si (r := r1) (As := [iv x1]) (rest := []) (w := wM g ad o) E (c_X12_isRow l g (wM g ad o) x1 r1 hc2) okm_X12_isRow w_1703 w_1702 rfl rfl (Nat.le_of_ble_eq_true rfl) ⟨Nat.le_of_ble_eq_true rfl, Nat.le_of_ble_eq_true rfl⟩ gdX12_askedRow_1 ?_
  refine g_if_ne E 11 gdX12_askedRow_4 (by decide) h (fun h => ?_) (fun h => ?_)
  ·
    refine g_aload_n E gdX12_askedRow_11 rfl 0 rfl ?_
    refine g_get (T := TX12) E fw_X12 0 (wM_0 g ad o) rfl 5 (by decide) w_1471 rfl rfl gdX12_askedRow_12 ?_
    refine g_iload_n E gdX12_askedRow_15 rfl 1 rfl ?_
    obtain ⟨hi3, h⟩ := qIn_of h
    refine g_iald E 2 (wM_2 g ad o) (by decide) hi3 gdX12_askedRow_16 ?_
    obtain ⟨n4, e_n4, h⟩ := qNm_of h
    refine g_nmi e_n4 ?_
    refine g_if_ge E 28 gdX12_askedRow_17 (by decide) h (fun h => ?_) (fun h => ?_)
    ·
      refine g_iconst E gdX12_askedRow_28 ?_
      refine g_sub E [] rfl ?_
      exact j29 o 0 h
    ·
      refine g_aload_n E gdX12_askedRow_20 rfl 0 rfl ?_
      refine g_iconst E gdX12_askedRow_21 ?_
      obtain ⟨r5, o7, hc6, h⟩ := qB2_of h
      refine g_Vi (r := r5) (As := [iv 1]) (rest := []) (w := wM g ad o7) E (c_X12_meets l g ad o 1 (r5, o7) hc6) okm_X12_meets okw_X12_meets w_1708 rfl (wM_0 g ad o) rfl rfl (Nat.le_of_ble_eq_true rfl) ⟨Nat.le_of_ble_eq_true rfl, Nat.le_of_ble_eq_true rfl⟩ gdX12_askedRow_22 ?_
      refine g_goto E 29 gdX12_askedRow_25 (by decide) ?_
      refine g_sub E [] rfl ?_
      exact j29 o7 r5 h
  ·
    refine g_iconst E gdX12_askedRow_7 ?_
    refine g_goto E 29 gdX12_askedRow_8 (by decide) ?_
    refine g_sub E [] rfl ?_
    exact j29 o (-1) h
set_option maxHeartbeats 4000000 in
set_option maxRecDepth 100000 in
theorem c_X12_ahead (l : Launch) (g : GG) (ad : Nat → Nat) (o : OO) (x1 : Int) (x2 : Int) (x3 : Int) (v : Int) (h : s_X12_ahead o x1 x2 x3 = some v) : CI l g yX12_ahead cX12_ahead 4 (some .int) 0 0 (wM g ad o) [.ref (ad 0), iv x1, iv x2, iv x3] v (wM g ad o) := by
  refine met_I (by decide) (Nat.le_of_ble_eq_true rfl) ?_
  intro X E hQ
  show Go X 0 (wM g ad o) [(0, .ref (ad 0)), (1, iv x1), (2, iv x2), (3, iv x3)] []
  unfold s_X12_ahead at h
  refine g_aload_n E gdX12_ahead_0 rfl 0 rfl ?_
  refine g_get (T := TX12) E fw_X12 0 (wM_0 g ad o) rfl 6 (by decide) w_1472 rfl rfl gdX12_ahead_1 ?_
  refine g_bipush E gdX12_ahead_4 (by decide) ?_
  refine g_iload_n E gdX12_ahead_6 rfl 1 rfl ?_
  refine g_imul E gdX12_ahead_7 ?_
  refine g_iconst E gdX12_ahead_8 ?_
  refine g_iload_n E gdX12_ahead_9 rfl 2 rfl ?_
  refine g_imul E gdX12_ahead_10 ?_
  refine g_iadd E gdX12_ahead_11 ?_
  refine g_iconst E gdX12_ahead_12 ?_
  refine g_iadd E gdX12_ahead_13 ?_
  refine g_iload_n E gdX12_ahead_14 rfl 3 rfl ?_
  refine g_iadd E gdX12_ahead_15 ?_
  obtain ⟨n1, e_n1, h⟩ := qNm_of h
  refine g_nmi e_n1 ?_
  obtain ⟨hi2, h⟩ := qIn_of h
  refine g_iald E 3 (wM_3 g ad o) (by decide) hi2 gdX12_ahead_16 ?_
  obtain ⟨n3, e_n3, h⟩ := qNm_of h
  refine g_nmi e_n3 ?_
  exact g_iret E hQ (Option.some.inj h) rfl gdX12_ahead_17
set_option maxHeartbeats 4000000 in
set_option maxRecDepth 100000 in
theorem c_X12_acts (l : Launch) (g : GG) (ad : Nat → Nat) (o : OO) (x1 : Int) (v : Int × OO) (h : s_X12_acts o x1 = some v) : CI l g yX12_acts cX12_acts 12 (some .int) 3 63 (wM g ad o) [.ref (ad 0), iv x1] v.1 (wM g ad v.2) := by
  refine met_I (by decide) (Nat.le_of_ble_eq_true rfl) ?_
  intro X E hQ
  show Go X 0 (wM g ad o) [(0, .ref (ad 0)), (1, iv x1)] []
  have j42 : ∀ (o : OO), b_X12_acts_42 o = some v → Go X 42 (wM g ad o) [(0, .ref (ad 0))] [] := by
    intro o h
    unfold b_X12_acts_42 at h
    refine g_aload_n E gdX12_acts_42 rfl 0 rfl ?_
    refine g_iconst E gdX12_acts_43 ?_
    obtain ⟨r1, o3, hc2, h⟩ := qB2_of h
    refine g_Vi (r := r1) (As := [iv 5]) (rest := []) (w := wM g ad o3) E (c_X12_meets l g ad o 5 (r1, o3) hc2) okm_X12_meets okw_X12_meets w_1708 rfl (wM_0 g ad o) rfl rfl (Nat.le_of_ble_eq_true rfl) ⟨Nat.le_of_ble_eq_true rfl, Nat.le_of_ble_eq_true rfl⟩ gdX12_acts_44 ?_
    exact g_iret E hQ (by rw [← Option.some.inj h]) (by rw [← Option.some.inj h]) gdX12_acts_47
  have j349 : ∀ (o : OO), b_X12_acts_349 o = some v → Go X 349 (wM g ad o) [(0, .ref (ad 0))] [] := by
    intro o h
    unfold b_X12_acts_349 at h
    refine g_aload_n E gdX12_acts_349 rfl 0 rfl ?_
    refine g_iconst E gdX12_acts_350 ?_
    obtain ⟨r4, o6, hc5, h⟩ := qB2_of h
    refine g_Vi (r := r4) (As := [iv 3]) (rest := []) (w := wM g ad o6) E (c_X12_meets l g ad o 3 (r4, o6) hc5) okm_X12_meets okw_X12_meets w_1708 rfl (wM_0 g ad o) rfl rfl (Nat.le_of_ble_eq_true rfl) ⟨Nat.le_of_ble_eq_true rfl, Nat.le_of_ble_eq_true rfl⟩ gdX12_acts_351 ?_
    exact g_iret E hQ (by rw [← Option.some.inj h]) (by rw [← Option.some.inj h]) gdX12_acts_354
  have j622 : ∀ (o : OO) (x6 : Int), b_X12_acts_622 o x6 = some v → Go X 622 (wM g ad o) [(6, iv x6)] [] := by
    intro o x6 h
    unfold b_X12_acts_622 at h
    refine g_iload E gdX12_acts_622 0 rfl ?_
    exact g_iret E hQ (by rw [← Option.some.inj h]) (by rw [← Option.some.inj h]) gdX12_acts_624
  have l582 : ∀ (x3 : Int) (x6 : Int) (r : (OO)) (s0 : OO × Int), loopW (fun s => l_X12_acts_582 x3 x6 s.1 s.2) s0 = some r → (∀ (o : OO), r = (o) → Go X 622 (wM g ad o) [(6, iv x6)] []) → Go X 582 (wM g ad s0.1) [(0, .ref (ad 0)), (3, iv x3), (6, iv x6), (7, iv s0.2)] [] := by
    intro x3 x6 r s0 h k1
    refine loop_rule (Head := fun s0 => Go X 582 (wM g ad s0.1) [(0, .ref (ad 0)), (3, iv x3), (6, iv x6), (7, iv s0.2)] []) h ?_
    intro s v h kk kx
    obtain ⟨o, x7⟩ := s
    have h : l_X12_acts_582 x3 x6 o x7 = some v := h
    have k0 : ∀ (o : OO) (x7 : Int), v = .inl (o, x7) → Go X 582 (wM g ad o) [(0, .ref (ad 0)), (3, iv x3), (6, iv x6), (7, iv x7)] [] := fun o x7 e => kk (o, x7) e
    have k1 : ∀ (o : OO), v = .inr (o) → Go X 622 (wM g ad o) [(6, iv x6)] [] := fun o e => k1 o (kx _ e).symm
    unfold l_X12_acts_582 at h
    refine g_iload E gdX12_acts_582 3 rfl ?_
    refine g_iload_n E gdX12_acts_584 rfl 1 rfl ?_
    refine g_icmp_ge E 622 gdX12_acts_585 (by decide) h (fun h => ?_) (fun h => ?_)
    ·
      refine g_sub E [2] rfl ?_
      exact k1 o (Option.some.inj h).symm
    ·
      refine g_aload_n E gdX12_acts_588 rfl 0 rfl ?_
      refine g_get (T := TX12) E fw_X12 0 (wM_0 g ad o) rfl 67 (by decide) w_1533 rfl rfl gdX12_acts_589 ?_
      refine g_iload E gdX12_acts_592 3 rfl ?_
      refine g_aload_n E gdX12_acts_594 rfl 0 rfl ?_
      refine g_get (T := TX12) E fw_X12 0 (wM_0 g ad o) rfl 69 (by decide) w_1535 rfl rfl gdX12_acts_595 ?_
      refine g_iload E gdX12_acts_598 3 rfl ?_
      obtain ⟨hi7, h⟩ := qIn_of h
      refine g_iald E 56 (wM_56 g ad o) (by decide) hi7 gdX12_acts_600 ?_
      obtain ⟨n8, e_n8, h⟩ := qNm_of h
      refine g_nmi e_n8 ?_
      obtain ⟨hi9, h⟩ := qIn_of h
      obtain ⟨o10, e_o10, h⟩ := qNm_of h
      refine g_iast (ws' := wM g ad o10) E 54 (wM_54 g ad o) (by decide) hi9 (by rw [e_o10]; exact wM_s54 g ad o _ _) gdX12_acts_601 ?_
      refine g_aload_n E gdX12_acts_602 rfl 0 rfl ?_
      refine g_get (T := TX12) E fw_X12 0 (wM_0 g ad o10) rfl 68 (by decide) w_1534 rfl rfl gdX12_acts_603 ?_
      refine g_iload E gdX12_acts_606 3 rfl ?_
      refine g_aload_n E gdX12_acts_608 rfl 0 rfl ?_
      refine g_get (T := TX12) E fw_X12 0 (wM_0 g ad o10) rfl 70 (by decide) w_1536 rfl rfl gdX12_acts_609 ?_
      refine g_iload E gdX12_acts_612 3 rfl ?_
      obtain ⟨hi11, h⟩ := qIn_of h
      refine g_iald E 57 (wM_57 g ad o10) (by decide) hi11 gdX12_acts_614 ?_
      obtain ⟨n12, e_n12, h⟩ := qNm_of h
      refine g_nmi e_n12 ?_
      obtain ⟨hi13, h⟩ := qIn_of h
      obtain ⟨o14, e_o14, h⟩ := qNm_of h
      refine g_iast (ws' := wM g ad o14) E 55 (wM_55 g ad o10) (by decide) hi13 (by rw [e_o14]; exact wM_s55 g ad o10 _ _) gdX12_acts_615 ?_
      refine g_iinc E [(7, iv (x7 + 1)), (0, .ref (ad 0)), (3, iv x3), (6, iv x6)] gdX12_acts_616 3 rfl (by decide) rfl ?_
      refine g_goto E 582 gdX12_acts_619 (by decide) ?_
      refine g_sub E [1, 2, 3, 0] rfl ?_
      exact k0 o14 (x7 + 1) (Option.some.inj h).symm
  have j582 : ∀ (o : OO) (x3 : Int) (x6 : Int) (x7 : Int), e_X12_acts_582 o x3 x6 x7 = some v → Go X 582 (wM g ad o) [(0, .ref (ad 0)), (3, iv x3), (6, iv x6), (7, iv x7)] [] := by
    intro o x3 x6 x7 h
    unfold e_X12_acts_582 at h
    obtain ⟨r, hr, h⟩ := qB_of h
    refine l582 x3 x6 r _ hr ?_
    ·
      intro u0 e
      have e := e.symm
      subst e
      have h : b_X12_acts_622 u0 x6 = some v := h
      exact j622 u0 x6 h
  have j568 : ∀ (o : OO) (x3 : Int) (x6 : Int), b_X12_acts_568 o x3 x6 = some v → Go X 568 (wM g ad o) [(0, .ref (ad 0)), (3, iv x3), (6, iv x6)] [] := by
    intro o x3 x6 h
    unfold b_X12_acts_568 at h
    refine g_aload_n E gdX12_acts_568 rfl 0 rfl ?_
    refine g_iload_n E gdX12_acts_569 rfl 1 rfl ?_
    obtain ⟨o15, e_o15, h⟩ := qNm_of h
    refine g_puti (T := TX12) (ws' := wM g ad o15) E fw_X12 tyX12 tyX12_ok nmX12 0 (wM_0 g ad o) rfl 65 (by decide) w_1531 rfl rfl (by decide +kernel) (Nat.le_of_ble_eq_true rfl) (by rw [e_o15]; exact wM_p0_65 g ad o _) gdX12_acts_570 ?_
    refine g_aload_n E gdX12_acts_573 rfl 0 rfl ?_
    refine g_iload E gdX12_acts_574 2 rfl ?_
    obtain ⟨o16, e_o16, h⟩ := qNm_of h
    refine g_puti (T := TX12) (ws' := wM g ad o16) E fw_X12 tyX12 tyX12_ok nmX12 0 (wM_0 g ad o15) rfl 66 (by decide) w_1532 rfl rfl (by decide +kernel) (Nat.le_of_ble_eq_true rfl) (by rw [e_o16]; exact wM_p0_66 g ad o15 _) gdX12_acts_576 ?_
    refine g_iconst E gdX12_acts_579 ?_
    refine g_istore E [(7, iv 0), (0, .ref (ad 0)), (3, iv x3), (6, iv x6)] gdX12_acts_580 (by decide) rfl ?_
    refine g_sub E [1, 2, 3, 0] rfl ?_
    exact j582 o16 x3 x6 0 h
  have j562 : ∀ (o : OO) (x1 : Int) (x3 : Int) (x6 : Int) (x7 : Int) (v : (OO × Int) ⊕ ((OO))), b_X12_acts_562 o x1 x3 x6 x7 = some v → (∀ (o : OO) (x7 : Int), v = .inl (o, x7) → Go X 437 (wM g ad o) [(0, .ref (ad 0)), (1, iv x1), (3, iv x3), (6, iv x6), (7, iv x7)] []) → (∀ (o : OO), v = .inr (o) → Go X 568 (wM g ad o) [(0, .ref (ad 0)), (3, iv x3), (6, iv x6)] []) → Go X 562 (wM g ad o) [(0, .ref (ad 0)), (1, iv x1), (3, iv x3), (6, iv x6), (7, iv x7)] [] := by
    intro o x1 x3 x6 x7 v h k0 k1
    unfold b_X12_acts_562 at h
    refine g_iinc E [(7, iv (x7 + 1)), (0, .ref (ad 0)), (1, iv x1), (3, iv x3), (6, iv x6)] gdX12_acts_562 4 rfl (by decide) rfl ?_
    refine g_goto E 437 gdX12_acts_565 (by decide) ?_
    refine g_sub E [1, 2, 3, 4, 0] rfl ?_
    exact k0 o (x7 + 1) (Option.some.inj h).symm
  have j556 : ∀ (o : OO) (x1 : Int) (x3 : Int) (x6 : Int) (x7 : Int) (x8 : Int) (v : (OO × Int) ⊕ ((OO))), b_X12_acts_556 o x1 x3 x6 x7 x8 = some v → (∀ (o : OO) (x8 : Int), v = .inl (o, x8) → Go X 446 (wM g ad o) [(0, .ref (ad 0)), (1, iv x1), (3, iv x3), (6, iv x6), (7, iv x7), (8, iv x8)] []) → (∀ (o : OO), v = .inr (o) → Go X 562 (wM g ad o) [(0, .ref (ad 0)), (1, iv x1), (3, iv x3), (6, iv x6), (7, iv x7)] []) → Go X 556 (wM g ad o) [(0, .ref (ad 0)), (1, iv x1), (3, iv x3), (6, iv x6), (7, iv x7), (8, iv x8)] [] := by
    intro o x1 x3 x6 x7 x8 v h k0 k1
    unfold b_X12_acts_556 at h
    refine g_iinc E [(8, iv (x8 + 1)), (0, .ref (ad 0)), (1, iv x1), (3, iv x3), (6, iv x6), (7, iv x7)] gdX12_acts_556 5 rfl (by decide) rfl ?_
    refine g_goto E 446 gdX12_acts_559 (by decide) ?_
    refine g_sub E [1, 2, 3, 4, 5, 0] rfl ?_
    exact k0 o (x8 + 1) (Option.some.inj h).symm
  have j550 : ∀ (o : OO) (x1 : Int) (x3 : Int) (x6 : Int) (x7 : Int) (x8 : Int) (x9 : Int) (v : (OO × Int) ⊕ ((OO))), b_X12_acts_550 o x1 x3 x6 x7 x8 x9 = some v → (∀ (o : OO) (x9 : Int), v = .inl (o, x9) → Go X 455 (wM g ad o) [(0, .ref (ad 0)), (1, iv x1), (3, iv x3), (6, iv x6), (7, iv x7), (8, iv x8), (9, iv x9)] []) → (∀ (o : OO), v = .inr (o) → Go X 556 (wM g ad o) [(0, .ref (ad 0)), (1, iv x1), (3, iv x3), (6, iv x6), (7, iv x7), (8, iv x8)] []) → Go X 550 (wM g ad o) [(0, .ref (ad 0)), (1, iv x1), (3, iv x3), (6, iv x6), (7, iv x7), (8, iv x8), (9, iv x9)] [] := by
    intro o x1 x3 x6 x7 x8 x9 v h k0 k1
    unfold b_X12_acts_550 at h
    refine g_iinc E [(9, iv (x9 + 1)), (0, .ref (ad 0)), (1, iv x1), (3, iv x3), (6, iv x6), (7, iv x7), (8, iv x8)] gdX12_acts_550 6 rfl (by decide) rfl ?_
    refine g_goto E 455 gdX12_acts_553 (by decide) ?_
    refine g_sub E [1, 2, 3, 4, 5, 6, 0] rfl ?_
    exact k0 o (x9 + 1) (Option.some.inj h).symm
  have j549 : ∀ (o : OO) (x1 : Int) (x3 : Int) (x6 : Int) (x7 : Int) (x8 : Int) (x9 : Int) (y1 : Int) (y2 : Int) (v : (OO × Int) ⊕ ((OO))), b_X12_acts_549 o x1 x3 x6 x7 x8 x9 y1 y2 = some v → (∀ (o : OO) (x9 : Int), v = .inl (o, x9) → Go X 455 (wM g ad o) [(0, .ref (ad 0)), (1, iv x1), (3, iv x3), (6, iv x6), (7, iv x7), (8, iv x8), (9, iv x9)] []) → (∀ (o : OO), v = .inr (o) → Go X 556 (wM g ad o) [(0, .ref (ad 0)), (1, iv x1), (3, iv x3), (6, iv x6), (7, iv x7), (8, iv x8)] []) → Go X 549 (wM g ad o) [(0, .ref (ad 0)), (1, iv x1), (3, iv x3), (6, iv x6), (7, iv x7), (8, iv x8), (9, iv x9)] [iv y2, iv y1, .ref (ad 57)] := by
    intro o x1 x3 x6 x7 x8 x9 y1 y2 v h k0 k1
    unfold b_X12_acts_549 at h
    obtain ⟨hi17, h⟩ := qIn_of h
    obtain ⟨o18, e_o18, h⟩ := qNm_of h
    refine g_iast (ws' := wM g ad o18) E 57 (wM_57 g ad o) (by decide) hi17 (by rw [e_o18]; exact wM_s57 g ad o _ _) gdX12_acts_549 ?_
    exact j550 o18 x1 x3 x6 x7 x8 x9 v h k0 k1
  have l455 : ∀ (x1 : Int) (x3 : Int) (x6 : Int) (x7 : Int) (x8 : Int) (r : (OO)) (s0 : OO × Int), loopW (fun s => l_X12_acts_455 x1 x3 x6 x7 x8 s.1 s.2) s0 = some r → (∀ (o : OO), r = (o) → Go X 556 (wM g ad o) [(0, .ref (ad 0)), (1, iv x1), (3, iv x3), (6, iv x6), (7, iv x7), (8, iv x8)] []) → Go X 455 (wM g ad s0.1) [(0, .ref (ad 0)), (1, iv x1), (3, iv x3), (6, iv x6), (7, iv x7), (8, iv x8), (9, iv s0.2)] [] := by
    intro x1 x3 x6 x7 x8 r s0 h k1
    refine loop_rule (Head := fun s0 => Go X 455 (wM g ad s0.1) [(0, .ref (ad 0)), (1, iv x1), (3, iv x3), (6, iv x6), (7, iv x7), (8, iv x8), (9, iv s0.2)] []) h ?_
    intro s v h kk kx
    obtain ⟨o, x9⟩ := s
    have h : l_X12_acts_455 x1 x3 x6 x7 x8 o x9 = some v := h
    have k0 : ∀ (o : OO) (x9 : Int), v = .inl (o, x9) → Go X 455 (wM g ad o) [(0, .ref (ad 0)), (1, iv x1), (3, iv x3), (6, iv x6), (7, iv x7), (8, iv x8), (9, iv x9)] [] := fun o x9 e => kk (o, x9) e
    have k1 : ∀ (o : OO), v = .inr (o) → Go X 556 (wM g ad o) [(0, .ref (ad 0)), (1, iv x1), (3, iv x3), (6, iv x6), (7, iv x7), (8, iv x8)] [] := fun o e => k1 o (kx _ e).symm
    unfold l_X12_acts_455 at h
    refine g_iload E gdX12_acts_455 6 rfl ?_
    refine g_iconst E gdX12_acts_457 ?_
    refine g_icmp_ge E 556 gdX12_acts_458 (by decide) h (fun h => ?_) (fun h => ?_)
    ·
      refine g_sub E [0, 1, 2, 3, 4, 5] rfl ?_
      exact k1 o (Option.some.inj h).symm
    ·
      refine g_aload_n E gdX12_acts_461 rfl 0 rfl ?_
      refine g_iload_n E gdX12_acts_462 rfl 1 rfl ?_
      refine g_iload E gdX12_acts_463 5 rfl ?_
      refine g_iload E gdX12_acts_465 6 rfl ?_
      obtain ⟨r19, hc20, h⟩ := qB_of h
      refine g_Vi (r := r19) (As := [iv x1, iv x8, iv x9]) (rest := []) (w := wM g ad o) E (c_X12_ahead l g ad o x1 x8 x9 r19 hc20) okm_X12_ahead okw_X12_ahead w_2074 rfl (wM_0 g ad o) rfl rfl (Nat.le_of_ble_eq_true rfl) ⟨Nat.le_of_ble_eq_true rfl, Nat.le_of_ble_eq_true rfl⟩ gdX12_acts_467 ?_
      refine g_istore E [(10, iv r19), (0, .ref (ad 0)), (1, iv x1), (3, iv x3), (6, iv x6), (7, iv x7), (8, iv x8), (9, iv x9)] gdX12_acts_470 (by decide) rfl ?_
      refine g_iload E gdX12_acts_472 0 rfl ?_
      refine g_bipush E gdX12_acts_474 (by decide) ?_
      refine g_icmp_eq E 550 gdX12_acts_476 (by decide) h (fun h => ?_) (fun h => ?_)
      ·
        refine g_sub E [1, 2, 3, 4, 5, 6, 7] rfl ?_
        exact j550 o x1 x3 x6 x7 x8 x9 v h k0 k1
      ·
        refine g_aload_n E gdX12_acts_479 rfl 1 rfl ?_
        refine g_get (T := TX12) E fw_X12 0 (wM_0 g ad o) rfl 69 (by decide) w_1535 rfl rfl gdX12_acts_480 ?_
        refine g_iload E gdX12_acts_483 6 rfl ?_
        obtain ⟨hi21, h⟩ := qIn_of h
        refine g_iald E 56 (wM_56 g ad o) (by decide) hi21 gdX12_acts_485 ?_
        obtain ⟨n22, e_n22, h⟩ := qNm_of h
        refine g_nmi e_n22 ?_
        refine g_aload_n E gdX12_acts_486 rfl 1 rfl ?_
        refine g_get (T := TX12) E fw_X12 0 (wM_0 g ad o) rfl 70 (by decide) w_1536 rfl rfl gdX12_acts_487 ?_
        refine g_iload E gdX12_acts_490 6 rfl ?_
        obtain ⟨hi23, h⟩ := qIn_of h
        refine g_iald E 57 (wM_57 g ad o) (by decide) hi23 gdX12_acts_492 ?_
        obtain ⟨n24, e_n24, h⟩ := qNm_of h
        refine g_nmi e_n24 ?_
        refine g_iadd E gdX12_acts_493 ?_
        refine g_aload_n E gdX12_acts_494 rfl 1 rfl ?_
        refine g_get (T := TX12) E fw_X12 0 (wM_0 g ad o) rfl 6 (by decide) w_1472 rfl rfl gdX12_acts_495 ?_
        refine g_bipush E gdX12_acts_498 (by decide) ?_
        refine g_iload_n E gdX12_acts_500 rfl 2 rfl ?_
        refine g_imul E gdX12_acts_501 ?_
        refine g_iconst E gdX12_acts_502 ?_
        refine g_iload E gdX12_acts_503 6 rfl ?_
        refine g_imul E gdX12_acts_505 ?_
        refine g_iadd E gdX12_acts_506 ?_
        obtain ⟨hi25, h⟩ := qIn_of h
        refine g_iald E 3 (wM_3 g ad o) (by decide) hi25 gdX12_acts_507 ?_
        obtain ⟨n26, e_n26, h⟩ := qNm_of h
        refine g_nmi e_n26 ?_
        refine g_isub E gdX12_acts_508 ?_
        refine g_aload_n E gdX12_acts_509 rfl 1 rfl ?_
        refine g_get (T := TX12) E fw_X12 0 (wM_0 g ad o) rfl 69 (by decide) w_1535 rfl rfl gdX12_acts_510 ?_
        refine g_iload E gdX12_acts_513 0 rfl ?_
        obtain ⟨hi27, h⟩ := qIn_of h
        refine g_iald E 56 (wM_56 g ad o) (by decide) hi27 gdX12_acts_515 ?_
        obtain ⟨n28, e_n28, h⟩ := qNm_of h
        refine g_nmi e_n28 ?_
        refine g_isub E gdX12_acts_516 ?_
        obtain ⟨n29, e_n29, h⟩ := qNm_of h
        refine g_nmi e_n29 ?_
        refine g_istore E [(11, iv n29), (10, iv r19), (0, .ref (ad 0)), (1, iv x1), (3, iv x3), (6, iv x6), (7, iv x7), (8, iv x8), (9, iv x9)] gdX12_acts_517 (by decide) rfl ?_
        refine g_aload_n E gdX12_acts_519 rfl 2 rfl ?_
        refine g_get (T := TX12) E fw_X12 0 (wM_0 g ad o) rfl 70 (by decide) w_1536 rfl rfl gdX12_acts_520 ?_
        refine g_iload E gdX12_acts_523 1 rfl ?_
        refine g_iload E gdX12_acts_525 0 rfl ?_
        refine g_aload_n E gdX12_acts_527 rfl 2 rfl ?_
        refine g_get (T := TX12) E fw_X12 0 (wM_0 g ad o) rfl 70 (by decide) w_1536 rfl rfl gdX12_acts_528 ?_
        refine g_iload E gdX12_acts_531 1 rfl ?_
        obtain ⟨hi30, h⟩ := qIn_of h
        refine g_iald E 57 (wM_57 g ad o) (by decide) hi30 gdX12_acts_533 ?_
        obtain ⟨n31, e_n31, h⟩ := qNm_of h
        refine g_nmi e_n31 ?_
        refine g_icmp_ge E 542 gdX12_acts_534 (by decide) h (fun h => ?_) (fun h => ?_)
        ·
          refine g_aload_n E gdX12_acts_542 rfl 2 rfl ?_
          refine g_get (T := TX12) E fw_X12 0 (wM_0 g ad o) rfl 70 (by decide) w_1536 rfl rfl gdX12_acts_543 ?_
          refine g_iload E gdX12_acts_546 1 rfl ?_
          obtain ⟨hi32, h⟩ := qIn_of h
          refine g_iald E 57 (wM_57 g ad o) (by decide) hi32 gdX12_acts_548 ?_
          obtain ⟨n33, e_n33, h⟩ := qNm_of h
          refine g_nmi e_n33 ?_
          refine g_sub E [2, 3, 4, 5, 6, 7, 8] rfl ?_
          exact j549 o x1 x3 x6 x7 x8 x9 r19 n33 v h k0 k1
        ·
          refine g_iload E gdX12_acts_537 0 rfl ?_
          refine g_goto E 549 gdX12_acts_539 (by decide) ?_
          refine g_sub E [2, 3, 4, 5, 6, 7, 8] rfl ?_
          exact j549 o x1 x3 x6 x7 x8 x9 r19 n29 v h k0 k1
  have j455 : ∀ (o : OO) (x1 : Int) (x3 : Int) (x6 : Int) (x7 : Int) (x8 : Int) (x9 : Int) (v : (OO × Int) ⊕ ((OO))), e_X12_acts_455 o x1 x3 x6 x7 x8 x9 = some v → (∀ (o : OO) (x8 : Int), v = .inl (o, x8) → Go X 446 (wM g ad o) [(0, .ref (ad 0)), (1, iv x1), (3, iv x3), (6, iv x6), (7, iv x7), (8, iv x8)] []) → (∀ (o : OO), v = .inr (o) → Go X 562 (wM g ad o) [(0, .ref (ad 0)), (1, iv x1), (3, iv x3), (6, iv x6), (7, iv x7)] []) → Go X 455 (wM g ad o) [(0, .ref (ad 0)), (1, iv x1), (3, iv x3), (6, iv x6), (7, iv x7), (8, iv x8), (9, iv x9)] [] := by
    intro o x1 x3 x6 x7 x8 x9 v h k0 k1
    unfold e_X12_acts_455 at h
    obtain ⟨r, hr, h⟩ := qB_of h
    refine l455 x1 x3 x6 x7 x8 r _ hr ?_
    ·
      intro u0 e
      have e := e.symm
      subst e
      have h : b_X12_acts_556 u0 x1 x3 x6 x7 x8 = some v := h
      exact j556 u0 x1 x3 x6 x7 x8 v h k0 k1
  have l446 : ∀ (x1 : Int) (x3 : Int) (x6 : Int) (x7 : Int) (r : (OO)) (s0 : OO × Int), loopW (fun s => l_X12_acts_446 x1 x3 x6 x7 s.1 s.2) s0 = some r → (∀ (o : OO), r = (o) → Go X 562 (wM g ad o) [(0, .ref (ad 0)), (1, iv x1), (3, iv x3), (6, iv x6), (7, iv x7)] []) → Go X 446 (wM g ad s0.1) [(0, .ref (ad 0)), (1, iv x1), (3, iv x3), (6, iv x6), (7, iv x7), (8, iv s0.2)] [] := by
    intro x1 x3 x6 x7 r s0 h k1
    refine loop_rule (Head := fun s0 => Go X 446 (wM g ad s0.1) [(0, .ref (ad 0)), (1, iv x1), (3, iv x3), (6, iv x6), (7, iv x7), (8, iv s0.2)] []) h ?_
    intro s v h kk kx
    obtain ⟨o, x8⟩ := s
    have h : l_X12_acts_446 x1 x3 x6 x7 o x8 = some v := h
    have k0 : ∀ (o : OO) (x8 : Int), v = .inl (o, x8) → Go X 446 (wM g ad o) [(0, .ref (ad 0)), (1, iv x1), (3, iv x3), (6, iv x6), (7, iv x7), (8, iv x8)] [] := fun o x8 e => kk (o, x8) e
    have k1 : ∀ (o : OO), v = .inr (o) → Go X 562 (wM g ad o) [(0, .ref (ad 0)), (1, iv x1), (3, iv x3), (6, iv x6), (7, iv x7)] [] := fun o e => k1 o (kx _ e).symm
    unfold l_X12_acts_446 at h
    refine g_iload E gdX12_acts_446 5 rfl ?_
    refine g_iload_n E gdX12_acts_448 rfl 2 rfl ?_
    refine g_icmp_ge E 562 gdX12_acts_449 (by decide) h (fun h => ?_) (fun h => ?_)
    ·
      refine g_sub E [0, 1, 2, 3, 4] rfl ?_
      exact k1 o (Option.some.inj h).symm
    ·
      refine g_iconst E gdX12_acts_452 ?_
      refine g_istore E [(9, iv 0), (0, .ref (ad 0)), (1, iv x1), (3, iv x3), (6, iv x6), (7, iv x7), (8, iv x8)] gdX12_acts_453 (by decide) rfl ?_
      refine g_sub E [1, 2, 3, 4, 5, 6, 0] rfl ?_
      exact j455 o x1 x3 x6 x7 x8 0 v h k0 k1
  have j446 : ∀ (o : OO) (x1 : Int) (x3 : Int) (x6 : Int) (x7 : Int) (x8 : Int) (v : (OO × Int) ⊕ ((OO))), e_X12_acts_446 o x1 x3 x6 x7 x8 = some v → (∀ (o : OO) (x7 : Int), v = .inl (o, x7) → Go X 437 (wM g ad o) [(0, .ref (ad 0)), (1, iv x1), (3, iv x3), (6, iv x6), (7, iv x7)] []) → (∀ (o : OO), v = .inr (o) → Go X 568 (wM g ad o) [(0, .ref (ad 0)), (3, iv x3), (6, iv x6)] []) → Go X 446 (wM g ad o) [(0, .ref (ad 0)), (1, iv x1), (3, iv x3), (6, iv x6), (7, iv x7), (8, iv x8)] [] := by
    intro o x1 x3 x6 x7 x8 v h k0 k1
    unfold e_X12_acts_446 at h
    obtain ⟨r, hr, h⟩ := qB_of h
    refine l446 x1 x3 x6 x7 r _ hr ?_
    ·
      intro u0 e
      have e := e.symm
      subst e
      have h : b_X12_acts_562 u0 x1 x3 x6 x7 = some v := h
      exact j562 u0 x1 x3 x6 x7 v h k0 k1
  have l437 : ∀ (x1 : Int) (x3 : Int) (x6 : Int) (r : (OO)) (s0 : OO × Int), loopW (fun s => l_X12_acts_437 x1 x3 x6 s.1 s.2) s0 = some r → (∀ (o : OO), r = (o) → Go X 568 (wM g ad o) [(0, .ref (ad 0)), (3, iv x3), (6, iv x6)] []) → Go X 437 (wM g ad s0.1) [(0, .ref (ad 0)), (1, iv x1), (3, iv x3), (6, iv x6), (7, iv s0.2)] [] := by
    intro x1 x3 x6 r s0 h k1
    refine loop_rule (Head := fun s0 => Go X 437 (wM g ad s0.1) [(0, .ref (ad 0)), (1, iv x1), (3, iv x3), (6, iv x6), (7, iv s0.2)] []) h ?_
    intro s v h kk kx
    obtain ⟨o, x7⟩ := s
    have h : l_X12_acts_437 x1 x3 x6 o x7 = some v := h
    have k0 : ∀ (o : OO) (x7 : Int), v = .inl (o, x7) → Go X 437 (wM g ad o) [(0, .ref (ad 0)), (1, iv x1), (3, iv x3), (6, iv x6), (7, iv x7)] [] := fun o x7 e => kk (o, x7) e
    have k1 : ∀ (o : OO), v = .inr (o) → Go X 568 (wM g ad o) [(0, .ref (ad 0)), (3, iv x3), (6, iv x6)] [] := fun o e => k1 o (kx _ e).symm
    unfold l_X12_acts_437 at h
    refine g_iload E gdX12_acts_437 4 rfl ?_
    refine g_iload_n E gdX12_acts_439 rfl 2 rfl ?_
    refine g_icmp_ge E 568 gdX12_acts_440 (by decide) h (fun h => ?_) (fun h => ?_)
    ·
      refine g_sub E [0, 2, 3] rfl ?_
      exact k1 o (Option.some.inj h).symm
    ·
      refine g_iconst E gdX12_acts_443 ?_
      refine g_istore E [(8, iv 0), (0, .ref (ad 0)), (1, iv x1), (3, iv x3), (6, iv x6), (7, iv x7)] gdX12_acts_444 (by decide) rfl ?_
      refine g_sub E [1, 2, 3, 4, 5, 0] rfl ?_
      exact j446 o x1 x3 x6 x7 0 v h k0 k1
  have j437 : ∀ (o : OO) (x1 : Int) (x3 : Int) (x6 : Int) (x7 : Int), e_X12_acts_437 o x1 x3 x6 x7 = some v → Go X 437 (wM g ad o) [(0, .ref (ad 0)), (1, iv x1), (3, iv x3), (6, iv x6), (7, iv x7)] [] := by
    intro o x1 x3 x6 x7 h
    unfold e_X12_acts_437 at h
    obtain ⟨r, hr, h⟩ := qB_of h
    refine l437 x1 x3 x6 r _ hr ?_
    ·
      intro u0 e
      have e := e.symm
      subst e
      have h : b_X12_acts_568 u0 x3 x6 = some v := h
      exact j568 u0 x3 x6 h
  have j434 : ∀ (o : OO) (x1 : Int) (x3 : Int) (x6 : Int), b_X12_acts_434 o x1 x3 x6 = some v → Go X 434 (wM g ad o) [(0, .ref (ad 0)), (1, iv x1), (3, iv x3), (6, iv x6)] [] := by
    intro o x1 x3 x6 h
    unfold b_X12_acts_434 at h
    refine g_iconst E gdX12_acts_434 ?_
    refine g_istore E [(7, iv 0), (0, .ref (ad 0)), (1, iv x1), (3, iv x3), (6, iv x6)] gdX12_acts_435 (by decide) rfl ?_
    refine g_sub E [1, 2, 3, 4, 0] rfl ?_
    exact j437 o x1 x3 x6 0 h
  have l405 : ∀ (x1 : Int) (x3 : Int) (x6 : Int) (r : (OO)) (s0 : OO × Int), loopW (fun s => l_X12_acts_405 x1 x3 x6 s.1 s.2) s0 = some r → (∀ (o : OO), r = (o) → Go X 434 (wM g ad o) [(0, .ref (ad 0)), (1, iv x1), (3, iv x3), (6, iv x6)] []) → Go X 405 (wM g ad s0.1) [(0, .ref (ad 0)), (1, iv x1), (3, iv x3), (6, iv x6), (7, iv s0.2)] [] := by
    intro x1 x3 x6 r s0 h k1
    refine loop_rule (Head := fun s0 => Go X 405 (wM g ad s0.1) [(0, .ref (ad 0)), (1, iv x1), (3, iv x3), (6, iv x6), (7, iv s0.2)] []) h ?_
    intro s v h kk kx
    obtain ⟨o, x7⟩ := s
    have h : l_X12_acts_405 x1 x3 x6 o x7 = some v := h
    have k0 : ∀ (o : OO) (x7 : Int), v = .inl (o, x7) → Go X 405 (wM g ad o) [(0, .ref (ad 0)), (1, iv x1), (3, iv x3), (6, iv x6), (7, iv x7)] [] := fun o x7 e => kk (o, x7) e
    have k1 : ∀ (o : OO), v = .inr (o) → Go X 434 (wM g ad o) [(0, .ref (ad 0)), (1, iv x1), (3, iv x3), (6, iv x6)] [] := fun o e => k1 o (kx _ e).symm
    unfold l_X12_acts_405 at h
    refine g_iload E gdX12_acts_405 4 rfl ?_
    refine g_iload_n E gdX12_acts_407 rfl 2 rfl ?_
    refine g_icmp_ge E 434 gdX12_acts_408 (by decide) h (fun h => ?_) (fun h => ?_)
    ·
      refine g_sub E [0, 1, 2, 3] rfl ?_
      exact k1 o (Option.some.inj h).symm
    ·
      refine g_aload_n E gdX12_acts_411 rfl 0 rfl ?_
      refine g_get (T := TX12) E fw_X12 0 (wM_0 g ad o) rfl 70 (by decide) w_1536 rfl rfl gdX12_acts_412 ?_
      refine g_iload E gdX12_acts_415 4 rfl ?_
      refine g_iload E gdX12_acts_417 3 rfl ?_
      refine g_aload_n E gdX12_acts_419 rfl 0 rfl ?_
      refine g_get (T := TX12) E fw_X12 0 (wM_0 g ad o) rfl 69 (by decide) w_1535 rfl rfl gdX12_acts_420 ?_
      refine g_iload E gdX12_acts_423 4 rfl ?_
      obtain ⟨hi34, h⟩ := qIn_of h
      refine g_iald E 56 (wM_56 g ad o) (by decide) hi34 gdX12_acts_425 ?_
      obtain ⟨n35, e_n35, h⟩ := qNm_of h
      refine g_nmi e_n35 ?_
      refine g_isub E gdX12_acts_426 ?_
      obtain ⟨hi36, h⟩ := qIn_of h
      obtain ⟨o37, e_o37, h⟩ := qNm_of h
      refine g_iast (ws' := wM g ad o37) E 57 (wM_57 g ad o) (by decide) hi36 (by rw [e_o37]; exact wM_s57 g ad o _ _) gdX12_acts_427 ?_
      refine g_iinc E [(7, iv (x7 + 1)), (0, .ref (ad 0)), (1, iv x1), (3, iv x3), (6, iv x6)] gdX12_acts_428 4 rfl (by decide) rfl ?_
      refine g_goto E 405 gdX12_acts_431 (by decide) ?_
      refine g_sub E [1, 2, 3, 4, 0] rfl ?_
      exact k0 o37 (x7 + 1) (Option.some.inj h).symm
  have j405 : ∀ (o : OO) (x1 : Int) (x3 : Int) (x6 : Int) (x7 : Int), e_X12_acts_405 o x1 x3 x6 x7 = some v → Go X 405 (wM g ad o) [(0, .ref (ad 0)), (1, iv x1), (3, iv x3), (6, iv x6), (7, iv x7)] [] := by
    intro o x1 x3 x6 x7 h
    unfold e_X12_acts_405 at h
    obtain ⟨r, hr, h⟩ := qB_of h
    refine l405 x1 x3 x6 r _ hr ?_
    ·
      intro u0 e
      have e := e.symm
      subst e
      have h : b_X12_acts_434 u0 x1 x3 x6 = some v := h
      exact j434 u0 x1 x3 x6 h
  have j402 : ∀ (o : OO) (x1 : Int) (x3 : Int) (x6 : Int), b_X12_acts_402 o x1 x3 x6 = some v → Go X 402 (wM g ad o) [(0, .ref (ad 0)), (1, iv x1), (3, iv x3), (6, iv x6)] [] := by
    intro o x1 x3 x6 h
    unfold b_X12_acts_402 at h
    refine g_iconst E gdX12_acts_402 ?_
    refine g_istore E [(7, iv 0), (0, .ref (ad 0)), (1, iv x1), (3, iv x3), (6, iv x6)] gdX12_acts_403 (by decide) rfl ?_
    refine g_sub E [1, 2, 3, 4, 0] rfl ?_
    exact j405 o x1 x3 x6 0 h
  have j394 : ∀ (o : OO) (x1 : Int) (x3 : Int) (x7 : Int) (y0 : Int) (v : (Int × Int) ⊕ ((Int))), b_X12_acts_394 o x1 x3 x7 y0 = some v → (∀ (x6 : Int) (x7 : Int), v = .inl (x6, x7) → Go X 364 (wM g ad o) [(0, .ref (ad 0)), (1, iv x1), (3, iv x3), (6, iv x6), (7, iv x7)] []) → (∀ (x6 : Int), v = .inr (x6) → Go X 402 (wM g ad o) [(0, .ref (ad 0)), (1, iv x1), (3, iv x3), (6, iv x6)] []) → Go X 394 (wM g ad o) [(0, .ref (ad 0)), (1, iv x1), (3, iv x3), (7, iv x7)] [iv y0] := by
    intro o x1 x3 x7 y0 v h k0 k1
    unfold b_X12_acts_394 at h
    refine g_istore E [(6, iv y0), (0, .ref (ad 0)), (1, iv x1), (3, iv x3), (7, iv x7)] gdX12_acts_394 (by decide) rfl ?_
    refine g_iinc E [(7, iv (x7 + 1)), (6, iv y0), (0, .ref (ad 0)), (1, iv x1), (3, iv x3)] gdX12_acts_396 4 rfl (by decide) rfl ?_
    refine g_goto E 364 gdX12_acts_399 (by decide) ?_
    refine g_sub E [2, 3, 4, 1, 0] rfl ?_
    exact k0 y0 (x7 + 1) (Option.some.inj h).symm
  have l364 : ∀ (o : OO) (x1 : Int) (x3 : Int) (r : (Int)) (s0 : Int × Int), loopW (fun s => l_X12_acts_364 o x1 x3 s.1 s.2) s0 = some r → (∀ (x6 : Int), r = (x6) → Go X 402 (wM g ad o) [(0, .ref (ad 0)), (1, iv x1), (3, iv x3), (6, iv x6)] []) → Go X 364 (wM g ad o) [(0, .ref (ad 0)), (1, iv x1), (3, iv x3), (6, iv s0.1), (7, iv s0.2)] [] := by
    intro o x1 x3 r s0 h k1
    refine loop_rule (Head := fun s0 => Go X 364 (wM g ad o) [(0, .ref (ad 0)), (1, iv x1), (3, iv x3), (6, iv s0.1), (7, iv s0.2)] []) h ?_
    intro s v h kk kx
    obtain ⟨x6, x7⟩ := s
    have h : l_X12_acts_364 o x1 x3 x6 x7 = some v := h
    have k0 : ∀ (x6 : Int) (x7 : Int), v = .inl (x6, x7) → Go X 364 (wM g ad o) [(0, .ref (ad 0)), (1, iv x1), (3, iv x3), (6, iv x6), (7, iv x7)] [] := fun x6 x7 e => kk (x6, x7) e
    have k1 : ∀ (x6 : Int), v = .inr (x6) → Go X 402 (wM g ad o) [(0, .ref (ad 0)), (1, iv x1), (3, iv x3), (6, iv x6)] [] := fun x6 e => k1 x6 (kx _ e).symm
    unfold l_X12_acts_364 at h
    refine g_iload E gdX12_acts_364 4 rfl ?_
    refine g_iload_n E gdX12_acts_366 rfl 2 rfl ?_
    refine g_icmp_ge E 402 gdX12_acts_367 (by decide) h (fun h => ?_) (fun h => ?_)
    ·
      refine g_sub E [0, 1, 2, 3] rfl ?_
      exact k1 x6 (Option.some.inj h).symm
    ·
      refine g_aload_n E gdX12_acts_370 rfl 0 rfl ?_
      refine g_get (T := TX12) E fw_X12 0 (wM_0 g ad o) rfl 69 (by decide) w_1535 rfl rfl gdX12_acts_371 ?_
      refine g_iload E gdX12_acts_374 4 rfl ?_
      obtain ⟨hi38, h⟩ := qIn_of h
      refine g_iald E 56 (wM_56 g ad o) (by decide) hi38 gdX12_acts_376 ?_
      obtain ⟨n39, e_n39, h⟩ := qNm_of h
      refine g_nmi e_n39 ?_
      refine g_iload E gdX12_acts_377 3 rfl ?_
      refine g_icmp_le E 392 gdX12_acts_379 (by decide) h (fun h => ?_) (fun h => ?_)
      ·
        refine g_iload E gdX12_acts_392 3 rfl ?_
        refine g_sub E [0, 1, 2, 4] rfl ?_
        exact j394 o x1 x3 x7 x6 v h k0 k1
      ·
        refine g_aload_n E gdX12_acts_382 rfl 0 rfl ?_
        refine g_get (T := TX12) E fw_X12 0 (wM_0 g ad o) rfl 69 (by decide) w_1535 rfl rfl gdX12_acts_383 ?_
        refine g_iload E gdX12_acts_386 4 rfl ?_
        obtain ⟨hi40, h⟩ := qIn_of h
        refine g_iald E 56 (wM_56 g ad o) (by decide) hi40 gdX12_acts_388 ?_
        obtain ⟨n41, e_n41, h⟩ := qNm_of h
        refine g_nmi e_n41 ?_
        refine g_goto E 394 gdX12_acts_389 (by decide) ?_
        refine g_sub E [0, 1, 2, 4] rfl ?_
        exact j394 o x1 x3 x7 n41 v h k0 k1
  have j364 : ∀ (o : OO) (x1 : Int) (x3 : Int) (x6 : Int) (x7 : Int), e_X12_acts_364 o x1 x3 x6 x7 = some v → Go X 364 (wM g ad o) [(0, .ref (ad 0)), (1, iv x1), (3, iv x3), (6, iv x6), (7, iv x7)] [] := by
    intro o x1 x3 x6 x7 h
    unfold e_X12_acts_364 at h
    obtain ⟨r, hr, h⟩ := qB_of h
    refine l364 o x1 x3 r _ hr ?_
    ·
      intro u0 e
      have e := e.symm
      subst e
      have h : b_X12_acts_402 o x1 x3 u0 = some v := h
      exact j402 o x1 x3 u0 h
  have j338 : ∀ (o : OO) (x1 : Int) (x3 : Int) (x4 : Int) (x5 : Int), b_X12_acts_338 o x1 x3 x4 x5 = some v → Go X 338 (wM g ad o) [(0, .ref (ad 0)), (1, iv x1), (3, iv x3), (4, iv x4), (5, iv x5)] [] := by
    intro o x1 x3 x4 x5 h
    unfold b_X12_acts_338 at h
    refine g_iload E gdX12_acts_338 3 rfl ?_
    refine g_if_eq E 349 gdX12_acts_340 (by decide) h (fun h => ?_) (fun h => ?_)
    ·
      refine g_sub E [0] rfl ?_
      exact j349 o h
    ·
      refine g_iload E gdX12_acts_343 4 rfl ?_
      refine g_iload_n E gdX12_acts_345 rfl 2 rfl ?_
      refine g_icmp_ge E 355 gdX12_acts_346 (by decide) h (fun h => ?_) (fun h => ?_)
      ·
        refine g_aload_n E gdX12_acts_355 rfl 0 rfl ?_
        refine g_get (T := TX12) E fw_X12 0 (wM_0 g ad o) rfl 4 (by decide) w_1470 rfl rfl gdX12_acts_356 ?_
        refine g_istore E [(6, iv (o.1 0 4)), (0, .ref (ad 0)), (1, iv x1), (3, iv x3), (4, iv x4), (5, iv x5)] gdX12_acts_359 (by decide) rfl ?_
        refine g_iconst E gdX12_acts_361 ?_
        refine g_istore E [(7, iv 0), (6, iv (o.1 0 4)), (0, .ref (ad 0)), (1, iv x1), (3, iv x3), (4, iv x4), (5, iv x5)] gdX12_acts_362 (by decide) rfl ?_
        refine g_sub E [2, 3, 4, 1, 0] rfl ?_
        exact j364 o x1 x3 (o.1 0 4) 0 h
      ·
        refine g_sub E [0] rfl ?_
        exact j349 o h
  have j332 : ∀ (o : OO) (x1 : Int) (x3 : Int) (x4 : Int) (x5 : Int) (x6 : Int) (v : (OO × Int × Int) ⊕ ((OO × Int))), b_X12_acts_332 o x1 x3 x4 x5 x6 = some v → (∀ (o : OO) (x5 : Int) (x6 : Int), v = .inl (o, x5, x6) → Go X 177 (wM g ad o) [(0, .ref (ad 0)), (1, iv x1), (3, iv x3), (4, iv x4), (5, iv x5), (6, iv x6)] []) → (∀ (o : OO) (x5 : Int), v = .inr ((o, x5)) → Go X 338 (wM g ad o) [(0, .ref (ad 0)), (1, iv x1), (3, iv x3), (4, iv x4), (5, iv x5)] []) → Go X 332 (wM g ad o) [(0, .ref (ad 0)), (1, iv x1), (3, iv x3), (4, iv x4), (5, iv x5), (6, iv x6)] [] := by
    intro o x1 x3 x4 x5 x6 v h k0 k1
    unfold b_X12_acts_332 at h
    refine g_iinc E [(6, iv (x6 + 1)), (0, .ref (ad 0)), (1, iv x1), (3, iv x3), (4, iv x4), (5, iv x5)] gdX12_acts_332 5 rfl (by decide) rfl ?_
    refine g_goto E 177 gdX12_acts_335 (by decide) ?_
    refine g_sub E [1, 2, 3, 4, 5, 0] rfl ?_
    exact k0 o x5 (x6 + 1) (Option.some.inj h).symm
  have j326 : ∀ (o : OO) (x1 : Int) (x3 : Int) (x4 : Int) (x5 : Int) (x6 : Int) (x7 : Int) (v : (OO × Int × Int) ⊕ ((OO × Int))), b_X12_acts_326 o x1 x3 x4 x5 x6 x7 = some v → (∀ (o : OO) (x5 : Int) (x7 : Int), v = .inl (o, x5, x7) → Go X 191 (wM g ad o) [(0, .ref (ad 0)), (1, iv x1), (3, iv x3), (4, iv x4), (5, iv x5), (6, iv x6), (7, iv x7)] []) → (∀ (o : OO) (x5 : Int), v = .inr ((o, x5)) → Go X 332 (wM g ad o) [(0, .ref (ad 0)), (1, iv x1), (3, iv x3), (4, iv x4), (5, iv x5), (6, iv x6)] []) → Go X 326 (wM g ad o) [(0, .ref (ad 0)), (1, iv x1), (3, iv x3), (4, iv x4), (5, iv x5), (6, iv x6), (7, iv x7)] [] := by
    intro o x1 x3 x4 x5 x6 x7 v h k0 k1
    unfold b_X12_acts_326 at h
    refine g_iinc E [(7, iv (x7 + 1)), (0, .ref (ad 0)), (1, iv x1), (3, iv x3), (4, iv x4), (5, iv x5), (6, iv x6)] gdX12_acts_326 6 rfl (by decide) rfl ?_
    refine g_goto E 191 gdX12_acts_329 (by decide) ?_
    refine g_sub E [1, 2, 3, 4, 5, 6, 0] rfl ?_
    exact k0 o x5 (x7 + 1) (Option.some.inj h).symm
  have j307 : ∀ (o : OO) (x1 : Int) (x3 : Int) (x4 : Int) (x5 : Int) (x6 : Int) (x7 : Int) (y1 : Int) (y2 : Int) (v : (OO × Int × Int) ⊕ ((OO × Int))), b_X12_acts_307 o x1 x3 x4 x5 x6 x7 y1 y2 = some v → (∀ (o : OO) (x5 : Int) (x7 : Int), v = .inl (o, x5, x7) → Go X 191 (wM g ad o) [(0, .ref (ad 0)), (1, iv x1), (3, iv x3), (4, iv x4), (5, iv x5), (6, iv x6), (7, iv x7)] []) → (∀ (o : OO) (x5 : Int), v = .inr ((o, x5)) → Go X 332 (wM g ad o) [(0, .ref (ad 0)), (1, iv x1), (3, iv x3), (4, iv x4), (5, iv x5), (6, iv x6)] []) → Go X 307 (wM g ad o) [(0, .ref (ad 0)), (1, iv x1), (3, iv x3), (4, iv x4), (5, iv x5), (6, iv x6), (7, iv x7)] [iv y2, iv y1, .ref (ad 56)] := by
    intro o x1 x3 x4 x5 x6 x7 y1 y2 v h k0 k1
    unfold b_X12_acts_307 at h
    refine g_aload_n E gdX12_acts_307 rfl 0 rfl ?_
    refine g_get (T := TX12) E fw_X12 0 (wM_0 g ad o) rfl 6 (by decide) w_1472 rfl rfl gdX12_acts_308 ?_
    refine g_bipush E gdX12_acts_311 (by decide) ?_
    refine g_iload_n E gdX12_acts_313 rfl 1 rfl ?_
    refine g_imul E gdX12_acts_314 ?_
    refine g_iconst E gdX12_acts_315 ?_
    refine g_iload E gdX12_acts_316 6 rfl ?_
    refine g_imul E gdX12_acts_318 ?_
    refine g_iadd E gdX12_acts_319 ?_
    obtain ⟨hi42, h⟩ := qIn_of h
    refine g_iald E 3 (wM_3 g ad o) (by decide) hi42 gdX12_acts_320 ?_
    obtain ⟨n43, e_n43, h⟩ := qNm_of h
    refine g_nmi e_n43 ?_
    refine g_iadd E gdX12_acts_321 ?_
    obtain ⟨hi44, h⟩ := qIn_of h
    obtain ⟨o45, e_o45, h⟩ := qNm_of h
    refine g_iast (ws' := wM g ad o45) E 56 (wM_56 g ad o) (by decide) hi44 (by rw [e_o45]; exact wM_s56 g ad o _ _) gdX12_acts_322 ?_
    refine g_iinc E [(5, iv (x5 + 1)), (0, .ref (ad 0)), (1, iv x1), (3, iv x3), (4, iv x4), (6, iv x6), (7, iv x7)] gdX12_acts_323 4 rfl (by decide) rfl ?_
    refine g_sub E [1, 2, 3, 4, 0, 5, 6] rfl ?_
    exact j326 o45 x1 x3 x4 (x5 + 1) x6 x7 v h k0 k1
  have j265 : ∀ (o : OO) (x1 : Int) (x3 : Int) (x4 : Int) (x5 : Int) (x6 : Int) (x7 : Int) (x8 : Int) (y0 : Int) (v : (OO × Int × Int) ⊕ ((OO × Int))), b_X12_acts_265 o x1 x3 x4 x5 x6 x7 x8 y0 = some v → (∀ (o : OO) (x5 : Int) (x7 : Int), v = .inl (o, x5, x7) → Go X 191 (wM g ad o) [(0, .ref (ad 0)), (1, iv x1), (3, iv x3), (4, iv x4), (5, iv x5), (6, iv x6), (7, iv x7)] []) → (∀ (o : OO) (x5 : Int), v = .inr ((o, x5)) → Go X 332 (wM g ad o) [(0, .ref (ad 0)), (1, iv x1), (3, iv x3), (4, iv x4), (5, iv x5), (6, iv x6)] []) → Go X 265 (wM g ad o) [(0, .ref (ad 0)), (1, iv x1), (3, iv x3), (4, iv x4), (5, iv x5), (6, iv x6), (7, iv x7), (8, iv x8)] [iv y0] := by
    intro o x1 x3 x4 x5 x6 x7 x8 y0 v h k0 k1
    unfold b_X12_acts_265 at h
    refine g_istore E [(9, iv y0), (0, .ref (ad 0)), (1, iv x1), (3, iv x3), (4, iv x4), (5, iv x5), (6, iv x6), (7, iv x7), (8, iv x8)] gdX12_acts_265 (by decide) rfl ?_
    refine g_aload_n E gdX12_acts_267 rfl 1 rfl ?_
    refine g_get (T := TX12) E fw_X12 0 (wM_0 g ad o) rfl 69 (by decide) w_1535 rfl rfl gdX12_acts_268 ?_
    refine g_iload E gdX12_acts_271 7 rfl ?_
    obtain ⟨hi46, h⟩ := qIn_of h
    refine g_iald E 56 (wM_56 g ad o) (by decide) hi46 gdX12_acts_273 ?_
    obtain ⟨n47, e_n47, h⟩ := qNm_of h
    refine g_nmi e_n47 ?_
    refine g_if_ge E 326 gdX12_acts_274 (by decide) h (fun h => ?_) (fun h => ?_)
    ·
      refine g_sub E [1, 2, 3, 4, 5, 6, 7] rfl ?_
      exact j326 o x1 x3 x4 x5 x6 x7 v h k0 k1
    ·
      refine g_iload E gdX12_acts_277 8 rfl ?_
      refine g_if_lt E 326 gdX12_acts_279 (by decide) h (fun h => ?_) (fun h => ?_)
      ·
        refine g_sub E [1, 2, 3, 4, 5, 6, 7] rfl ?_
        exact j326 o x1 x3 x4 x5 x6 x7 v h k0 k1
      ·
        refine g_iload E gdX12_acts_282 0 rfl ?_
        refine g_if_lt E 326 gdX12_acts_284 (by decide) h (fun h => ?_) (fun h => ?_)
        ·
          refine g_sub E [1, 2, 3, 4, 5, 6, 7] rfl ?_
          exact j326 o x1 x3 x4 x5 x6 x7 v h k0 k1
        ·
          refine g_aload_n E gdX12_acts_287 rfl 1 rfl ?_
          refine g_get (T := TX12) E fw_X12 0 (wM_0 g ad o) rfl 69 (by decide) w_1535 rfl rfl gdX12_acts_288 ?_
          refine g_iload E gdX12_acts_291 7 rfl ?_
          refine g_iload E gdX12_acts_293 8 rfl ?_
          refine g_iload E gdX12_acts_295 0 rfl ?_
          refine g_icmp_le E 305 gdX12_acts_297 (by decide) h (fun h => ?_) (fun h => ?_)
          ·
            refine g_iload E gdX12_acts_305 0 rfl ?_
            refine g_sub E [1, 2, 3, 4, 5, 6, 7] rfl ?_
            exact j307 o x1 x3 x4 x5 x6 x7 x7 y0 v h k0 k1
          ·
            refine g_iload E gdX12_acts_300 8 rfl ?_
            refine g_goto E 307 gdX12_acts_302 (by decide) ?_
            refine g_sub E [1, 2, 3, 4, 5, 6, 7] rfl ?_
            exact j307 o x1 x3 x4 x5 x6 x7 x7 x8 v h k0 k1
  have j230 : ∀ (o : OO) (x1 : Int) (x3 : Int) (x4 : Int) (x5 : Int) (x6 : Int) (x7 : Int) (y0 : Int) (v : (OO × Int × Int) ⊕ ((OO × Int))), b_X12_acts_230 o x1 x3 x4 x5 x6 x7 y0 = some v → (∀ (o : OO) (x5 : Int) (x7 : Int), v = .inl (o, x5, x7) → Go X 191 (wM g ad o) [(0, .ref (ad 0)), (1, iv x1), (3, iv x3), (4, iv x4), (5, iv x5), (6, iv x6), (7, iv x7)] []) → (∀ (o : OO) (x5 : Int), v = .inr ((o, x5)) → Go X 332 (wM g ad o) [(0, .ref (ad 0)), (1, iv x1), (3, iv x3), (4, iv x4), (5, iv x5), (6, iv x6)] []) → Go X 230 (wM g ad o) [(0, .ref (ad 0)), (1, iv x1), (3, iv x3), (4, iv x4), (5, iv x5), (6, iv x6), (7, iv x7)] [iv y0] := by
    intro o x1 x3 x4 x5 x6 x7 y0 v h k0 k1
    unfold b_X12_acts_230 at h
    refine g_istore E [(8, iv y0), (0, .ref (ad 0)), (1, iv x1), (3, iv x3), (4, iv x4), (5, iv x5), (6, iv x6), (7, iv x7)] gdX12_acts_230 (by decide) rfl ?_
    refine g_aload_n E gdX12_acts_232 rfl 1 rfl ?_
    refine g_iload_n E gdX12_acts_233 rfl 2 rfl ?_
    refine g_iload E gdX12_acts_234 7 rfl ?_
    refine g_iconst E gdX12_acts_236 ?_
    obtain ⟨r48, hc49, h⟩ := qB_of h
    refine g_Vi (r := r48) (As := [iv x1, iv x7, iv 1]) (rest := []) (w := wM g ad o) E (c_X12_ahead l g ad o x1 x7 1 r48 hc49) okm_X12_ahead okw_X12_ahead w_2074 rfl (wM_0 g ad o) rfl rfl (Nat.le_of_ble_eq_true rfl) ⟨Nat.le_of_ble_eq_true rfl, Nat.le_of_ble_eq_true rfl⟩ gdX12_acts_237 ?_
    refine g_bipush E gdX12_acts_240 (by decide) ?_
    refine g_icmp_ne E 252 gdX12_acts_242 (by decide) h (fun h => ?_) (fun h => ?_)
    ·
      refine g_aload_n E gdX12_acts_252 rfl 1 rfl ?_
      refine g_get (T := TX12) E fw_X12 0 (wM_0 g ad o) rfl 69 (by decide) w_1535 rfl rfl gdX12_acts_253 ?_
      refine g_aload_n E gdX12_acts_256 rfl 1 rfl ?_
      refine g_iload_n E gdX12_acts_257 rfl 2 rfl ?_
      refine g_iload E gdX12_acts_258 7 rfl ?_
      refine g_iconst E gdX12_acts_260 ?_
      obtain ⟨r50, hc51, h⟩ := qB_of h
      refine g_Vi (r := r50) (As := [iv x1, iv x7, iv 1]) (rest := [.ref (ad 56)]) (w := wM g ad o) E (c_X12_ahead l g ad o x1 x7 1 r50 hc51) okm_X12_ahead okw_X12_ahead w_2074 rfl (wM_0 g ad o) rfl rfl (Nat.le_of_ble_eq_true rfl) ⟨Nat.le_of_ble_eq_true rfl, Nat.le_of_ble_eq_true rfl⟩ gdX12_acts_261 ?_
      obtain ⟨hi52, h⟩ := qIn_of h
      refine g_iald E 56 (wM_56 g ad o) (by decide) hi52 gdX12_acts_264 ?_
      obtain ⟨n53, e_n53, h⟩ := qNm_of h
      refine g_nmi e_n53 ?_
      refine g_sub E [1, 2, 3, 4, 5, 6, 7, 0] rfl ?_
      exact j265 o x1 x3 x4 x5 x6 x7 y0 n53 v h k0 k1
    ·
      refine g_aload_n E gdX12_acts_245 rfl 1 rfl ?_
      refine g_get (T := TX12) E fw_X12 0 (wM_0 g ad o) rfl 4 (by decide) w_1470 rfl rfl gdX12_acts_246 ?_
      refine g_goto E 265 gdX12_acts_249 (by decide) ?_
      refine g_sub E [1, 2, 3, 4, 5, 6, 7, 0] rfl ?_
      exact j265 o x1 x3 x4 x5 x6 x7 y0 (o.1 0 4) v h k0 k1
  have l191 : ∀ (x1 : Int) (x3 : Int) (x4 : Int) (x6 : Int) (r : (OO × Int)) (s0 : OO × Int × Int), loopW (fun s => l_X12_acts_191 x1 x3 x4 x6 s.1 s.2.1 s.2.2) s0 = some r → (∀ (o : OO) (x5 : Int), r = ((o, x5)) → Go X 332 (wM g ad o) [(0, .ref (ad 0)), (1, iv x1), (3, iv x3), (4, iv x4), (5, iv x5), (6, iv x6)] []) → Go X 191 (wM g ad s0.1) [(0, .ref (ad 0)), (1, iv x1), (3, iv x3), (4, iv x4), (5, iv s0.2.1), (6, iv x6), (7, iv s0.2.2)] [] := by
    intro x1 x3 x4 x6 r s0 h k1
    refine loop_rule (Head := fun s0 => Go X 191 (wM g ad s0.1) [(0, .ref (ad 0)), (1, iv x1), (3, iv x3), (4, iv x4), (5, iv s0.2.1), (6, iv x6), (7, iv s0.2.2)] []) h ?_
    intro s v h kk kx
    obtain ⟨o, x5, x7⟩ := s
    have h : l_X12_acts_191 x1 x3 x4 x6 o x5 x7 = some v := h
    have k0 : ∀ (o : OO) (x5 : Int) (x7 : Int), v = .inl (o, x5, x7) → Go X 191 (wM g ad o) [(0, .ref (ad 0)), (1, iv x1), (3, iv x3), (4, iv x4), (5, iv x5), (6, iv x6), (7, iv x7)] [] := fun o x5 x7 e => kk (o, x5, x7) e
    have k1 : ∀ (o : OO) (x5 : Int), v = .inr ((o, x5)) → Go X 332 (wM g ad o) [(0, .ref (ad 0)), (1, iv x1), (3, iv x3), (4, iv x4), (5, iv x5), (6, iv x6)] [] := fun o x5 e => k1 o x5 (kx _ e).symm
    unfold l_X12_acts_191 at h
    refine g_iload E gdX12_acts_191 6 rfl ?_
    refine g_iload_n E gdX12_acts_193 rfl 2 rfl ?_
    refine g_icmp_ge E 332 gdX12_acts_194 (by decide) h (fun h => ?_) (fun h => ?_)
    ·
      refine g_sub E [0, 1, 2, 3, 4, 5] rfl ?_
      exact k1 o x5 (Option.some.inj h).symm
    ·
      refine g_aload_n E gdX12_acts_197 rfl 0 rfl ?_
      refine g_iload_n E gdX12_acts_198 rfl 1 rfl ?_
      refine g_iload E gdX12_acts_199 6 rfl ?_
      refine g_iconst E gdX12_acts_201 ?_
      obtain ⟨r54, hc55, h⟩ := qB_of h
      refine g_Vi (r := r54) (As := [iv x1, iv x7, iv 0]) (rest := []) (w := wM g ad o) E (c_X12_ahead l g ad o x1 x7 0 r54 hc55) okm_X12_ahead okw_X12_ahead w_2074 rfl (wM_0 g ad o) rfl rfl (Nat.le_of_ble_eq_true rfl) ⟨Nat.le_of_ble_eq_true rfl, Nat.le_of_ble_eq_true rfl⟩ gdX12_acts_202 ?_
      refine g_bipush E gdX12_acts_205 (by decide) ?_
      refine g_icmp_ne E 217 gdX12_acts_207 (by decide) h (fun h => ?_) (fun h => ?_)
      ·
        refine g_aload_n E gdX12_acts_217 rfl 0 rfl ?_
        refine g_get (T := TX12) E fw_X12 0 (wM_0 g ad o) rfl 69 (by decide) w_1535 rfl rfl gdX12_acts_218 ?_
        refine g_aload_n E gdX12_acts_221 rfl 0 rfl ?_
        refine g_iload_n E gdX12_acts_222 rfl 1 rfl ?_
        refine g_iload E gdX12_acts_223 6 rfl ?_
        refine g_iconst E gdX12_acts_225 ?_
        obtain ⟨r56, hc57, h⟩ := qB_of h
        refine g_Vi (r := r56) (As := [iv x1, iv x7, iv 0]) (rest := [.ref (ad 56)]) (w := wM g ad o) E (c_X12_ahead l g ad o x1 x7 0 r56 hc57) okm_X12_ahead okw_X12_ahead w_2074 rfl (wM_0 g ad o) rfl rfl (Nat.le_of_ble_eq_true rfl) ⟨Nat.le_of_ble_eq_true rfl, Nat.le_of_ble_eq_true rfl⟩ gdX12_acts_226 ?_
        obtain ⟨hi58, h⟩ := qIn_of h
        refine g_iald E 56 (wM_56 g ad o) (by decide) hi58 gdX12_acts_229 ?_
        obtain ⟨n59, e_n59, h⟩ := qNm_of h
        refine g_nmi e_n59 ?_
        exact j230 o x1 x3 x4 x5 x6 x7 n59 v h k0 k1
      ·
        refine g_aload_n E gdX12_acts_210 rfl 0 rfl ?_
        refine g_get (T := TX12) E fw_X12 0 (wM_0 g ad o) rfl 4 (by decide) w_1470 rfl rfl gdX12_acts_211 ?_
        refine g_goto E 230 gdX12_acts_214 (by decide) ?_
        exact j230 o x1 x3 x4 x5 x6 x7 (o.1 0 4) v h k0 k1
  have j191 : ∀ (o : OO) (x1 : Int) (x3 : Int) (x4 : Int) (x5 : Int) (x6 : Int) (x7 : Int) (v : (OO × Int × Int) ⊕ ((OO × Int))), e_X12_acts_191 o x1 x3 x4 x5 x6 x7 = some v → (∀ (o : OO) (x5 : Int) (x6 : Int), v = .inl (o, x5, x6) → Go X 177 (wM g ad o) [(0, .ref (ad 0)), (1, iv x1), (3, iv x3), (4, iv x4), (5, iv x5), (6, iv x6)] []) → (∀ (o : OO) (x5 : Int), v = .inr ((o, x5)) → Go X 338 (wM g ad o) [(0, .ref (ad 0)), (1, iv x1), (3, iv x3), (4, iv x4), (5, iv x5)] []) → Go X 191 (wM g ad o) [(0, .ref (ad 0)), (1, iv x1), (3, iv x3), (4, iv x4), (5, iv x5), (6, iv x6), (7, iv x7)] [] := by
    intro o x1 x3 x4 x5 x6 x7 v h k0 k1
    unfold e_X12_acts_191 at h
    obtain ⟨r, hr, h⟩ := qB_of h
    refine l191 x1 x3 x4 x6 r _ hr ?_
    ·
      intro u0 u1 e
      subst e
      have h : b_X12_acts_332 u0 x1 x3 x4 u1 x6 = some v := h
      exact j332 u0 x1 x3 x4 u1 x6 v h k0 k1
  have l177 : ∀ (x1 : Int) (x3 : Int) (x4 : Int) (r : (OO × Int)) (s0 : OO × Int × Int), loopW (fun s => l_X12_acts_177 x1 x3 x4 s.1 s.2.1 s.2.2) s0 = some r → (∀ (o : OO) (x5 : Int), r = ((o, x5)) → Go X 338 (wM g ad o) [(0, .ref (ad 0)), (1, iv x1), (3, iv x3), (4, iv x4), (5, iv x5)] []) → Go X 177 (wM g ad s0.1) [(0, .ref (ad 0)), (1, iv x1), (3, iv x3), (4, iv x4), (5, iv s0.2.1), (6, iv s0.2.2)] [] := by
    intro x1 x3 x4 r s0 h k1
    refine loop_rule (Head := fun s0 => Go X 177 (wM g ad s0.1) [(0, .ref (ad 0)), (1, iv x1), (3, iv x3), (4, iv x4), (5, iv s0.2.1), (6, iv s0.2.2)] []) h ?_
    intro s v h kk kx
    obtain ⟨o, x5, x6⟩ := s
    have h : l_X12_acts_177 x1 x3 x4 o x5 x6 = some v := h
    have k0 : ∀ (o : OO) (x5 : Int) (x6 : Int), v = .inl (o, x5, x6) → Go X 177 (wM g ad o) [(0, .ref (ad 0)), (1, iv x1), (3, iv x3), (4, iv x4), (5, iv x5), (6, iv x6)] [] := fun o x5 x6 e => kk (o, x5, x6) e
    have k1 : ∀ (o : OO) (x5 : Int), v = .inr ((o, x5)) → Go X 338 (wM g ad o) [(0, .ref (ad 0)), (1, iv x1), (3, iv x3), (4, iv x4), (5, iv x5)] [] := fun o x5 e => k1 o x5 (kx _ e).symm
    unfold l_X12_acts_177 at h
    refine g_iload E gdX12_acts_177 5 rfl ?_
    refine g_iload_n E gdX12_acts_179 rfl 2 rfl ?_
    refine g_icmp_ge E 338 gdX12_acts_180 (by decide) h (fun h => ?_) (fun h => ?_)
    ·
      refine g_sub E [0, 1, 2, 3, 4] rfl ?_
      exact k1 o x5 (Option.some.inj h).symm
    ·
      refine g_iload E gdX12_acts_183 3 rfl ?_
      refine g_if_eq E 338 gdX12_acts_185 (by decide) h (fun h => ?_) (fun h => ?_)
      ·
        refine g_sub E [0, 1, 2, 3, 4] rfl ?_
        exact k1 o x5 (Option.some.inj h).symm
      ·
        refine g_iconst E gdX12_acts_188 ?_
        refine g_istore E [(7, iv 0), (0, .ref (ad 0)), (1, iv x1), (3, iv x3), (4, iv x4), (5, iv x5), (6, iv x6)] gdX12_acts_189 (by decide) rfl ?_
        refine g_sub E [1, 2, 3, 4, 5, 6, 0] rfl ?_
        exact j191 o x1 x3 x4 x5 x6 0 v h k0 k1
  have j177 : ∀ (o : OO) (x1 : Int) (x3 : Int) (x4 : Int) (x5 : Int) (x6 : Int), e_X12_acts_177 o x1 x3 x4 x5 x6 = some v → Go X 177 (wM g ad o) [(0, .ref (ad 0)), (1, iv x1), (3, iv x3), (4, iv x4), (5, iv x5), (6, iv x6)] [] := by
    intro o x1 x3 x4 x5 x6 h
    unfold e_X12_acts_177 at h
    obtain ⟨r, hr, h⟩ := qB_of h
    refine l177 x1 x3 x4 r _ hr ?_
    ·
      intro u0 u1 e
      subst e
      have h : b_X12_acts_338 u0 x1 x3 x4 u1 = some v := h
      exact j338 u0 x1 x3 x4 u1 h
  have j171 : ∀ (o : OO) (x1 : Int) (x3 : Int) (x4 : Int), b_X12_acts_171 o x1 x3 x4 = some v → Go X 171 (wM g ad o) [(0, .ref (ad 0)), (1, iv x1), (3, iv x3), (4, iv x4)] [] := by
    intro o x1 x3 x4 h
    unfold b_X12_acts_171 at h
    refine g_iconst E gdX12_acts_171 ?_
    refine g_istore E [(5, iv 0), (0, .ref (ad 0)), (1, iv x1), (3, iv x3), (4, iv x4)] gdX12_acts_172 (by decide) rfl ?_
    refine g_iconst E gdX12_acts_174 ?_
    refine g_istore E [(6, iv 0), (5, iv 0), (0, .ref (ad 0)), (1, iv x1), (3, iv x3), (4, iv x4)] gdX12_acts_175 (by decide) rfl ?_
    refine g_sub E [2, 3, 4, 5, 1, 0] rfl ?_
    exact j177 o x1 x3 x4 0 0 h
  have j156 : ∀ (o : OO) (x1 : Int) (x3 : Int) (x4 : Int) (x5 : Int) (v : (OO × Int × Int) ⊕ ((OO × Int))), b_X12_acts_156 o x1 x3 x4 x5 = some v → (∀ (o : OO) (x4 : Int) (x5 : Int), v = .inl (o, x4, x5) → Go X 54 (wM g ad o) [(0, .ref (ad 0)), (1, iv x1), (3, iv x3), (4, iv x4), (5, iv x5)] []) → (∀ (o : OO) (x4 : Int), v = .inr ((o, x4)) → Go X 171 (wM g ad o) [(0, .ref (ad 0)), (1, iv x1), (3, iv x3), (4, iv x4)] []) → Go X 156 (wM g ad o) [(0, .ref (ad 0)), (1, iv x1), (3, iv x3), (4, iv x4), (5, iv x5)] [] := by
    intro o x1 x3 x4 x5 v h k0 k1
    unfold b_X12_acts_156 at h
    refine g_aload_n E gdX12_acts_156 rfl 0 rfl ?_
    refine g_get (T := TX12) E fw_X12 0 (wM_0 g ad o) rfl 69 (by decide) w_1535 rfl rfl gdX12_acts_157 ?_
    refine g_iload E gdX12_acts_160 4 rfl ?_
    refine g_bipush E gdX12_acts_162 (by decide) ?_
    obtain ⟨hi60, h⟩ := qIn_of h
    obtain ⟨o61, e_o61, h⟩ := qNm_of h
    refine g_iast (ws' := wM g ad o61) E 56 (wM_56 g ad o) (by decide) hi60 (by rw [e_o61]; exact wM_s56 g ad o _ _) gdX12_acts_164 ?_
    refine g_iinc E [(5, iv (x5 + 1)), (0, .ref (ad 0)), (1, iv x1), (3, iv x3), (4, iv x4)] gdX12_acts_165 4 rfl (by decide) rfl ?_
    refine g_goto E 54 gdX12_acts_168 (by decide) ?_
    refine g_sub E [1, 2, 3, 4, 0] rfl ?_
    exact k0 o61 x4 (x5 + 1) (Option.some.inj h).symm
  have j148 : ∀ (o : OO) (x1 : Int) (x3 : Int) (x5 : Int) (x6 : Int) (y0 : Int) (v : (Int × Int) ⊕ ((Int))), b_X12_acts_148 o x1 x3 x5 x6 y0 = some v → (∀ (x4 : Int) (x6 : Int), v = .inl (x4, x6) → Go X 99 (wM g ad o) [(0, .ref (ad 0)), (1, iv x1), (3, iv x3), (4, iv x4), (5, iv x5), (6, iv x6)] []) → (∀ (x4 : Int), v = .inr (x4) → Go X 156 (wM g ad o) [(0, .ref (ad 0)), (1, iv x1), (3, iv x3), (4, iv x4), (5, iv x5)] []) → Go X 148 (wM g ad o) [(0, .ref (ad 0)), (1, iv x1), (3, iv x3), (5, iv x5), (6, iv x6)] [iv y0] := by
    intro o x1 x3 x5 x6 y0 v h k0 k1
    unfold b_X12_acts_148 at h
    refine g_istore E [(4, iv y0), (0, .ref (ad 0)), (1, iv x1), (3, iv x3), (5, iv x5), (6, iv x6)] gdX12_acts_148 (by decide) rfl ?_
    refine g_iinc E [(6, iv (x6 + 1)), (4, iv y0), (0, .ref (ad 0)), (1, iv x1), (3, iv x3), (5, iv x5)] gdX12_acts_150 5 rfl (by decide) rfl ?_
    refine g_goto E 99 gdX12_acts_153 (by decide) ?_
    refine g_sub E [2, 3, 4, 1, 5, 0] rfl ?_
    exact k0 y0 (x6 + 1) (Option.some.inj h).symm
  have j143 : ∀ (o : OO) (x1 : Int) (x3 : Int) (x5 : Int) (x6 : Int) (v : (Int × Int) ⊕ ((Int))), b_X12_acts_143 o x1 x3 x5 x6 = some v → (∀ (x4 : Int) (x6 : Int), v = .inl (x4, x6) → Go X 99 (wM g ad o) [(0, .ref (ad 0)), (1, iv x1), (3, iv x3), (4, iv x4), (5, iv x5), (6, iv x6)] []) → (∀ (x4 : Int), v = .inr (x4) → Go X 156 (wM g ad o) [(0, .ref (ad 0)), (1, iv x1), (3, iv x3), (4, iv x4), (5, iv x5)] []) → Go X 143 (wM g ad o) [(0, .ref (ad 0)), (1, iv x1), (3, iv x3), (5, iv x5), (6, iv x6)] [] := by
    intro o x1 x3 x5 x6 v h k0 k1
    unfold b_X12_acts_143 at h
    refine g_iconst E gdX12_acts_143 ?_
    refine g_goto E 148 gdX12_acts_144 (by decide) ?_
    exact j148 o x1 x3 x5 x6 1 v h k0 k1
  have j147 : ∀ (o : OO) (x1 : Int) (x3 : Int) (x5 : Int) (x6 : Int) (v : (Int × Int) ⊕ ((Int))), b_X12_acts_147 o x1 x3 x5 x6 = some v → (∀ (x4 : Int) (x6 : Int), v = .inl (x4, x6) → Go X 99 (wM g ad o) [(0, .ref (ad 0)), (1, iv x1), (3, iv x3), (4, iv x4), (5, iv x5), (6, iv x6)] []) → (∀ (x4 : Int), v = .inr (x4) → Go X 156 (wM g ad o) [(0, .ref (ad 0)), (1, iv x1), (3, iv x3), (4, iv x4), (5, iv x5)] []) → Go X 147 (wM g ad o) [(0, .ref (ad 0)), (1, iv x1), (3, iv x3), (5, iv x5), (6, iv x6)] [] := by
    intro o x1 x3 x5 x6 v h k0 k1
    unfold b_X12_acts_147 at h
    refine g_iconst E gdX12_acts_147 ?_
    exact j148 o x1 x3 x5 x6 0 v h k0 k1
  have l99 : ∀ (o : OO) (x1 : Int) (x3 : Int) (x5 : Int) (r : (Int)) (s0 : Int × Int), loopW (fun s => l_X12_acts_99 o x1 x3 x5 s.1 s.2) s0 = some r → (∀ (x4 : Int), r = (x4) → Go X 156 (wM g ad o) [(0, .ref (ad 0)), (1, iv x1), (3, iv x3), (4, iv x4), (5, iv x5)] []) → Go X 99 (wM g ad o) [(0, .ref (ad 0)), (1, iv x1), (3, iv x3), (4, iv s0.1), (5, iv x5), (6, iv s0.2)] [] := by
    intro o x1 x3 x5 r s0 h k1
    refine loop_rule (Head := fun s0 => Go X 99 (wM g ad o) [(0, .ref (ad 0)), (1, iv x1), (3, iv x3), (4, iv s0.1), (5, iv x5), (6, iv s0.2)] []) h ?_
    intro s v h kk kx
    obtain ⟨x4, x6⟩ := s
    have h : l_X12_acts_99 o x1 x3 x5 x4 x6 = some v := h
    have k0 : ∀ (x4 : Int) (x6 : Int), v = .inl (x4, x6) → Go X 99 (wM g ad o) [(0, .ref (ad 0)), (1, iv x1), (3, iv x3), (4, iv x4), (5, iv x5), (6, iv x6)] [] := fun x4 x6 e => kk (x4, x6) e
    have k1 : ∀ (x4 : Int), v = .inr (x4) → Go X 156 (wM g ad o) [(0, .ref (ad 0)), (1, iv x1), (3, iv x3), (4, iv x4), (5, iv x5)] [] := fun x4 e => k1 x4 (kx _ e).symm
    unfold l_X12_acts_99 at h
    refine g_iload E gdX12_acts_99 5 rfl ?_
    refine g_iconst E gdX12_acts_101 ?_
    refine g_icmp_ge E 156 gdX12_acts_102 (by decide) h (fun h => ?_) (fun h => ?_)
    ·
      refine g_sub E [0, 1, 2, 3, 4] rfl ?_
      exact k1 x4 (Option.some.inj h).symm
    ·
      refine g_iload E gdX12_acts_105 3 rfl ?_
      refine g_if_eq E 147 gdX12_acts_107 (by decide) h (fun h => ?_) (fun h => ?_)
      ·
        refine g_sub E [0, 1, 2, 4, 5] rfl ?_
        exact j147 o x1 x3 x5 x6 v h k0 k1
      ·
        refine g_aload_n E gdX12_acts_110 rfl 0 rfl ?_
        refine g_iload_n E gdX12_acts_111 rfl 1 rfl ?_
        refine g_iload E gdX12_acts_112 4 rfl ?_
        refine g_iload E gdX12_acts_114 5 rfl ?_
        obtain ⟨r62, hc63, h⟩ := qB_of h
        refine g_Vi (r := r62) (As := [iv x1, iv x5, iv x6]) (rest := []) (w := wM g ad o) E (c_X12_ahead l g ad o x1 x5 x6 r62 hc63) okm_X12_ahead okw_X12_ahead w_2074 rfl (wM_0 g ad o) rfl rfl (Nat.le_of_ble_eq_true rfl) ⟨Nat.le_of_ble_eq_true rfl, Nat.le_of_ble_eq_true rfl⟩ gdX12_acts_116 ?_
        refine g_bipush E gdX12_acts_119 (by decide) ?_
        refine g_icmp_eq E 143 gdX12_acts_121 (by decide) h (fun h => ?_) (fun h => ?_)
        ·
          refine g_sub E [0, 1, 2, 4, 5] rfl ?_
          exact j143 o x1 x3 x5 x6 v h k0 k1
        ·
          refine g_aload_n E gdX12_acts_124 rfl 0 rfl ?_
          refine g_iload_n E gdX12_acts_125 rfl 1 rfl ?_
          refine g_iload E gdX12_acts_126 4 rfl ?_
          refine g_iload E gdX12_acts_128 5 rfl ?_
          obtain ⟨r64, hc65, h⟩ := qB_of h
          refine g_Vi (r := r64) (As := [iv x1, iv x5, iv x6]) (rest := []) (w := wM g ad o) E (c_X12_ahead l g ad o x1 x5 x6 r64 hc65) okm_X12_ahead okw_X12_ahead w_2074 rfl (wM_0 g ad o) rfl rfl (Nat.le_of_ble_eq_true rfl) ⟨Nat.le_of_ble_eq_true rfl, Nat.le_of_ble_eq_true rfl⟩ gdX12_acts_130 ?_
          refine g_iconst E gdX12_acts_133 ?_
          refine g_iload_n E gdX12_acts_134 rfl 2 rfl ?_
          refine g_iconst E gdX12_acts_135 ?_
          refine g_isub E gdX12_acts_136 ?_
          obtain ⟨r66, hc67, h⟩ := qB_of h
          refine g_Si (r := r66) (As := [iv r64, iv 0, iv (x3 - 1)]) (rest := []) (w := wM g ad o) E (c_X12_in l g (wM g ad o) r64 0 (x3 - 1) r66 hc67) okm_X12_in w_1706 w_1705 rfl rfl (Nat.le_of_ble_eq_true rfl) ⟨Nat.le_of_ble_eq_true rfl, Nat.le_of_ble_eq_true rfl⟩ gdX12_acts_137 ?_
          refine g_if_eq E 147 gdX12_acts_140 (by decide) h (fun h => ?_) (fun h => ?_)
          ·
            refine g_sub E [0, 1, 2, 4, 5] rfl ?_
            exact j147 o x1 x3 x5 x6 v h k0 k1
          ·
            refine g_sub E [0, 1, 2, 4, 5] rfl ?_
            exact j143 o x1 x3 x5 x6 v h k0 k1
  have j99 : ∀ (o : OO) (x1 : Int) (x3 : Int) (x4 : Int) (x5 : Int) (x6 : Int) (v : (OO × Int × Int) ⊕ ((OO × Int))), e_X12_acts_99 o x1 x3 x4 x5 x6 = some v → (∀ (o : OO) (x4 : Int) (x5 : Int), v = .inl (o, x4, x5) → Go X 54 (wM g ad o) [(0, .ref (ad 0)), (1, iv x1), (3, iv x3), (4, iv x4), (5, iv x5)] []) → (∀ (o : OO) (x4 : Int), v = .inr ((o, x4)) → Go X 171 (wM g ad o) [(0, .ref (ad 0)), (1, iv x1), (3, iv x3), (4, iv x4)] []) → Go X 99 (wM g ad o) [(0, .ref (ad 0)), (1, iv x1), (3, iv x3), (4, iv x4), (5, iv x5), (6, iv x6)] [] := by
    intro o x1 x3 x4 x5 x6 v h k0 k1
    unfold e_X12_acts_99 at h
    obtain ⟨r, hr, h⟩ := qB_of h
    refine l99 o x1 x3 x5 r _ hr ?_
    ·
      intro u0 e
      have e := e.symm
      subst e
      have h : b_X12_acts_156 o x1 x3 u0 x5 = some v := h
      exact j156 o x1 x3 u0 x5 v h k0 k1
  have j94 : ∀ (o : OO) (x1 : Int) (x3 : Int) (x5 : Int) (y0 : Int) (v : (OO × Int × Int) ⊕ ((OO × Int))), b_X12_acts_94 o x1 x3 x5 y0 = some v → (∀ (o : OO) (x4 : Int) (x5 : Int), v = .inl (o, x4, x5) → Go X 54 (wM g ad o) [(0, .ref (ad 0)), (1, iv x1), (3, iv x3), (4, iv x4), (5, iv x5)] []) → (∀ (o : OO) (x4 : Int), v = .inr ((o, x4)) → Go X 171 (wM g ad o) [(0, .ref (ad 0)), (1, iv x1), (3, iv x3), (4, iv x4)] []) → Go X 94 (wM g ad o) [(0, .ref (ad 0)), (1, iv x1), (3, iv x3), (5, iv x5)] [iv y0] := by
    intro o x1 x3 x5 y0 v h k0 k1
    unfold b_X12_acts_94 at h
    refine g_istore E [(4, iv y0), (0, .ref (ad 0)), (1, iv x1), (3, iv x3), (5, iv x5)] gdX12_acts_94 (by decide) rfl ?_
    refine g_iconst E gdX12_acts_96 ?_
    refine g_istore E [(6, iv 0), (4, iv y0), (0, .ref (ad 0)), (1, iv x1), (3, iv x3), (5, iv x5)] gdX12_acts_97 (by decide) rfl ?_
    refine g_sub E [2, 3, 4, 1, 5, 0] rfl ?_
    exact j99 o x1 x3 y0 x5 0 v h k0 k1
  have j93 : ∀ (o : OO) (x1 : Int) (x3 : Int) (x5 : Int) (v : (OO × Int × Int) ⊕ ((OO × Int))), b_X12_acts_93 o x1 x3 x5 = some v → (∀ (o : OO) (x4 : Int) (x5 : Int), v = .inl (o, x4, x5) → Go X 54 (wM g ad o) [(0, .ref (ad 0)), (1, iv x1), (3, iv x3), (4, iv x4), (5, iv x5)] []) → (∀ (o : OO) (x4 : Int), v = .inr ((o, x4)) → Go X 171 (wM g ad o) [(0, .ref (ad 0)), (1, iv x1), (3, iv x3), (4, iv x4)] []) → Go X 93 (wM g ad o) [(0, .ref (ad 0)), (1, iv x1), (3, iv x3), (5, iv x5)] [] := by
    intro o x1 x3 x5 v h k0 k1
    unfold b_X12_acts_93 at h
    refine g_iconst E gdX12_acts_93 ?_
    exact j94 o x1 x3 x5 0 v h k0 k1
  have l54 : ∀ (x1 : Int) (x3 : Int) (r : (OO × Int)) (s0 : OO × Int × Int), loopW (fun s => l_X12_acts_54 x1 x3 s.1 s.2.1 s.2.2) s0 = some r → (∀ (o : OO) (x4 : Int), r = ((o, x4)) → Go X 171 (wM g ad o) [(0, .ref (ad 0)), (1, iv x1), (3, iv x3), (4, iv x4)] []) → Go X 54 (wM g ad s0.1) [(0, .ref (ad 0)), (1, iv x1), (3, iv x3), (4, iv s0.2.1), (5, iv s0.2.2)] [] := by
    intro x1 x3 r s0 h k1
    refine loop_rule (Head := fun s0 => Go X 54 (wM g ad s0.1) [(0, .ref (ad 0)), (1, iv x1), (3, iv x3), (4, iv s0.2.1), (5, iv s0.2.2)] []) h ?_
    intro s v h kk kx
    obtain ⟨o, x4, x5⟩ := s
    have h : l_X12_acts_54 x1 x3 o x4 x5 = some v := h
    have k0 : ∀ (o : OO) (x4 : Int) (x5 : Int), v = .inl (o, x4, x5) → Go X 54 (wM g ad o) [(0, .ref (ad 0)), (1, iv x1), (3, iv x3), (4, iv x4), (5, iv x5)] [] := fun o x4 x5 e => kk (o, x4, x5) e
    have k1 : ∀ (o : OO) (x4 : Int), v = .inr ((o, x4)) → Go X 171 (wM g ad o) [(0, .ref (ad 0)), (1, iv x1), (3, iv x3), (4, iv x4)] [] := fun o x4 e => k1 o x4 (kx _ e).symm
    unfold l_X12_acts_54 at h
    refine g_iload E gdX12_acts_54 4 rfl ?_
    refine g_iload_n E gdX12_acts_56 rfl 2 rfl ?_
    refine g_icmp_ge E 171 gdX12_acts_57 (by decide) h (fun h => ?_) (fun h => ?_)
    ·
      refine g_sub E [0, 1, 2, 3] rfl ?_
      exact k1 o x4 (Option.some.inj h).symm
    ·
      refine g_iload E gdX12_acts_60 3 rfl ?_
      refine g_if_eq E 93 gdX12_acts_62 (by decide) h (fun h => ?_) (fun h => ?_)
      ·
        refine g_sub E [0, 1, 2, 4] rfl ?_
        exact j93 o x1 x3 x5 v h k0 k1
      ·
        refine g_aload_n E gdX12_acts_65 rfl 0 rfl ?_
        refine g_get (T := TX12) E fw_X12 0 (wM_0 g ad o) rfl 6 (by decide) w_1472 rfl rfl gdX12_acts_66 ?_
        refine g_bipush E gdX12_acts_69 (by decide) ?_
        refine g_iload_n E gdX12_acts_71 rfl 1 rfl ?_
        refine g_imul E gdX12_acts_72 ?_
        refine g_iconst E gdX12_acts_73 ?_
        refine g_iload E gdX12_acts_74 4 rfl ?_
        refine g_imul E gdX12_acts_76 ?_
        refine g_iadd E gdX12_acts_77 ?_
        obtain ⟨hi68, h⟩ := qIn_of h
        refine g_iald E 3 (wM_3 g ad o) (by decide) hi68 gdX12_acts_78 ?_
        obtain ⟨n69, e_n69, h⟩ := qNm_of h
        refine g_nmi e_n69 ?_
        refine g_iconst E gdX12_acts_79 ?_
        refine g_sipush E gdX12_acts_80 (by decide) ?_
        obtain ⟨r70, hc71, h⟩ := qB_of h
        refine g_Si (r := r70) (As := [iv n69, iv 0, iv 200]) (rest := []) (w := wM g ad o) E (c_X12_in l g (wM g ad o) n69 0 200 r70 hc71) okm_X12_in w_1706 w_1705 rfl rfl (Nat.le_of_ble_eq_true rfl) ⟨Nat.le_of_ble_eq_true rfl, Nat.le_of_ble_eq_true rfl⟩ gdX12_acts_83 ?_
        refine g_if_eq E 93 gdX12_acts_86 (by decide) h (fun h => ?_) (fun h => ?_)
        ·
          refine g_sub E [0, 1, 2, 4] rfl ?_
          exact j93 o x1 x3 x5 v h k0 k1
        ·
          refine g_iconst E gdX12_acts_89 ?_
          refine g_goto E 94 gdX12_acts_90 (by decide) ?_
          refine g_sub E [0, 1, 2, 4] rfl ?_
          exact j94 o x1 x3 x5 1 v h k0 k1
  have j54 : ∀ (o : OO) (x1 : Int) (x3 : Int) (x4 : Int) (x5 : Int), e_X12_acts_54 o x1 x3 x4 x5 = some v → Go X 54 (wM g ad o) [(0, .ref (ad 0)), (1, iv x1), (3, iv x3), (4, iv x4), (5, iv x5)] [] := by
    intro o x1 x3 x4 x5 h
    unfold e_X12_acts_54 at h
    obtain ⟨r, hr, h⟩ := qB_of h
    refine l54 x1 x3 r _ hr ?_
    ·
      intro u0 u1 e
      subst e
      have h : b_X12_acts_171 u0 x1 x3 u1 = some v := h
      exact j171 u0 x1 x3 u1 h
  unfold s_X12_acts at h
  refine g_aload_n E gdX12_acts_0 rfl 0 rfl ?_
  refine g_iload_n E gdX12_acts_1 rfl 1 rfl ?_
  obtain ⟨r72, o74, hc73, h⟩ := qB2_of h
  refine g_Vi (r := r72) (As := [iv x1]) (rest := []) (w := wM g ad o74) E (c_X12_askedRow l g ad o x1 (r72, o74) hc73) okm_X12_askedRow okw_X12_askedRow w_1716 rfl (wM_0 g ad o) rfl rfl (Nat.le_of_ble_eq_true rfl) ⟨Nat.le_of_ble_eq_true rfl, Nat.le_of_ble_eq_true rfl⟩ gdX12_acts_2 ?_
  refine g_istore_n E [(2, iv r72), (0, .ref (ad 0)), (1, iv x1)] gdX12_acts_5 rfl (by decide) rfl ?_
  refine g_iload_n E gdX12_acts_6 rfl 0 rfl ?_
  refine g_if_ge E 12 gdX12_acts_7 (by decide) h (fun h => ?_) (fun h => ?_)
  ·
    refine g_aload_n E gdX12_acts_12 rfl 1 rfl ?_
    refine g_get (T := TX12) E fw_X12 0 (wM_0 g ad o74) rfl 5 (by decide) w_1471 rfl rfl gdX12_acts_13 ?_
    refine g_iload_n E gdX12_acts_16 rfl 2 rfl ?_
    obtain ⟨hi75, h⟩ := qIn_of h
    refine g_iald E 2 (wM_2 g ad o74) (by decide) hi75 gdX12_acts_17 ?_
    obtain ⟨n76, e_n76, h⟩ := qNm_of h
    refine g_nmi e_n76 ?_
    refine g_iconst E gdX12_acts_18 ?_
    obtain ⟨hd77, h⟩ := qDv_of h
    refine g_idiv E hd77 gdX12_acts_19 ?_
    obtain ⟨n78, e_n78, h⟩ := qNm_of h
    refine g_nmi e_n78 ?_
    refine g_istore_n E [(3, iv n78), (2, iv r72), (0, .ref (ad 0)), (1, iv x1)] gdX12_acts_20 rfl (by decide) rfl ?_
    refine g_aload_n E gdX12_acts_21 rfl 2 rfl ?_
    refine g_get (T := TX12) E fw_X12 0 (wM_0 g ad o74) rfl 5 (by decide) w_1471 rfl rfl gdX12_acts_22 ?_
    refine g_iload_n E gdX12_acts_25 rfl 3 rfl ?_
    obtain ⟨hi79, h⟩ := qIn_of h
    refine g_iald E 2 (wM_2 g ad o74) (by decide) hi79 gdX12_acts_26 ?_
    obtain ⟨n80, e_n80, h⟩ := qNm_of h
    refine g_nmi e_n80 ?_
    refine g_iconst E gdX12_acts_27 ?_
    obtain ⟨hd81, h⟩ := qDv_of h
    refine g_irem E hd81 gdX12_acts_28 ?_
    refine g_if_ne E 42 gdX12_acts_29 (by decide) h (fun h => ?_) (fun h => ?_)
    ·
      refine g_sub E [2] rfl ?_
      exact j42 o74 h
    ·
      refine g_iload_n E gdX12_acts_32 rfl 0 rfl ?_
      refine g_iconst E gdX12_acts_33 ?_
      refine g_bipush E gdX12_acts_34 (by decide) ?_
      obtain ⟨r82, hc83, h⟩ := qB_of h
      refine g_Si (r := r82) (As := [iv n78, iv 1, iv 13]) (rest := []) (w := wM g ad o74) E (c_X12_in l g (wM g ad o74) n78 1 13 r82 hc83) okm_X12_in w_1706 w_1705 rfl rfl (Nat.le_of_ble_eq_true rfl) ⟨Nat.le_of_ble_eq_true rfl, Nat.le_of_ble_eq_true rfl⟩ gdX12_acts_36 ?_
      refine g_if_ne E 48 gdX12_acts_39 (by decide) h (fun h => ?_) (fun h => ?_)
      ·
        refine g_iconst E gdX12_acts_48 ?_
        refine g_istore E [(4, iv 1), (3, iv n78), (2, iv r72), (0, .ref (ad 0)), (1, iv x1)] gdX12_acts_49 (by decide) rfl ?_
        refine g_iconst E gdX12_acts_51 ?_
        refine g_istore E [(5, iv 0), (4, iv 1), (3, iv n78), (2, iv r72), (0, .ref (ad 0)), (1, iv x1)] gdX12_acts_52 (by decide) rfl ?_
        refine g_sub E [4, 5, 2, 1, 0] rfl ?_
        exact j54 o74 x1 n78 1 0 h
      ·
        refine g_sub E [2] rfl ?_
        exact j42 o74 h
  ·
    refine g_iload_n E gdX12_acts_10 rfl 0 rfl ?_
    exact g_iret E hQ (by rw [← Option.some.inj h]) (by rw [← Option.some.inj h]) gdX12_acts_11
set_option maxHeartbeats 4000000 in
set_option maxRecDepth 100000 in
theorem c_X12_asked (l : Launch) (g : GG) (ad : Nat → Nat) (o : OO) (v : Int) (h : s_X12_asked o = some v) : CI l g yX12_asked cX12_asked 1 (some .int) 0 0 (wM g ad o) [.ref (ad 0)] v (wM g ad o) := by
  refine met_I (by decide) (Nat.le_of_ble_eq_true rfl) ?_
  intro X E hQ
  show Go X 0 (wM g ad o) [(0, .ref (ad 0))] []
  unfold s_X12_asked at h
  refine g_aload_n E gdX12_asked_0 rfl 0 rfl ?_
  refine g_get (T := TX12) E fw_X12 0 (wM_0 g ad o) rfl 2 (by decide) w_1468 rfl rfl gdX12_asked_1 ?_
  exact g_iret E hQ (Option.some.inj h) rfl gdX12_asked_4
set_option maxHeartbeats 4000000 in
set_option maxRecDepth 100000 in
theorem c_X12_askedWeights (l : Launch) (g : GG) (ad : Nat → Nat) (o : OO) (x1 : Int) (x2 : Int) (v : Int × OO) (h : s_X12_askedWeights o x1 x2 = some v) : CI l g yX12_askedWeights cX12_askedWeights 5 (some .int) 1 22 (wM g ad o) [.ref (ad 0), iv x1, iv x2] v.1 (wM g ad v.2) := by
  refine met_I (by decide) (Nat.le_of_ble_eq_true rfl) ?_
  intro X E hQ
  show Go X 0 (wM g ad o) [(0, .ref (ad 0)), (1, iv x1), (2, iv x2)] []
  have j18 : ∀ (o : OO), b_X12_askedWeights_18 o = some v → Go X 18 (wM g ad o) [(0, .ref (ad 0))] [] := by
    intro o h
    unfold b_X12_askedWeights_18 at h
    refine g_aload_n E gdX12_askedWeights_18 rfl 0 rfl ?_
    refine g_iconst E gdX12_askedWeights_19 ?_
    obtain ⟨r1, o3, hc2, h⟩ := qB2_of h
    refine g_Vi (r := r1) (As := [iv 1]) (rest := []) (w := wM g ad o3) E (c_X12_meets l g ad o 1 (r1, o3) hc2) okm_X12_meets okw_X12_meets w_1708 rfl (wM_0 g ad o) rfl rfl (Nat.le_of_ble_eq_true rfl) ⟨Nat.le_of_ble_eq_true rfl, Nat.le_of_ble_eq_true rfl⟩ gdX12_askedWeights_20 ?_
    exact g_iret E hQ (by rw [← Option.some.inj h]) (by rw [← Option.some.inj h]) gdX12_askedWeights_23
  have j101 : ∀ (o : OO) (y0 : Int), b_X12_askedWeights_101 o y0 = some v → Go X 101 (wM g ad o) [] [iv y0] := by
    intro o y0 h
    unfold b_X12_askedWeights_101 at h
    exact g_iret E hQ (by rw [← Option.some.inj h]) (by rw [← Option.some.inj h]) gdX12_askedWeights_101
  have j88 : ∀ (o : OO) (x3 : Int), b_X12_askedWeights_88 o x3 = some v → Go X 88 (wM g ad o) [(0, .ref (ad 0)), (3, iv x3)] [] := by
    intro o x3 h
    unfold b_X12_askedWeights_88 at h
    refine g_iload_n E gdX12_askedWeights_88 rfl 1 rfl ?_
    refine g_if_eq E 96 gdX12_askedWeights_89 (by decide) h (fun h => ?_) (fun h => ?_)
    ·
      refine g_aload_n E gdX12_askedWeights_96 rfl 0 rfl ?_
      refine g_iconst E gdX12_askedWeights_97 ?_
      obtain ⟨r4, o6, hc5, h⟩ := qB2_of h
      refine g_Vi (r := r4) (As := [iv 3]) (rest := []) (w := wM g ad o6) E (c_X12_meets l g ad o 3 (r4, o6) hc5) okm_X12_meets okw_X12_meets w_1708 rfl (wM_0 g ad o) rfl rfl (Nat.le_of_ble_eq_true rfl) ⟨Nat.le_of_ble_eq_true rfl, Nat.le_of_ble_eq_true rfl⟩ gdX12_askedWeights_98 ?_
      refine g_sub E [] rfl ?_
      exact j101 o6 r4 h
    ·
      refine g_iconst E gdX12_askedWeights_92 ?_
      refine g_goto E 101 gdX12_askedWeights_93 (by decide) ?_
      refine g_sub E [] rfl ?_
      exact j101 o 0 h
  have j81 : ∀ (o : OO) (x1 : Int) (x4 : Int) (y0 : Int) (v : (Int × Int) ⊕ ((Int))), b_X12_askedWeights_81 o x1 x4 y0 = some v → (∀ (x3 : Int) (x4 : Int), v = .inl (x3, x4) → Go X 45 (wM g ad o) [(0, .ref (ad 0)), (1, iv x1), (3, iv x3), (4, iv x4)] []) → (∀ (x3 : Int), v = .inr (x3) → Go X 88 (wM g ad o) [(0, .ref (ad 0)), (3, iv x3)] []) → Go X 81 (wM g ad o) [(0, .ref (ad 0)), (1, iv x1), (4, iv x4)] [iv y0] := by
    intro o x1 x4 y0 v h k0 k1
    unfold b_X12_askedWeights_81 at h
    refine g_istore_n E [(3, iv y0), (0, .ref (ad 0)), (1, iv x1), (4, iv x4)] gdX12_askedWeights_81 rfl (by decide) rfl ?_
    refine g_iinc E [(4, iv (x4 + 1)), (3, iv y0), (0, .ref (ad 0)), (1, iv x1)] gdX12_askedWeights_82 3 rfl (by decide) rfl ?_
    refine g_goto E 45 gdX12_askedWeights_85 (by decide) ?_
    refine g_sub E [2, 3, 1, 0] rfl ?_
    exact k0 y0 (x4 + 1) (Option.some.inj h).symm
  have j80 : ∀ (o : OO) (x1 : Int) (x4 : Int) (v : (Int × Int) ⊕ ((Int))), b_X12_askedWeights_80 o x1 x4 = some v → (∀ (x3 : Int) (x4 : Int), v = .inl (x3, x4) → Go X 45 (wM g ad o) [(0, .ref (ad 0)), (1, iv x1), (3, iv x3), (4, iv x4)] []) → (∀ (x3 : Int), v = .inr (x3) → Go X 88 (wM g ad o) [(0, .ref (ad 0)), (3, iv x3)] []) → Go X 80 (wM g ad o) [(0, .ref (ad 0)), (1, iv x1), (4, iv x4)] [] := by
    intro o x1 x4 v h k0 k1
    unfold b_X12_askedWeights_80 at h
    refine g_iconst E gdX12_askedWeights_80 ?_
    exact j81 o x1 x4 0 v h k0 k1
  have l45 : ∀ (o : OO) (x1 : Int) (r : (Int)) (s0 : Int × Int), loopW (fun s => l_X12_askedWeights_45 o x1 s.1 s.2) s0 = some r → (∀ (x3 : Int), r = (x3) → Go X 88 (wM g ad o) [(0, .ref (ad 0)), (3, iv x3)] []) → Go X 45 (wM g ad o) [(0, .ref (ad 0)), (1, iv x1), (3, iv s0.1), (4, iv s0.2)] [] := by
    intro o x1 r s0 h k1
    refine loop_rule (Head := fun s0 => Go X 45 (wM g ad o) [(0, .ref (ad 0)), (1, iv x1), (3, iv s0.1), (4, iv s0.2)] []) h ?_
    intro s v h kk kx
    obtain ⟨x3, x4⟩ := s
    have h : l_X12_askedWeights_45 o x1 x3 x4 = some v := h
    have k0 : ∀ (x3 : Int) (x4 : Int), v = .inl (x3, x4) → Go X 45 (wM g ad o) [(0, .ref (ad 0)), (1, iv x1), (3, iv x3), (4, iv x4)] [] := fun x3 x4 e => kk (x3, x4) e
    have k1 : ∀ (x3 : Int), v = .inr (x3) → Go X 88 (wM g ad o) [(0, .ref (ad 0)), (3, iv x3)] [] := fun x3 e => k1 x3 (kx _ e).symm
    unfold l_X12_askedWeights_45 at h
    refine g_iload E gdX12_askedWeights_45 3 rfl ?_
    refine g_iconst E gdX12_askedWeights_47 ?_
    refine g_icmp_ge E 88 gdX12_askedWeights_48 (by decide) h (fun h => ?_) (fun h => ?_)
    ·
      refine g_sub E [0, 2] rfl ?_
      exact k1 x3 (Option.some.inj h).symm
    ·
      refine g_iload_n E gdX12_askedWeights_51 rfl 2 rfl ?_
      refine g_if_eq E 80 gdX12_askedWeights_52 (by decide) h (fun h => ?_) (fun h => ?_)
      ·
        refine g_sub E [0, 1, 3] rfl ?_
        exact j80 o x1 x4 v h k0 k1
      ·
        refine g_aload_n E gdX12_askedWeights_55 rfl 0 rfl ?_
        refine g_get (T := TX12) E fw_X12 0 (wM_0 g ad o) rfl 6 (by decide) w_1472 rfl rfl gdX12_askedWeights_56 ?_
        refine g_bipush E gdX12_askedWeights_59 (by decide) ?_
        refine g_iload_n E gdX12_askedWeights_61 rfl 1 rfl ?_
        refine g_imul E gdX12_askedWeights_62 ?_
        refine g_iload E gdX12_askedWeights_63 3 rfl ?_
        refine g_iadd E gdX12_askedWeights_65 ?_
        obtain ⟨hi7, h⟩ := qIn_of h
        refine g_iald E 3 (wM_3 g ad o) (by decide) hi7 gdX12_askedWeights_66 ?_
        obtain ⟨n8, e_n8, h⟩ := qNm_of h
        refine g_nmi e_n8 ?_
        refine g_iconst E gdX12_askedWeights_67 ?_
        refine g_bipush E gdX12_askedWeights_68 (by decide) ?_
        obtain ⟨r9, hc10, h⟩ := qB_of h
        refine g_Si (r := r9) (As := [iv n8, iv 0, iv 100]) (rest := []) (w := wM g ad o) E (c_X12_in l g (wM g ad o) n8 0 100 r9 hc10) okm_X12_in w_1706 w_1705 rfl rfl (Nat.le_of_ble_eq_true rfl) ⟨Nat.le_of_ble_eq_true rfl, Nat.le_of_ble_eq_true rfl⟩ gdX12_askedWeights_70 ?_
        refine g_if_eq E 80 gdX12_askedWeights_73 (by decide) h (fun h => ?_) (fun h => ?_)
        ·
          refine g_sub E [0, 1, 3] rfl ?_
          exact j80 o x1 x4 v h k0 k1
        ·
          refine g_iconst E gdX12_askedWeights_76 ?_
          refine g_goto E 81 gdX12_askedWeights_77 (by decide) ?_
          refine g_sub E [0, 1, 3] rfl ?_
          exact j81 o x1 x4 1 v h k0 k1
  have j45 : ∀ (o : OO) (x1 : Int) (x3 : Int) (x4 : Int), e_X12_askedWeights_45 o x1 x3 x4 = some v → Go X 45 (wM g ad o) [(0, .ref (ad 0)), (1, iv x1), (3, iv x3), (4, iv x4)] [] := by
    intro o x1 x3 x4 h
    unfold e_X12_askedWeights_45 at h
    obtain ⟨r, hr, h⟩ := qB_of h
    refine l45 o x1 r _ hr ?_
    ·
      intro u0 e
      have e := e.symm
      subst e
      have h : b_X12_askedWeights_88 o u0 = some v := h
      exact j88 o u0 h
  unfold s_X12_askedWeights at h
  refine g_aload_n E gdX12_askedWeights_0 rfl 0 rfl ?_
  refine g_get (T := TX12) E fw_X12 0 (wM_0 g ad o) rfl 5 (by decide) w_1471 rfl rfl gdX12_askedWeights_1 ?_
  refine g_iload_n E gdX12_askedWeights_4 rfl 1 rfl ?_
  obtain ⟨hi11, h⟩ := qIn_of h
  refine g_iald E 2 (wM_2 g ad o) (by decide) hi11 gdX12_askedWeights_5 ?_
  obtain ⟨n12, e_n12, h⟩ := qNm_of h
  refine g_nmi e_n12 ?_
  refine g_if_lt E 18 gdX12_askedWeights_6 (by decide) h (fun h => ?_) (fun h => ?_)
  ·
    refine g_sub E [0] rfl ?_
    exact j18 o h
  ·
    refine g_aload_n E gdX12_askedWeights_9 rfl 0 rfl ?_
    refine g_get (T := TX12) E fw_X12 0 (wM_0 g ad o) rfl 5 (by decide) w_1471 rfl rfl gdX12_askedWeights_10 ?_
    refine g_iload_n E gdX12_askedWeights_13 rfl 2 rfl ?_
    obtain ⟨hi13, h⟩ := qIn_of h
    refine g_iald E 2 (wM_2 g ad o) (by decide) hi13 gdX12_askedWeights_14 ?_
    obtain ⟨n14, e_n14, h⟩ := qNm_of h
    refine g_nmi e_n14 ?_
    refine g_if_ge E 24 gdX12_askedWeights_15 (by decide) h (fun h => ?_) (fun h => ?_)
    ·
      refine g_aload_n E gdX12_askedWeights_24 rfl 0 rfl ?_
      refine g_get (T := TX12) E fw_X12 0 (wM_0 g ad o) rfl 5 (by decide) w_1471 rfl rfl gdX12_askedWeights_25 ?_
      refine g_iload_n E gdX12_askedWeights_28 rfl 1 rfl ?_
      obtain ⟨hi15, h⟩ := qIn_of h
      refine g_iald E 2 (wM_2 g ad o) (by decide) hi15 gdX12_askedWeights_29 ?_
      obtain ⟨n16, e_n16, h⟩ := qNm_of h
      refine g_nmi e_n16 ?_
      refine g_iconst E gdX12_askedWeights_30 ?_
      refine g_icmp_eq E 40 gdX12_askedWeights_31 (by decide) h (fun h => ?_) (fun h => ?_)
      ·
        refine g_iconst E gdX12_askedWeights_40 ?_
        refine g_istore_n E [(3, iv 1), (0, .ref (ad 0)), (1, iv x1), (2, iv x2)] gdX12_askedWeights_41 rfl (by decide) rfl ?_
        refine g_iconst E gdX12_askedWeights_42 ?_
        refine g_istore E [(4, iv 0), (3, iv 1), (0, .ref (ad 0)), (1, iv x1), (2, iv x2)] gdX12_askedWeights_43 (by decide) rfl ?_
        refine g_sub E [2, 3, 1, 0] rfl ?_
        exact j45 o x1 1 0 h
      ·
        refine g_aload_n E gdX12_askedWeights_34 rfl 0 rfl ?_
        refine g_iconst E gdX12_askedWeights_35 ?_
        obtain ⟨r17, o19, hc18, h⟩ := qB2_of h
        refine g_Vi (r := r17) (As := [iv 5]) (rest := []) (w := wM g ad o19) E (c_X12_meets l g ad o 5 (r17, o19) hc18) okm_X12_meets okw_X12_meets w_1708 rfl (wM_0 g ad o) rfl rfl (Nat.le_of_ble_eq_true rfl) ⟨Nat.le_of_ble_eq_true rfl, Nat.le_of_ble_eq_true rfl⟩ gdX12_askedWeights_36 ?_
        exact g_iret E hQ (by rw [← Option.some.inj h]) (by rw [← Option.some.inj h]) gdX12_askedWeights_39
    ·
      refine g_sub E [0] rfl ?_
      exact j18 o h
set_option maxHeartbeats 4000000 in
set_option maxRecDepth 100000 in
theorem c_X12_cellsOf (l : Launch) (g : GG) (ad : Nat → Nat) (o : OO) (x1 : Int) (v : Int64) (h : s_X12_cellsOf o x1 = some v) : CL l g yX12_cellsOf cX12_cellsOf 5 (some .long) 0 0 (wM g ad o) [.ref (ad 0), iv x1] v (wM g ad o) := by
  refine met_L (by decide) (Nat.le_of_ble_eq_true rfl) ?_
  intro X E hQ
  show Go X 0 (wM g ad o) [(0, .ref (ad 0)), (1, iv x1)] []
  have j39 : ∀ (z2 : Int64), b_X12_cellsOf_39 o z2 = some v → Go X 39 (wM g ad o) [(2, .long z2)] [] := by
    intro z2 h
    unfold b_X12_cellsOf_39 at h
    refine g_lload_n E gdX12_cellsOf_39 rfl 0 rfl ?_
    exact g_lret E hQ (Option.some.inj h) rfl gdX12_cellsOf_40
  have l5 : ∀ (x1 : Int) (r : (Int64)) (s0 : Int64 × Int), loopW (fun s => l_X12_cellsOf_5 o x1 s.1 s.2) s0 = some r → (∀ (z2 : Int64), r = (z2) → Go X 39 (wM g ad o) [(2, .long z2)] []) → Go X 5 (wM g ad o) [(0, .ref (ad 0)), (1, iv x1), (2, .long s0.1), (4, iv s0.2)] [] := by
    intro x1 r s0 h k1
    refine loop_rule (Head := fun s0 => Go X 5 (wM g ad o) [(0, .ref (ad 0)), (1, iv x1), (2, .long s0.1), (4, iv s0.2)] []) h ?_
    intro s v h kk kx
    obtain ⟨z2, x4⟩ := s
    have h : l_X12_cellsOf_5 o x1 z2 x4 = some v := h
    have k0 : ∀ (z2 : Int64) (x4 : Int), v = .inl (z2, x4) → Go X 5 (wM g ad o) [(0, .ref (ad 0)), (1, iv x1), (2, .long z2), (4, iv x4)] [] := fun z2 x4 e => kk (z2, x4) e
    have k1 : ∀ (z2 : Int64), v = .inr (z2) → Go X 39 (wM g ad o) [(2, .long z2)] [] := fun z2 e => k1 z2 (kx _ e).symm
    unfold l_X12_cellsOf_5 at h
    refine g_iload E gdX12_cellsOf_5 3 rfl ?_
    refine g_aload_n E gdX12_cellsOf_7 rfl 0 rfl ?_
    refine g_get (T := TX12) E fw_X12 0 (wM_0 g ad o) rfl 38 (by decide) w_1504 rfl rfl gdX12_cellsOf_8 ?_
    refine g_iload_n E gdX12_cellsOf_11 rfl 1 rfl ?_
    obtain ⟨hi1, h⟩ := qIn_of h
    refine g_iald E 30 (wM_30 g ad o) (by decide) hi1 gdX12_cellsOf_12 ?_
    obtain ⟨n2, e_n2, h⟩ := qNm_of h
    refine g_nmi e_n2 ?_
    refine g_icmp_ge E 39 gdX12_cellsOf_13 (by decide) h (fun h => ?_) (fun h => ?_)
    ·
      refine g_sub E [2] rfl ?_
      exact k1 z2 (Option.some.inj h).symm
    ·
      refine g_lload_n E gdX12_cellsOf_16 rfl 2 rfl ?_
      refine g_lconst (v := 1) E gdX12_cellsOf_17 (by decide) ?_
      refine g_aload_n E gdX12_cellsOf_18 rfl 0 rfl ?_
      refine g_get (T := TX12) E fw_X12 0 (wM_0 g ad o) rfl 39 (by decide) w_1505 rfl rfl gdX12_cellsOf_19 ?_
      refine g_bipush E gdX12_cellsOf_22 (by decide) ?_
      refine g_iload_n E gdX12_cellsOf_24 rfl 1 rfl ?_
      refine g_imul E gdX12_cellsOf_25 ?_
      refine g_iload E gdX12_cellsOf_26 3 rfl ?_
      refine g_iadd E gdX12_cellsOf_28 ?_
      obtain ⟨hi3, h⟩ := qIn_of h
      refine g_iald E 31 (wM_31 g ad o) (by decide) hi3 gdX12_cellsOf_29 ?_
      obtain ⟨n4, e_n4, h⟩ := qNm_of h
      refine g_nmi e_n4 ?_
      refine g_lshl E gdX12_cellsOf_30 ?_
      refine g_lor E gdX12_cellsOf_31 ?_
      obtain ⟨m5, e_m5, h⟩ := qNm_of h
      refine g_nml e_m5 ?_
      refine g_lstore_n E [(2, .long m5), (0, .ref (ad 0)), (1, iv x1), (4, iv x4)] gdX12_cellsOf_32 rfl (by decide) rfl ?_
      refine g_iinc E [(4, iv (x4 + 1)), (2, .long m5), (0, .ref (ad 0)), (1, iv x1)] gdX12_cellsOf_33 3 rfl (by decide) rfl ?_
      refine g_goto E 5 gdX12_cellsOf_36 (by decide) ?_
      refine g_sub E [2, 3, 1, 0] rfl ?_
      exact k0 m5 (x4 + 1) (Option.some.inj h).symm
  have j5 : ∀ (x1 : Int) (z2 : Int64) (x4 : Int), e_X12_cellsOf_5 o x1 z2 x4 = some v → Go X 5 (wM g ad o) [(0, .ref (ad 0)), (1, iv x1), (2, .long z2), (4, iv x4)] [] := by
    intro x1 z2 x4 h
    unfold e_X12_cellsOf_5 at h
    obtain ⟨r, hr, h⟩ := qB_of h
    refine l5 x1 r _ hr ?_
    ·
      intro u0 e
      have e := e.symm
      subst e
      have h : b_X12_cellsOf_39 o u0 = some v := h
      exact j39 u0 h
  unfold s_X12_cellsOf at h
  refine g_lconst (v := 0) E gdX12_cellsOf_0 (by decide) ?_
  obtain ⟨m6, e_m6, h⟩ := qNm_of h
  refine g_nml e_m6 ?_
  refine g_lstore_n E [(2, .long m6), (0, .ref (ad 0)), (1, iv x1)] gdX12_cellsOf_1 rfl (by decide) rfl ?_
  refine g_iconst E gdX12_cellsOf_2 ?_
  refine g_istore E [(4, iv 0), (2, .long m6), (0, .ref (ad 0)), (1, iv x1)] gdX12_cellsOf_3 (by decide) rfl ?_
  refine g_sub E [2, 3, 1, 0] rfl ?_
  exact j5 x1 m6 0 h
set_option maxHeartbeats 4000000 in
set_option maxRecDepth 100000 in
theorem c_X12_has (l : Launch) (g : GG) (ws : va_W) (z0 : Int64) (x2 : Int) (v : Int) (h : s_X12_has z0 x2 = some v) : CI l g yX12_has cX12_has 3 (some .boolean) 0 0 ws [.long z0, iv x2] v ws := by
  refine met_I (by decide) (Nat.le_of_ble_eq_true rfl) ?_
  intro X E hQ
  show Go X 0 ws [(0, .long z0), (2, iv x2)] []
  have j15 : ∀ (y0 : Int), b_X12_has_15 y0 = some v → Go X 15 ws [] [iv y0] := by
    intro y0 h
    unfold b_X12_has_15 at h
    obtain ⟨hz, h⟩ := qZ_of h
    exact g_zret E hQ hz (Option.some.inj h) rfl gdX12_has_15
  unfold s_X12_has at h
  refine g_lload_n E gdX12_has_0 rfl 0 rfl ?_
  refine g_iload_n E gdX12_has_1 rfl 1 rfl ?_
  refine g_lshr E gdX12_has_2 ?_
  refine g_lconst (v := 1) E gdX12_has_3 (by decide) ?_
  refine g_land E gdX12_has_4 ?_
  refine g_lconst (v := 1) E gdX12_has_5 (by decide) ?_
  refine g_lcmp_ne E 14 gdX12_has_6 gdX12_has_7 (by decide) h (fun h => ?_) (fun h => ?_)
  ·
    refine g_iconst E gdX12_has_14 ?_
    refine g_sub E [] rfl ?_
    exact j15 0 h
  ·
    refine g_iconst E gdX12_has_10 ?_
    refine g_goto E 15 gdX12_has_11 (by decide) ?_
    refine g_sub E [] rfl ?_
    exact j15 1 h
set_option maxHeartbeats 4000000 in
set_option maxRecDepth 100000 in
theorem c_X12_parks (l : Launch) (g : GG) (ad : Nat → Nat) (o : OO) (x1 : Int) (v : Int) (h : s_X12_parks o x1 = some v) : CI l g yX12_parks cX12_parks 4 (some .int) 0 0 (wM g ad o) [.ref (ad 0), iv x1] v (wM g ad o) := by
  refine met_I (by decide) (Nat.le_of_ble_eq_true rfl) ?_
  intro X E hQ
  show Go X 0 (wM g ad o) [(0, .ref (ad 0)), (1, iv x1)] []
  have j48 : ∀ (x2 : Int), b_X12_parks_48 o x2 = some v → Go X 48 (wM g ad o) [(2, iv x2)] [] := by
    intro x2 h
    unfold b_X12_parks_48 at h
    refine g_iload_n E gdX12_parks_48 rfl 0 rfl ?_
    exact g_iret E hQ (Option.some.inj h) rfl gdX12_parks_49
  have j40 : ∀ (x1 : Int) (x3 : Int) (y0 : Int) (y1 : Int) (v : (Int × Int) ⊕ ((Int))), b_X12_parks_40 o x1 x3 y0 y1 = some v → (∀ (x2 : Int) (x3 : Int), v = .inl (x2, x3) → Go X 4 (wM g ad o) [(0, .ref (ad 0)), (1, iv x1), (2, iv x2), (3, iv x3)] []) → (∀ (x2 : Int), v = .inr (x2) → Go X 48 (wM g ad o) [(2, iv x2)] []) → Go X 40 (wM g ad o) [(0, .ref (ad 0)), (1, iv x1), (3, iv x3)] [iv y1, iv y0] := by
    intro x1 x3 y0 y1 v h k0 k1
    unfold b_X12_parks_40 at h
    refine g_iadd E gdX12_parks_40 ?_
    obtain ⟨n1, e_n1, h⟩ := qNm_of h
    refine g_nmi e_n1 ?_
    refine g_istore_n E [(2, iv n1), (0, .ref (ad 0)), (1, iv x1), (3, iv x3)] gdX12_parks_41 rfl (by decide) rfl ?_
    refine g_iinc E [(3, iv (x3 + 1)), (2, iv n1), (0, .ref (ad 0)), (1, iv x1)] gdX12_parks_42 3 rfl (by decide) rfl ?_
    refine g_goto E 4 gdX12_parks_45 (by decide) ?_
    refine g_sub E [2, 3, 1, 0] rfl ?_
    exact k0 n1 (x3 + 1) (Option.some.inj h).symm
  have l4 : ∀ (x1 : Int) (r : (Int)) (s0 : Int × Int), loopW (fun s => l_X12_parks_4 o x1 s.1 s.2) s0 = some r → (∀ (x2 : Int), r = (x2) → Go X 48 (wM g ad o) [(2, iv x2)] []) → Go X 4 (wM g ad o) [(0, .ref (ad 0)), (1, iv x1), (2, iv s0.1), (3, iv s0.2)] [] := by
    intro x1 r s0 h k1
    refine loop_rule (Head := fun s0 => Go X 4 (wM g ad o) [(0, .ref (ad 0)), (1, iv x1), (2, iv s0.1), (3, iv s0.2)] []) h ?_
    intro s v h kk kx
    obtain ⟨x2, x3⟩ := s
    have h : l_X12_parks_4 o x1 x2 x3 = some v := h
    have k0 : ∀ (x2 : Int) (x3 : Int), v = .inl (x2, x3) → Go X 4 (wM g ad o) [(0, .ref (ad 0)), (1, iv x1), (2, iv x2), (3, iv x3)] [] := fun x2 x3 e => kk (x2, x3) e
    have k1 : ∀ (x2 : Int), v = .inr (x2) → Go X 48 (wM g ad o) [(2, iv x2)] [] := fun x2 e => k1 x2 (kx _ e).symm
    unfold l_X12_parks_4 at h
    refine g_iload_n E gdX12_parks_4 rfl 3 rfl ?_
    refine g_aload_n E gdX12_parks_5 rfl 0 rfl ?_
    refine g_get (T := TX12) E fw_X12 0 (wM_0 g ad o) rfl 38 (by decide) w_1504 rfl rfl gdX12_parks_6 ?_
    refine g_iload_n E gdX12_parks_9 rfl 1 rfl ?_
    obtain ⟨hi2, h⟩ := qIn_of h
    refine g_iald E 30 (wM_30 g ad o) (by decide) hi2 gdX12_parks_10 ?_
    obtain ⟨n3, e_n3, h⟩ := qNm_of h
    refine g_nmi e_n3 ?_
    refine g_icmp_ge E 48 gdX12_parks_11 (by decide) h (fun h => ?_) (fun h => ?_)
    ·
      refine g_sub E [2] rfl ?_
      exact k1 x2 (Option.some.inj h).symm
    ·
      refine g_iload_n E gdX12_parks_14 rfl 2 rfl ?_
      refine g_aload_n E gdX12_parks_15 rfl 0 rfl ?_
      refine g_get (T := TX12) E fw_X12 0 (wM_0 g ad o) rfl 15 (by decide) w_1481 rfl rfl gdX12_parks_16 ?_
      refine g_aload_n E gdX12_parks_19 rfl 0 rfl ?_
      refine g_get (T := TX12) E fw_X12 0 (wM_0 g ad o) rfl 39 (by decide) w_1505 rfl rfl gdX12_parks_20 ?_
      refine g_bipush E gdX12_parks_23 (by decide) ?_
      refine g_iload_n E gdX12_parks_25 rfl 1 rfl ?_
      refine g_imul E gdX12_parks_26 ?_
      refine g_iload_n E gdX12_parks_27 rfl 3 rfl ?_
      refine g_iadd E gdX12_parks_28 ?_
      obtain ⟨hi4, h⟩ := qIn_of h
      refine g_iald E 31 (wM_31 g ad o) (by decide) hi4 gdX12_parks_29 ?_
      obtain ⟨n5, e_n5, h⟩ := qNm_of h
      refine g_nmi e_n5 ?_
      obtain ⟨hi6, h⟩ := qIn_of h
      refine g_iald E 11 (wM_11 g ad o) (by decide) hi6 gdX12_parks_30 ?_
      obtain ⟨n7, e_n7, h⟩ := qNm_of h
      refine g_nmi e_n7 ?_
      refine g_iconst E gdX12_parks_31 ?_
      refine g_icmp_ne E 39 gdX12_parks_32 (by decide) h (fun h => ?_) (fun h => ?_)
      ·
        refine g_iconst E gdX12_parks_39 ?_
        refine g_sub E [0, 1, 3] rfl ?_
        exact j40 x1 x3 x2 0 v h k0 k1
      ·
        refine g_iconst E gdX12_parks_35 ?_
        refine g_goto E 40 gdX12_parks_36 (by decide) ?_
        refine g_sub E [0, 1, 3] rfl ?_
        exact j40 x1 x3 x2 1 v h k0 k1
  have j4 : ∀ (x1 : Int) (x2 : Int) (x3 : Int), e_X12_parks_4 o x1 x2 x3 = some v → Go X 4 (wM g ad o) [(0, .ref (ad 0)), (1, iv x1), (2, iv x2), (3, iv x3)] [] := by
    intro x1 x2 x3 h
    unfold e_X12_parks_4 at h
    obtain ⟨r, hr, h⟩ := qB_of h
    refine l4 x1 r _ hr ?_
    ·
      intro u0 e
      have e := e.symm
      subst e
      have h : b_X12_parks_48 o u0 = some v := h
      exact j48 u0 h
  unfold s_X12_parks at h
  refine g_iconst E gdX12_parks_0 ?_
  refine g_istore_n E [(2, iv 0), (0, .ref (ad 0)), (1, iv x1)] gdX12_parks_1 rfl (by decide) rfl ?_
  refine g_iconst E gdX12_parks_2 ?_
  refine g_istore_n E [(3, iv 0), (2, iv 0), (0, .ref (ad 0)), (1, iv x1)] gdX12_parks_3 rfl (by decide) rfl ?_
  refine g_sub E [2, 3, 1, 0] rfl ?_
  exact j4 x1 0 0 h
set_option maxHeartbeats 4000000 in
set_option maxRecDepth 100000 in
theorem c_X12_ruleFor (l : Launch) (g : GG) (ad : Nat → Nat) (o : OO) (x1 : Int) (x2 : Int) (x3 : Int) (v : Int) (h : s_X12_ruleFor o x1 x2 x3 = some v) : CI l g yX12_ruleFor cX12_ruleFor 7 (some .int) 0 0 (wM g ad o) [.ref (ad 0), iv x1, iv x2, iv x3] v (wM g ad o) := by
  refine met_I (by decide) (Nat.le_of_ble_eq_true rfl) ?_
  intro X E hQ
  show Go X 0 (wM g ad o) [(0, .ref (ad 0)), (1, iv x1), (2, iv x2), (3, iv x3)] []
  have j102 : ∀ (x4 : Int), b_X12_ruleFor_102 o x4 = some v → Go X 102 (wM g ad o) [(4, iv x4)] [] := by
    intro x4 h
    unfold b_X12_ruleFor_102 at h
    refine g_iload E gdX12_ruleFor_102 0 rfl ?_
    exact g_iret E hQ (Option.some.inj h) rfl gdX12_ruleFor_104
  have j94 : ∀ (x1 : Int) (x2 : Int) (x3 : Int) (x5 : Int) (y0 : Int) (v : (Int × Int) ⊕ ((Int))), b_X12_ruleFor_94 o x1 x2 x3 x5 y0 = some v → (∀ (x4 : Int) (x5 : Int), v = .inl (x4, x5) → Go X 7 (wM g ad o) [(0, .ref (ad 0)), (1, iv x1), (2, iv x2), (3, iv x3), (4, iv x4), (5, iv x5)] []) → (∀ (x4 : Int), v = .inr (x4) → Go X 102 (wM g ad o) [(4, iv x4)] []) → Go X 94 (wM g ad o) [(0, .ref (ad 0)), (1, iv x1), (2, iv x2), (3, iv x3), (5, iv x5)] [iv y0] := by
    intro x1 x2 x3 x5 y0 v h k0 k1
    unfold b_X12_ruleFor_94 at h
    refine g_istore E [(4, iv y0), (0, .ref (ad 0)), (1, iv x1), (2, iv x2), (3, iv x3), (5, iv x5)] gdX12_ruleFor_94 (by decide) rfl ?_
    refine g_iinc E [(5, iv (x5 + 1)), (4, iv y0), (0, .ref (ad 0)), (1, iv x1), (2, iv x2), (3, iv x3)] gdX12_ruleFor_96 5 rfl (by decide) rfl ?_
    refine g_goto E 7 gdX12_ruleFor_99 (by decide) ?_
    refine g_sub E [2, 3, 4, 5, 1, 0] rfl ?_
    exact k0 y0 (x5 + 1) (Option.some.inj h).symm
  have j87 : ∀ (x1 : Int) (x2 : Int) (x3 : Int) (x5 : Int) (v : (Int × Int) ⊕ ((Int))), b_X12_ruleFor_87 o x1 x2 x3 x5 = some v → (∀ (x4 : Int) (x5 : Int), v = .inl (x4, x5) → Go X 7 (wM g ad o) [(0, .ref (ad 0)), (1, iv x1), (2, iv x2), (3, iv x3), (4, iv x4), (5, iv x5)] []) → (∀ (x4 : Int), v = .inr (x4) → Go X 102 (wM g ad o) [(4, iv x4)] []) → Go X 87 (wM g ad o) [(0, .ref (ad 0)), (1, iv x1), (2, iv x2), (3, iv x3), (5, iv x5)] [] := by
    intro x1 x2 x3 x5 v h k0 k1
    unfold b_X12_ruleFor_87 at h
    refine g_iload E gdX12_ruleFor_87 4 rfl ?_
    refine g_goto E 94 gdX12_ruleFor_89 (by decide) ?_
    exact j94 x1 x2 x3 x5 x5 v h k0 k1
  have j92 : ∀ (x1 : Int) (x2 : Int) (x3 : Int) (x4 : Int) (x5 : Int) (v : (Int × Int) ⊕ ((Int))), b_X12_ruleFor_92 o x1 x2 x3 x4 x5 = some v → (∀ (x4 : Int) (x5 : Int), v = .inl (x4, x5) → Go X 7 (wM g ad o) [(0, .ref (ad 0)), (1, iv x1), (2, iv x2), (3, iv x3), (4, iv x4), (5, iv x5)] []) → (∀ (x4 : Int), v = .inr (x4) → Go X 102 (wM g ad o) [(4, iv x4)] []) → Go X 92 (wM g ad o) [(0, .ref (ad 0)), (1, iv x1), (2, iv x2), (3, iv x3), (4, iv x4), (5, iv x5)] [] := by
    intro x1 x2 x3 x4 x5 v h k0 k1
    unfold b_X12_ruleFor_92 at h
    refine g_iload E gdX12_ruleFor_92 4 rfl ?_
    refine g_sub E [0, 1, 2, 3, 5] rfl ?_
    exact j94 x1 x2 x3 x5 x4 v h k0 k1
  have j58 : ∀ (x1 : Int) (x2 : Int) (x3 : Int) (x4 : Int) (x5 : Int) (y0 : Int) (v : (Int × Int) ⊕ ((Int))), b_X12_ruleFor_58 o x1 x2 x3 x4 x5 y0 = some v → (∀ (x4 : Int) (x5 : Int), v = .inl (x4, x5) → Go X 7 (wM g ad o) [(0, .ref (ad 0)), (1, iv x1), (2, iv x2), (3, iv x3), (4, iv x4), (5, iv x5)] []) → (∀ (x4 : Int), v = .inr (x4) → Go X 102 (wM g ad o) [(4, iv x4)] []) → Go X 58 (wM g ad o) [(0, .ref (ad 0)), (1, iv x1), (2, iv x2), (3, iv x3), (4, iv x4), (5, iv x5)] [iv y0] := by
    intro x1 x2 x3 x4 x5 y0 v h k0 k1
    unfold b_X12_ruleFor_58 at h
    refine g_istore E [(6, iv y0), (0, .ref (ad 0)), (1, iv x1), (2, iv x2), (3, iv x3), (4, iv x4), (5, iv x5)] gdX12_ruleFor_58 (by decide) rfl ?_
    refine g_iload E gdX12_ruleFor_60 0 rfl ?_
    refine g_if_eq E 92 gdX12_ruleFor_62 (by decide) h (fun h => ?_) (fun h => ?_)
    ·
      refine g_sub E [1, 2, 3, 4, 5, 6] rfl ?_
      exact j92 x1 x2 x3 x4 x5 v h k0 k1
    ·
      refine g_iload E gdX12_ruleFor_65 5 rfl ?_
      refine g_if_lt E 87 gdX12_ruleFor_67 (by decide) h (fun h => ?_) (fun h => ?_)
      ·
        refine g_sub E [1, 2, 3, 4, 6] rfl ?_
        exact j87 x1 x2 x3 x5 v h k0 k1
      ·
        refine g_aload_n E gdX12_ruleFor_70 rfl 1 rfl ?_
        refine g_get (T := TX12) E fw_X12 0 (wM_0 g ad o) rfl 12 (by decide) w_1478 rfl rfl gdX12_ruleFor_71 ?_
        refine g_iload E gdX12_ruleFor_74 6 rfl ?_
        obtain ⟨hi1, h⟩ := qIn_of h
        refine g_iald E 8 (wM_8 g ad o) (by decide) hi1 gdX12_ruleFor_76 ?_
        obtain ⟨n2, e_n2, h⟩ := qNm_of h
        refine g_nmi e_n2 ?_
        refine g_aload_n E gdX12_ruleFor_77 rfl 1 rfl ?_
        refine g_get (T := TX12) E fw_X12 0 (wM_0 g ad o) rfl 12 (by decide) w_1478 rfl rfl gdX12_ruleFor_78 ?_
        refine g_iload E gdX12_ruleFor_81 5 rfl ?_
        obtain ⟨hi3, h⟩ := qIn_of h
        refine g_iald E 8 (wM_8 g ad o) (by decide) hi3 gdX12_ruleFor_83 ?_
        obtain ⟨n4, e_n4, h⟩ := qNm_of h
        refine g_nmi e_n4 ?_
        refine g_icmp_lt E 92 gdX12_ruleFor_84 (by decide) h (fun h => ?_) (fun h => ?_)
        ·
          refine g_sub E [1, 2, 3, 4, 5, 6] rfl ?_
          exact j92 x1 x2 x3 x4 x5 v h k0 k1
        ·
          refine g_sub E [1, 2, 3, 4, 6] rfl ?_
          exact j87 x1 x2 x3 x5 v h k0 k1
  have j57 : ∀ (x1 : Int) (x2 : Int) (x3 : Int) (x4 : Int) (x5 : Int) (v : (Int × Int) ⊕ ((Int))), b_X12_ruleFor_57 o x1 x2 x3 x4 x5 = some v → (∀ (x4 : Int) (x5 : Int), v = .inl (x4, x5) → Go X 7 (wM g ad o) [(0, .ref (ad 0)), (1, iv x1), (2, iv x2), (3, iv x3), (4, iv x4), (5, iv x5)] []) → (∀ (x4 : Int), v = .inr (x4) → Go X 102 (wM g ad o) [(4, iv x4)] []) → Go X 57 (wM g ad o) [(0, .ref (ad 0)), (1, iv x1), (2, iv x2), (3, iv x3), (4, iv x4), (5, iv x5)] [] := by
    intro x1 x2 x3 x4 x5 v h k0 k1
    unfold b_X12_ruleFor_57 at h
    refine g_iconst E gdX12_ruleFor_57 ?_
    exact j58 x1 x2 x3 x4 x5 0 v h k0 k1
  have l7 : ∀ (x1 : Int) (x2 : Int) (x3 : Int) (r : (Int)) (s0 : Int × Int), loopW (fun s => l_X12_ruleFor_7 o x1 x2 x3 s.1 s.2) s0 = some r → (∀ (x4 : Int), r = (x4) → Go X 102 (wM g ad o) [(4, iv x4)] []) → Go X 7 (wM g ad o) [(0, .ref (ad 0)), (1, iv x1), (2, iv x2), (3, iv x3), (4, iv s0.1), (5, iv s0.2)] [] := by
    intro x1 x2 x3 r s0 h k1
    refine loop_rule (Head := fun s0 => Go X 7 (wM g ad o) [(0, .ref (ad 0)), (1, iv x1), (2, iv x2), (3, iv x3), (4, iv s0.1), (5, iv s0.2)] []) h ?_
    intro s v h kk kx
    obtain ⟨x4, x5⟩ := s
    have h : l_X12_ruleFor_7 o x1 x2 x3 x4 x5 = some v := h
    have k0 : ∀ (x4 : Int) (x5 : Int), v = .inl (x4, x5) → Go X 7 (wM g ad o) [(0, .ref (ad 0)), (1, iv x1), (2, iv x2), (3, iv x3), (4, iv x4), (5, iv x5)] [] := fun x4 x5 e => kk (x4, x5) e
    have k1 : ∀ (x4 : Int), v = .inr (x4) → Go X 102 (wM g ad o) [(4, iv x4)] [] := fun x4 e => k1 x4 (kx _ e).symm
    unfold l_X12_ruleFor_7 at h
    refine g_iload E gdX12_ruleFor_7 5 rfl ?_
    refine g_aload_n E gdX12_ruleFor_9 rfl 0 rfl ?_
    refine g_get (T := TX12) E fw_X12 0 (wM_0 g ad o) rfl 10 (by decide) w_1476 rfl rfl gdX12_ruleFor_10 ?_
    refine g_icmp_ge E 102 gdX12_ruleFor_13 (by decide) h (fun h => ?_) (fun h => ?_)
    ·
      refine g_sub E [4] rfl ?_
      exact k1 x4 (Option.some.inj h).symm
    ·
      refine g_aload_n E gdX12_ruleFor_16 rfl 0 rfl ?_
      refine g_get (T := TX12) E fw_X12 0 (wM_0 g ad o) rfl 11 (by decide) w_1477 rfl rfl gdX12_ruleFor_17 ?_
      refine g_iload E gdX12_ruleFor_20 5 rfl ?_
      obtain ⟨hi5, h⟩ := qIn_of h
      refine g_iald E 7 (wM_7 g ad o) (by decide) hi5 gdX12_ruleFor_22 ?_
      obtain ⟨n6, e_n6, h⟩ := qNm_of h
      refine g_nmi e_n6 ?_
      refine g_iload_n E gdX12_ruleFor_23 rfl 3 rfl ?_
      refine g_icmp_gt E 57 gdX12_ruleFor_24 (by decide) h (fun h => ?_) (fun h => ?_)
      ·
        exact j57 x1 x2 x3 x4 x5 v h k0 k1
      ·
        refine g_aload_n E gdX12_ruleFor_27 rfl 0 rfl ?_
        refine g_get (T := TX12) E fw_X12 0 (wM_0 g ad o) rfl 12 (by decide) w_1478 rfl rfl gdX12_ruleFor_28 ?_
        refine g_iload E gdX12_ruleFor_31 5 rfl ?_
        obtain ⟨hi7, h⟩ := qIn_of h
        refine g_iald E 8 (wM_8 g ad o) (by decide) hi7 gdX12_ruleFor_33 ?_
        obtain ⟨n8, e_n8, h⟩ := qNm_of h
        refine g_nmi e_n8 ?_
        refine g_iload_n E gdX12_ruleFor_34 rfl 2 rfl ?_
        refine g_icmp_gt E 57 gdX12_ruleFor_35 (by decide) h (fun h => ?_) (fun h => ?_)
        ·
          exact j57 x1 x2 x3 x4 x5 v h k0 k1
        ·
          refine g_aload_n E gdX12_ruleFor_38 rfl 0 rfl ?_
          refine g_get (T := TX12) E fw_X12 0 (wM_0 g ad o) rfl 13 (by decide) w_1479 rfl rfl gdX12_ruleFor_39 ?_
          refine g_bipush E gdX12_ruleFor_42 (by decide) ?_
          refine g_iload E gdX12_ruleFor_44 5 rfl ?_
          refine g_imul E gdX12_ruleFor_46 ?_
          refine g_iload_n E gdX12_ruleFor_47 rfl 1 rfl ?_
          refine g_iadd E gdX12_ruleFor_48 ?_
          obtain ⟨hi9, h⟩ := qIn_of h
          refine g_iald E 9 (wM_9 g ad o) (by decide) hi9 gdX12_ruleFor_49 ?_
          obtain ⟨n10, e_n10, h⟩ := qNm_of h
          refine g_nmi e_n10 ?_
          refine g_if_lt E 57 gdX12_ruleFor_50 (by decide) h (fun h => ?_) (fun h => ?_)
          ·
            exact j57 x1 x2 x3 x4 x5 v h k0 k1
          ·
            refine g_iconst E gdX12_ruleFor_53 ?_
            refine g_goto E 58 gdX12_ruleFor_54 (by decide) ?_
            exact j58 x1 x2 x3 x4 x5 1 v h k0 k1
  have j7 : ∀ (x1 : Int) (x2 : Int) (x3 : Int) (x4 : Int) (x5 : Int), e_X12_ruleFor_7 o x1 x2 x3 x4 x5 = some v → Go X 7 (wM g ad o) [(0, .ref (ad 0)), (1, iv x1), (2, iv x2), (3, iv x3), (4, iv x4), (5, iv x5)] [] := by
    intro x1 x2 x3 x4 x5 h
    unfold e_X12_ruleFor_7 at h
    obtain ⟨r, hr, h⟩ := qB_of h
    refine l7 x1 x2 x3 r _ hr ?_
    ·
      intro u0 e
      have e := e.symm
      subst e
      have h : b_X12_ruleFor_102 o u0 = some v := h
      exact j102 u0 h
  unfold s_X12_ruleFor at h
  refine g_bipush E gdX12_ruleFor_0 (by decide) ?_
  refine g_istore E [(4, iv (-9)), (0, .ref (ad 0)), (1, iv x1), (2, iv x2), (3, iv x3)] gdX12_ruleFor_2 (by decide) rfl ?_
  refine g_iconst E gdX12_ruleFor_4 ?_
  refine g_istore E [(5, iv 0), (4, iv (-9)), (0, .ref (ad 0)), (1, iv x1), (2, iv x2), (3, iv x3)] gdX12_ruleFor_5 (by decide) rfl ?_
  refine g_sub E [2, 3, 4, 5, 1, 0] rfl ?_
  exact j7 x1 x2 x3 (-9) 0 h
set_option maxHeartbeats 4000000 in
set_option maxRecDepth 100000 in
theorem c_X12_inForce (l : Launch) (g : GG) (ad : Nat → Nat) (o : OO) (x1 : Int) (x2 : Int) (x3 : Int) (v : Int) (h : s_X12_inForce o x1 x2 x3 = some v) : CI l g yX12_inForce cX12_inForce 5 (some .int) 1 26 (wM g ad o) [.ref (ad 0), iv x1, iv x2, iv x3] v (wM g ad o) := by
  refine met_I (by decide) (Nat.le_of_ble_eq_true rfl) ?_
  intro X E hQ
  show Go X 0 (wM g ad o) [(0, .ref (ad 0)), (1, iv x1), (2, iv x2), (3, iv x3)] []
  unfold s_X12_inForce at h
  refine g_aload_n E gdX12_inForce_0 rfl 0 rfl ?_
  refine g_iload_n E gdX12_inForce_1 rfl 1 rfl ?_
  refine g_iload_n E gdX12_inForce_2 rfl 2 rfl ?_
  refine g_iload_n E gdX12_inForce_3 rfl 3 rfl ?_
  obtain ⟨r1, hc2, h⟩ := qB_of h
  refine g_Vi (r := r1) (As := [iv x1, iv x2, iv x3]) (rest := []) (w := wM g ad o) E (c_X12_ruleFor l g ad o x1 x2 x3 r1 hc2) okm_X12_ruleFor okw_X12_ruleFor w_1776 rfl (wM_0 g ad o) rfl rfl (Nat.le_of_ble_eq_true rfl) ⟨Nat.le_of_ble_eq_true rfl, Nat.le_of_ble_eq_true rfl⟩ gdX12_inForce_4 ?_
  refine g_istore E [(4, iv r1), (0, .ref (ad 0)), (1, iv x1), (2, iv x2), (3, iv x3)] gdX12_inForce_7 (by decide) rfl ?_
  refine g_iload E gdX12_inForce_9 0 rfl ?_
  refine g_if_lt E 27 gdX12_inForce_11 (by decide) h (fun h => ?_) (fun h => ?_)
  ·
    refine g_iload_n E gdX12_inForce_27 rfl 2 rfl ?_
    obtain ⟨h1, -, ⟨hx, h⟩ | ⟨hx0, h⟩⟩ := qEq_of h
    ·
      refine g_tabIn (kx := 0) (off := 44) E 72 gdX12_inForce_28 hx (by decide) (by decide) (by decide) (by decide) (by decide) ?_
      refine g_bipush E gdX12_inForce_72 (by decide) ?_
      exact g_iret E hQ (Option.some.inj h) rfl gdX12_inForce_74
    ·
      obtain ⟨h1, -, ⟨hx, h⟩ | ⟨hx1, h⟩⟩ := qEq_of h
      ·
        refine g_tabIn (kx := 1) (off := 47) E 75 gdX12_inForce_28 hx (by decide) (by decide) (by decide) (by decide) (by decide) ?_
        refine g_bipush E gdX12_inForce_75 (by decide) ?_
        exact g_iret E hQ (Option.some.inj h) rfl gdX12_inForce_77
      ·
        obtain ⟨h1, -, ⟨hx, h⟩ | ⟨hx2, h⟩⟩ := qEq_of h
        ·
          refine g_tabIn (kx := 2) (off := 50) E 78 gdX12_inForce_28 hx (by decide) (by decide) (by decide) (by decide) (by decide) ?_
          refine g_bipush E gdX12_inForce_78 (by decide) ?_
          exact g_iret E hQ (Option.some.inj h) rfl gdX12_inForce_80
        ·
          obtain ⟨h1, -, ⟨hx, h⟩ | ⟨hx3, h⟩⟩ := qEq_of h
          ·
            refine g_tabIn (kx := 3) (off := 53) E 81 gdX12_inForce_28 hx (by decide) (by decide) (by decide) (by decide) (by decide) ?_
            refine g_bipush E gdX12_inForce_81 (by decide) ?_
            exact g_iret E hQ (Option.some.inj h) rfl gdX12_inForce_83
          ·
            obtain ⟨h1, -, ⟨hx, h⟩ | ⟨hx4, h⟩⟩ := qEq_of h
            ·
              refine g_tabIn (kx := 4) (off := 56) E 84 gdX12_inForce_28 hx (by decide) (by decide) (by decide) (by decide) (by decide) ?_
              refine g_iconst E gdX12_inForce_84 ?_
              exact g_iret E hQ (Option.some.inj h) rfl gdX12_inForce_85
            ·
              obtain ⟨h1, -, ⟨hx, h⟩ | ⟨hx5, h⟩⟩ := qEq_of h
              ·
                refine g_tabIn (kx := 5) (off := 58) E 86 gdX12_inForce_28 hx (by decide) (by decide) (by decide) (by decide) (by decide) ?_
                refine g_bipush E gdX12_inForce_86 (by decide) ?_
                exact g_iret E hQ (Option.some.inj h) rfl gdX12_inForce_88
              ·
                obtain ⟨h1, -, ⟨hx, h⟩ | ⟨hx6, h⟩⟩ := qEq_of h
                ·
                  refine g_tabIn (kx := 6) (off := 61) E 89 gdX12_inForce_28 hx (by decide) (by decide) (by decide) (by decide) (by decide) ?_
                  refine g_iconst E gdX12_inForce_89 ?_
                  exact g_iret E hQ (Option.some.inj h) rfl gdX12_inForce_90
                ·
                  refine g_tabOut E 91 gdX12_inForce_28 h1 (by omega) (by decide) ?_
                  refine g_bipush E gdX12_inForce_91 (by decide) ?_
                  exact g_iret E hQ (Option.some.inj h) rfl gdX12_inForce_93
  ·
    refine g_aload_n E gdX12_inForce_14 rfl 1 rfl ?_
    refine g_get (T := TX12) E fw_X12 0 (wM_0 g ad o) rfl 13 (by decide) w_1479 rfl rfl gdX12_inForce_15 ?_
    refine g_bipush E gdX12_inForce_18 (by decide) ?_
    refine g_iload E gdX12_inForce_20 0 rfl ?_
    refine g_imul E gdX12_inForce_22 ?_
    refine g_iload_n E gdX12_inForce_23 rfl 2 rfl ?_
    refine g_iadd E gdX12_inForce_24 ?_
    obtain ⟨hi3, h⟩ := qIn_of h
    refine g_iald E 9 (wM_9 g ad o) (by decide) hi3 gdX12_inForce_25 ?_
    obtain ⟨n4, e_n4, h⟩ := qNm_of h
    refine g_nmi e_n4 ?_
    exact g_iret E hQ (Option.some.inj h) rfl gdX12_inForce_26
set_option maxHeartbeats 4000000 in
set_option maxRecDepth 100000 in
theorem c_X12_nowInForce (l : Launch) (g : GG) (ad : Nat → Nat) (o : OO) (x1 : Int) (v : Int) (h : s_X12_nowInForce o x1 = some v) : CI l g yX12_nowInForce cX12_nowInForce 2 (some .int) 2 50 (wM g ad o) [.ref (ad 0), iv x1] v (wM g ad o) := by
  refine met_I (by decide) (Nat.le_of_ble_eq_true rfl) ?_
  intro X E hQ
  show Go X 0 (wM g ad o) [(0, .ref (ad 0)), (1, iv x1)] []
  unfold s_X12_nowInForce at h
  refine g_aload_n E gdX12_nowInForce_0 rfl 0 rfl ?_
  refine g_iload_n E gdX12_nowInForce_1 rfl 1 rfl ?_
  refine g_aload_n E gdX12_nowInForce_2 rfl 0 rfl ?_
  refine g_get (T := TX12) E fw_X12 0 (wM_0 g ad o) rfl 4 (by decide) w_1470 rfl rfl gdX12_nowInForce_3 ?_
  refine g_aload_n E gdX12_nowInForce_6 rfl 0 rfl ?_
  refine g_get (T := TX12) E fw_X12 0 (wM_0 g ad o) rfl 4 (by decide) w_1470 rfl rfl gdX12_nowInForce_7 ?_
  obtain ⟨r1, hc2, h⟩ := qB_of h
  refine g_Vi (r := r1) (As := [iv x1, iv (o.1 0 4), iv (o.1 0 4)]) (rest := []) (w := wM g ad o) E (c_X12_inForce l g ad o x1 (o.1 0 4) (o.1 0 4) r1 hc2) okm_X12_inForce okw_X12_inForce w_1772 rfl (wM_0 g ad o) rfl rfl (Nat.le_of_ble_eq_true rfl) ⟨Nat.le_of_ble_eq_true rfl, Nat.le_of_ble_eq_true rfl⟩ gdX12_nowInForce_10 ?_
  exact g_iret E hQ (Option.some.inj h) rfl gdX12_nowInForce_13
set_option maxHeartbeats 4000000 in
set_option maxRecDepth 100000 in
theorem c_X12_apart (l : Launch) (g : GG) (ws : va_W) (x0 : Int) (x1 : Int) (v : Int) (h : s_X12_apart x0 x1 = some v) : CI l g yX12_apart cX12_apart 4 (some .int) 0 0 ws [iv x0, iv x1] v ws := by
  refine met_I (by decide) (Nat.le_of_ble_eq_true rfl) ?_
  intro X E hQ
  show Go X 0 ws [(0, iv x0), (1, iv x1)] []
  have j40 : ∀ (y0 : Int) (y1 : Int), b_X12_apart_40 y0 y1 = some v → Go X 40 ws [] [iv y1, iv y0] := by
    intro y0 y1 h
    unfold b_X12_apart_40 at h
    refine g_iadd E gdX12_apart_40 ?_
    exact g_iret E hQ (Option.some.inj h) rfl gdX12_apart_41
  have j30 : ∀ (x3 : Int) (y0 : Int), b_X12_apart_30 x3 y0 = some v → Go X 30 ws [(3, iv x3)] [iv y0] := by
    intro x3 y0 h
    unfold b_X12_apart_30 at h
    refine g_iload_n E gdX12_apart_30 rfl 0 rfl ?_
    refine g_if_ge E 39 gdX12_apart_31 (by decide) h (fun h => ?_) (fun h => ?_)
    ·
      refine g_iload_n E gdX12_apart_39 rfl 0 rfl ?_
      refine g_sub E [] rfl ?_
      exact j40 y0 x3 h
    ·
      refine g_iload_n E gdX12_apart_34 rfl 0 rfl ?_
      refine g_ineg E gdX12_apart_35 ?_
      refine g_goto E 40 gdX12_apart_36 (by decide) ?_
      refine g_sub E [] rfl ?_
      exact j40 y0 (-x3) h
  unfold s_X12_apart at h
  refine g_iload_n E gdX12_apart_0 rfl 0 rfl ?_
  refine g_bipush E gdX12_apart_1 (by decide) ?_
  obtain ⟨hd1, h⟩ := qDv_of h
  refine g_irem E hd1 gdX12_apart_3 ?_
  refine g_iload_n E gdX12_apart_4 rfl 1 rfl ?_
  refine g_bipush E gdX12_apart_5 (by decide) ?_
  obtain ⟨hd2, h⟩ := qDv_of h
  refine g_irem E hd2 gdX12_apart_7 ?_
  refine g_isub E gdX12_apart_8 ?_
  obtain ⟨n3, e_n3, h⟩ := qNm_of h
  refine g_nmi e_n3 ?_
  refine g_istore_n E [(2, iv n3), (0, iv x0), (1, iv x1)] gdX12_apart_9 rfl (by decide) rfl ?_
  refine g_iload_n E gdX12_apart_10 rfl 1 rfl ?_
  refine g_bipush E gdX12_apart_11 (by decide) ?_
  obtain ⟨hd4, h⟩ := qDv_of h
  refine g_idiv E hd4 gdX12_apart_13 ?_
  refine g_iload_n E gdX12_apart_14 rfl 2 rfl ?_
  refine g_bipush E gdX12_apart_15 (by decide) ?_
  obtain ⟨hd5, h⟩ := qDv_of h
  refine g_idiv E hd5 gdX12_apart_17 ?_
  refine g_isub E gdX12_apart_18 ?_
  obtain ⟨n6, e_n6, h⟩ := qNm_of h
  refine g_nmi e_n6 ?_
  refine g_istore_n E [(3, iv n6), (2, iv n3), (0, iv x0), (1, iv x1)] gdX12_apart_19 rfl (by decide) rfl ?_
  refine g_iload_n E gdX12_apart_20 rfl 1 rfl ?_
  refine g_if_ge E 29 gdX12_apart_21 (by decide) h (fun h => ?_) (fun h => ?_)
  ·
    refine g_iload_n E gdX12_apart_29 rfl 1 rfl ?_
    refine g_sub E [0] rfl ?_
    exact j30 n6 n3 h
  ·
    refine g_iload_n E gdX12_apart_24 rfl 1 rfl ?_
    refine g_ineg E gdX12_apart_25 ?_
    refine g_goto E 30 gdX12_apart_26 (by decide) ?_
    refine g_sub E [0] rfl ?_
    exact j30 n6 (-n3) h
set_option maxHeartbeats 4000000 in
set_option maxRecDepth 100000 in
theorem c_X12_noiseOf (l : Launch) (g : GG) (ad : Nat → Nat) (o : OO) (x1 : Int) (x2 : Int) (x3 : Int) (v : Int) (h : s_X12_noiseOf o x1 x2 x3 = some v) : CI l g yX12_noiseOf cX12_noiseOf 7 (some .int) 1 23 (wM g ad o) [.ref (ad 0), iv x1, iv x2, iv x3] v (wM g ad o) := by
  refine met_I (by decide) (Nat.le_of_ble_eq_true rfl) ?_
  intro X E hQ
  show Go X 0 (wM g ad o) [(0, .ref (ad 0)), (1, iv x1), (2, iv x2), (3, iv x3)] []
  have j86 : ∀ (y0 : Int), b_X12_noiseOf_86 o y0 = some v → Go X 86 (wM g ad o) [] [iv y0] := by
    intro y0 h
    unfold b_X12_noiseOf_86 at h
    exact g_iret E hQ (Option.some.inj h) rfl gdX12_noiseOf_86
  have j59 : ∀ (x3 : Int) (x4 : Int), b_X12_noiseOf_59 o x3 x4 = some v → Go X 59 (wM g ad o) [(0, .ref (ad 0)), (3, iv x3), (4, iv x4)] [] := by
    intro x3 x4 h
    unfold b_X12_noiseOf_59 at h
    refine g_iload E gdX12_noiseOf_59 2 rfl ?_
    refine g_aload_n E gdX12_noiseOf_61 rfl 0 rfl ?_
    refine g_get (T := TX12) E fw_X12 0 (wM_0 g ad o) rfl 5 (by decide) w_1471 rfl rfl gdX12_noiseOf_62 ?_
    refine g_iload_n E gdX12_noiseOf_65 rfl 1 rfl ?_
    obtain ⟨hi1, h⟩ := qIn_of h
    refine g_iald E 2 (wM_2 g ad o) (by decide) hi1 gdX12_noiseOf_66 ?_
    obtain ⟨n2, e_n2, h⟩ := qNm_of h
    refine g_nmi e_n2 ?_
    refine g_icmp_ge E 85 gdX12_noiseOf_67 (by decide) h (fun h => ?_) (fun h => ?_)
    ·
      refine g_iconst E gdX12_noiseOf_85 ?_
      refine g_sub E [] rfl ?_
      exact j86 0 h
    ·
      refine g_aload_n E gdX12_noiseOf_70 rfl 0 rfl ?_
      refine g_get (T := TX12) E fw_X12 0 (wM_0 g ad o) rfl 6 (by decide) w_1472 rfl rfl gdX12_noiseOf_71 ?_
      refine g_bipush E gdX12_noiseOf_74 (by decide) ?_
      refine g_iload_n E gdX12_noiseOf_76 rfl 1 rfl ?_
      refine g_imul E gdX12_noiseOf_77 ?_
      refine g_iload E gdX12_noiseOf_78 2 rfl ?_
      refine g_iadd E gdX12_noiseOf_80 ?_
      obtain ⟨hi3, h⟩ := qIn_of h
      refine g_iald E 3 (wM_3 g ad o) (by decide) hi3 gdX12_noiseOf_81 ?_
      obtain ⟨n4, e_n4, h⟩ := qNm_of h
      refine g_nmi e_n4 ?_
      refine g_goto E 86 gdX12_noiseOf_82 (by decide) ?_
      refine g_sub E [] rfl ?_
      exact j86 n4 h
  have j51 : ∀ (x1 : Int) (x2 : Int) (x3 : Int) (x5 : Int) (y0 : Int) (v : (Int × Int) ⊕ ((Int))), b_X12_noiseOf_51 o x1 x2 x3 x5 y0 = some v → (∀ (x4 : Int) (x5 : Int), v = .inl (x4, x5) → Go X 8 (wM g ad o) [(0, .ref (ad 0)), (1, iv x1), (2, iv x2), (3, iv x3), (4, iv x4), (5, iv x5)] []) → (∀ (x4 : Int), v = .inr (x4) → Go X 59 (wM g ad o) [(0, .ref (ad 0)), (3, iv x3), (4, iv x4)] []) → Go X 51 (wM g ad o) [(0, .ref (ad 0)), (1, iv x1), (2, iv x2), (3, iv x3), (5, iv x5)] [iv y0] := by
    intro x1 x2 x3 x5 y0 v h k0 k1
    unfold b_X12_noiseOf_51 at h
    refine g_istore E [(4, iv y0), (0, .ref (ad 0)), (1, iv x1), (2, iv x2), (3, iv x3), (5, iv x5)] gdX12_noiseOf_51 (by decide) rfl ?_
    refine g_iinc E [(5, iv (x5 + 1)), (4, iv y0), (0, .ref (ad 0)), (1, iv x1), (2, iv x2), (3, iv x3)] gdX12_noiseOf_53 5 rfl (by decide) rfl ?_
    refine g_goto E 8 gdX12_noiseOf_56 (by decide) ?_
    refine g_sub E [2, 3, 4, 5, 1, 0] rfl ?_
    exact k0 y0 (x5 + 1) (Option.some.inj h).symm
  have l8 : ∀ (x1 : Int) (x2 : Int) (x3 : Int) (r : (Int)) (s0 : Int × Int), loopW (fun s => l_X12_noiseOf_8 o x1 x2 x3 s.1 s.2) s0 = some r → (∀ (x4 : Int), r = (x4) → Go X 59 (wM g ad o) [(0, .ref (ad 0)), (3, iv x3), (4, iv x4)] []) → Go X 8 (wM g ad o) [(0, .ref (ad 0)), (1, iv x1), (2, iv x2), (3, iv x3), (4, iv s0.1), (5, iv s0.2)] [] := by
    intro x1 x2 x3 r s0 h k1
    refine loop_rule (Head := fun s0 => Go X 8 (wM g ad o) [(0, .ref (ad 0)), (1, iv x1), (2, iv x2), (3, iv x3), (4, iv s0.1), (5, iv s0.2)] []) h ?_
    intro s v h kk kx
    obtain ⟨x4, x5⟩ := s
    have h : l_X12_noiseOf_8 o x1 x2 x3 x4 x5 = some v := h
    have k0 : ∀ (x4 : Int) (x5 : Int), v = .inl (x4, x5) → Go X 8 (wM g ad o) [(0, .ref (ad 0)), (1, iv x1), (2, iv x2), (3, iv x3), (4, iv x4), (5, iv x5)] [] := fun x4 x5 e => kk (x4, x5) e
    have k1 : ∀ (x4 : Int), v = .inr (x4) → Go X 59 (wM g ad o) [(0, .ref (ad 0)), (3, iv x3), (4, iv x4)] [] := fun x4 e => k1 x4 (kx _ e).symm
    unfold l_X12_noiseOf_8 at h
    refine g_iload E gdX12_noiseOf_8 5 rfl ?_
    refine g_aload_n E gdX12_noiseOf_10 rfl 0 rfl ?_
    refine g_get (T := TX12) E fw_X12 0 (wM_0 g ad o) rfl 38 (by decide) w_1504 rfl rfl gdX12_noiseOf_11 ?_
    refine g_iload_n E gdX12_noiseOf_14 rfl 1 rfl ?_
    obtain ⟨hi5, h⟩ := qIn_of h
    refine g_iald E 30 (wM_30 g ad o) (by decide) hi5 gdX12_noiseOf_15 ?_
    obtain ⟨n6, e_n6, h⟩ := qNm_of h
    refine g_nmi e_n6 ?_
    refine g_icmp_ge E 59 gdX12_noiseOf_16 (by decide) h (fun h => ?_) (fun h => ?_)
    ·
      refine g_sub E [0, 3, 4] rfl ?_
      exact k1 x4 (Option.some.inj h).symm
    ·
      refine g_aload_n E gdX12_noiseOf_19 rfl 0 rfl ?_
      refine g_get (T := TX12) E fw_X12 0 (wM_0 g ad o) rfl 39 (by decide) w_1505 rfl rfl gdX12_noiseOf_20 ?_
      refine g_bipush E gdX12_noiseOf_23 (by decide) ?_
      refine g_iload_n E gdX12_noiseOf_25 rfl 1 rfl ?_
      refine g_imul E gdX12_noiseOf_26 ?_
      refine g_iload E gdX12_noiseOf_27 5 rfl ?_
      refine g_iadd E gdX12_noiseOf_29 ?_
      obtain ⟨hi7, h⟩ := qIn_of h
      refine g_iald E 31 (wM_31 g ad o) (by decide) hi7 gdX12_noiseOf_30 ?_
      obtain ⟨n8, e_n8, h⟩ := qNm_of h
      refine g_nmi e_n8 ?_
      refine g_iload_n E gdX12_noiseOf_31 rfl 2 rfl ?_
      obtain ⟨r9, hc10, h⟩ := qB_of h
      refine g_Si (r := r9) (As := [iv n8, iv x2]) (rest := []) (w := wM g ad o) E (c_X12_apart l g (wM g ad o) n8 x2 r9 hc10) okm_X12_apart w_1912 w_1911 rfl rfl (Nat.le_of_ble_eq_true rfl) ⟨Nat.le_of_ble_eq_true rfl, Nat.le_of_ble_eq_true rfl⟩ gdX12_noiseOf_32 ?_
      refine g_istore E [(6, iv r9), (0, .ref (ad 0)), (1, iv x1), (2, iv x2), (3, iv x3), (4, iv x4), (5, iv x5)] gdX12_noiseOf_35 (by decide) rfl ?_
      refine g_iload E gdX12_noiseOf_37 0 rfl ?_
      refine g_iload E gdX12_noiseOf_39 5 rfl ?_
      refine g_icmp_ge E 49 gdX12_noiseOf_41 (by decide) h (fun h => ?_) (fun h => ?_)
      ·
        refine g_iload E gdX12_noiseOf_49 5 rfl ?_
        refine g_sub E [1, 2, 3, 4, 6] rfl ?_
        exact j51 x1 x2 x3 x5 x4 v h k0 k1
      ·
        refine g_iload E gdX12_noiseOf_44 0 rfl ?_
        refine g_goto E 51 gdX12_noiseOf_46 (by decide) ?_
        refine g_sub E [1, 2, 3, 4, 6] rfl ?_
        exact j51 x1 x2 x3 x5 r9 v h k0 k1
  have j8 : ∀ (x1 : Int) (x2 : Int) (x3 : Int) (x4 : Int) (x5 : Int), e_X12_noiseOf_8 o x1 x2 x3 x4 x5 = some v → Go X 8 (wM g ad o) [(0, .ref (ad 0)), (1, iv x1), (2, iv x2), (3, iv x3), (4, iv x4), (5, iv x5)] [] := by
    intro x1 x2 x3 x4 x5 h
    unfold e_X12_noiseOf_8 at h
    obtain ⟨r, hr, h⟩ := qB_of h
    refine l8 x1 x2 x3 r _ hr ?_
    ·
      intro u0 e
      have e := e.symm
      subst e
      have h : b_X12_noiseOf_59 o x3 u0 = some v := h
      exact j59 x3 u0 h
  unfold s_X12_noiseOf at h
  refine g_ldcw (k := 100000000) E gdX12_noiseOf_0 w_1879 (by decide) ?_
  refine g_istore E [(4, iv 100000000), (0, .ref (ad 0)), (1, iv x1), (2, iv x2), (3, iv x3)] gdX12_noiseOf_3 (by decide) rfl ?_
  refine g_iconst E gdX12_noiseOf_5 ?_
  refine g_istore E [(5, iv 0), (4, iv 100000000), (0, .ref (ad 0)), (1, iv x1), (2, iv x2), (3, iv x3)] gdX12_noiseOf_6 (by decide) rfl ?_
  refine g_sub E [2, 3, 4, 5, 1, 0] rfl ?_
  exact j8 x1 x2 x3 100000000 0 h
set_option maxHeartbeats 4000000 in
set_option maxRecDepth 100000 in
theorem c_X12_living (l : Launch) (g : GG) (ad : Nat → Nat) (o : OO) (x1 : Int) (v : Int) (h : s_X12_living o x1 = some v) : CI l g yX12_living cX12_living 4 (some .int) 0 0 (wM g ad o) [.ref (ad 0), iv x1] v (wM g ad o) := by
  refine met_I (by decide) (Nat.le_of_ble_eq_true rfl) ?_
  intro X E hQ
  show Go X 0 (wM g ad o) [(0, .ref (ad 0)), (1, iv x1)] []
  have j36 : ∀ (x2 : Int), b_X12_living_36 o x2 = some v → Go X 36 (wM g ad o) [(2, iv x2)] [] := by
    intro x2 h
    unfold b_X12_living_36 at h
    refine g_iload_n E gdX12_living_36 rfl 0 rfl ?_
    exact g_iret E hQ (Option.some.inj h) rfl gdX12_living_37
  have j28 : ∀ (x1 : Int) (x3 : Int) (y0 : Int) (y1 : Int) (v : (Int × Int) ⊕ ((Int))), b_X12_living_28 o x1 x3 y0 y1 = some v → (∀ (x2 : Int) (x3 : Int), v = .inl (x2, x3) → Go X 4 (wM g ad o) [(0, .ref (ad 0)), (1, iv x1), (2, iv x2), (3, iv x3)] []) → (∀ (x2 : Int), v = .inr (x2) → Go X 36 (wM g ad o) [(2, iv x2)] []) → Go X 28 (wM g ad o) [(0, .ref (ad 0)), (1, iv x1), (3, iv x3)] [iv y1, iv y0] := by
    intro x1 x3 y0 y1 v h k0 k1
    unfold b_X12_living_28 at h
    refine g_iadd E gdX12_living_28 ?_
    obtain ⟨n1, e_n1, h⟩ := qNm_of h
    refine g_nmi e_n1 ?_
    refine g_istore_n E [(2, iv n1), (0, .ref (ad 0)), (1, iv x1), (3, iv x3)] gdX12_living_29 rfl (by decide) rfl ?_
    refine g_iinc E [(3, iv (x3 + 1)), (2, iv n1), (0, .ref (ad 0)), (1, iv x1)] gdX12_living_30 3 rfl (by decide) rfl ?_
    refine g_goto E 4 gdX12_living_33 (by decide) ?_
    refine g_sub E [2, 3, 1, 0] rfl ?_
    exact k0 n1 (x3 + 1) (Option.some.inj h).symm
  have l4 : ∀ (x1 : Int) (r : (Int)) (s0 : Int × Int), loopW (fun s => l_X12_living_4 o x1 s.1 s.2) s0 = some r → (∀ (x2 : Int), r = (x2) → Go X 36 (wM g ad o) [(2, iv x2)] []) → Go X 4 (wM g ad o) [(0, .ref (ad 0)), (1, iv x1), (2, iv s0.1), (3, iv s0.2)] [] := by
    intro x1 r s0 h k1
    refine loop_rule (Head := fun s0 => Go X 4 (wM g ad o) [(0, .ref (ad 0)), (1, iv x1), (2, iv s0.1), (3, iv s0.2)] []) h ?_
    intro s v h kk kx
    obtain ⟨x2, x3⟩ := s
    have h : l_X12_living_4 o x1 x2 x3 = some v := h
    have k0 : ∀ (x2 : Int) (x3 : Int), v = .inl (x2, x3) → Go X 4 (wM g ad o) [(0, .ref (ad 0)), (1, iv x1), (2, iv x2), (3, iv x3)] [] := fun x2 x3 e => kk (x2, x3) e
    have k1 : ∀ (x2 : Int), v = .inr (x2) → Go X 36 (wM g ad o) [(2, iv x2)] [] := fun x2 e => k1 x2 (kx _ e).symm
    unfold l_X12_living_4 at h
    refine g_iload_n E gdX12_living_4 rfl 3 rfl ?_
    refine g_aload_n E gdX12_living_5 rfl 0 rfl ?_
    refine g_get (T := TX12) E fw_X12 0 (wM_0 g ad o) rfl 27 (by decide) w_1493 rfl rfl gdX12_living_6 ?_
    refine g_icmp_ge E 36 gdX12_living_9 (by decide) h (fun h => ?_) (fun h => ?_)
    ·
      refine g_sub E [2] rfl ?_
      exact k1 x2 (Option.some.inj h).symm
    ·
      refine g_iload_n E gdX12_living_12 rfl 2 rfl ?_
      refine g_aload_n E gdX12_living_13 rfl 0 rfl ?_
      refine g_get (T := TX12) E fw_X12 0 (wM_0 g ad o) rfl 28 (by decide) w_1494 rfl rfl gdX12_living_14 ?_
      refine g_iload_n E gdX12_living_17 rfl 3 rfl ?_
      obtain ⟨hi2, h⟩ := qIn_of h
      refine g_iald E 21 (wM_21 g ad o) (by decide) hi2 gdX12_living_18 ?_
      obtain ⟨n3, e_n3, h⟩ := qNm_of h
      refine g_nmi e_n3 ?_
      refine g_iload_n E gdX12_living_19 rfl 1 rfl ?_
      refine g_icmp_ne E 27 gdX12_living_20 (by decide) h (fun h => ?_) (fun h => ?_)
      ·
        refine g_iconst E gdX12_living_27 ?_
        refine g_sub E [0, 1, 3] rfl ?_
        exact j28 x1 x3 x2 0 v h k0 k1
      ·
        refine g_iconst E gdX12_living_23 ?_
        refine g_goto E 28 gdX12_living_24 (by decide) ?_
        refine g_sub E [0, 1, 3] rfl ?_
        exact j28 x1 x3 x2 1 v h k0 k1
  have j4 : ∀ (x1 : Int) (x2 : Int) (x3 : Int), e_X12_living_4 o x1 x2 x3 = some v → Go X 4 (wM g ad o) [(0, .ref (ad 0)), (1, iv x1), (2, iv x2), (3, iv x3)] [] := by
    intro x1 x2 x3 h
    unfold e_X12_living_4 at h
    obtain ⟨r, hr, h⟩ := qB_of h
    refine l4 x1 r _ hr ?_
    ·
      intro u0 e
      have e := e.symm
      subst e
      have h : b_X12_living_36 o u0 = some v := h
      exact j36 u0 h
  unfold s_X12_living at h
  refine g_iconst E gdX12_living_0 ?_
  refine g_istore_n E [(2, iv 0), (0, .ref (ad 0)), (1, iv x1)] gdX12_living_1 rfl (by decide) rfl ?_
  refine g_iconst E gdX12_living_2 ?_
  refine g_istore_n E [(3, iv 0), (2, iv 0), (0, .ref (ad 0)), (1, iv x1)] gdX12_living_3 rfl (by decide) rfl ?_
  refine g_sub E [2, 3, 1, 0] rfl ?_
  exact j4 x1 0 0 h
set_option maxHeartbeats 4000000 in
set_option maxRecDepth 100000 in
theorem c_X12_loud (l : Launch) (g : GG) (ad : Nat → Nat) (o : OO) (x1 : Int) (x2 : Int) (x3 : Int) (v : Int) (h : s_X12_loud o x1 x2 x3 = some v) : CI l g yX12_loud cX12_loud 8 (some .int) 3 71 (wM g ad o) [.ref (ad 0), iv x1, iv x2, iv x3] v (wM g ad o) := by
  refine met_I (by decide) (Nat.le_of_ble_eq_true rfl) ?_
  intro X E hQ
  show Go X 0 (wM g ad o) [(0, .ref (ad 0)), (1, iv x1), (2, iv x2), (3, iv x3)] []
  have j101 : ∀ (x5 : Int), b_X12_loud_101 o x5 = some v → Go X 101 (wM g ad o) [(5, iv x5)] [] := by
    intro x5 h
    unfold b_X12_loud_101 at h
    refine g_iload E gdX12_loud_101 0 rfl ?_
    exact g_iret E hQ (Option.some.inj h) rfl gdX12_loud_103
  have j92 : ∀ (x1 : Int) (x2 : Int) (x3 : Int) (x4 : Int) (x6 : Int) (y0 : Int) (y1 : Int) (v : (Int × Int) ⊕ ((Int))), b_X12_loud_92 o x1 x2 x3 x4 x6 y0 y1 = some v → (∀ (x5 : Int) (x6 : Int), v = .inl (x5, x6) → Go X 13 (wM g ad o) [(0, .ref (ad 0)), (1, iv x1), (2, iv x2), (3, iv x3), (4, iv x4), (5, iv x5), (6, iv x6)] []) → (∀ (x5 : Int), v = .inr (x5) → Go X 101 (wM g ad o) [(5, iv x5)] []) → Go X 92 (wM g ad o) [(0, .ref (ad 0)), (1, iv x1), (2, iv x2), (3, iv x3), (4, iv x4), (6, iv x6)] [iv y1, iv y0] := by
    intro x1 x2 x3 x4 x6 y0 y1 v h k0 k1
    unfold b_X12_loud_92 at h
    refine g_iadd E gdX12_loud_92 ?_
    obtain ⟨n1, e_n1, h⟩ := qNm_of h
    refine g_nmi e_n1 ?_
    refine g_istore E [(5, iv n1), (0, .ref (ad 0)), (1, iv x1), (2, iv x2), (3, iv x3), (4, iv x4), (6, iv x6)] gdX12_loud_93 (by decide) rfl ?_
    refine g_iinc E [(6, iv (x6 + 1)), (5, iv n1), (0, .ref (ad 0)), (1, iv x1), (2, iv x2), (3, iv x3), (4, iv x4)] gdX12_loud_95 6 rfl (by decide) rfl ?_
    refine g_goto E 13 gdX12_loud_98 (by decide) ?_
    refine g_sub E [2, 3, 4, 5, 6, 1, 0] rfl ?_
    exact k0 n1 (x6 + 1) (Option.some.inj h).symm
  have j65 : ∀ (x1 : Int) (x2 : Int) (x3 : Int) (x4 : Int) (x5 : Int) (x6 : Int) (y0 : Int) (v : (Int × Int) ⊕ ((Int))), b_X12_loud_65 o x1 x2 x3 x4 x5 x6 y0 = some v → (∀ (x5 : Int) (x6 : Int), v = .inl (x5, x6) → Go X 13 (wM g ad o) [(0, .ref (ad 0)), (1, iv x1), (2, iv x2), (3, iv x3), (4, iv x4), (5, iv x5), (6, iv x6)] []) → (∀ (x5 : Int), v = .inr (x5) → Go X 101 (wM g ad o) [(5, iv x5)] []) → Go X 65 (wM g ad o) [(0, .ref (ad 0)), (1, iv x1), (2, iv x2), (3, iv x3), (4, iv x4), (5, iv x5), (6, iv x6)] [iv y0] := by
    intro x1 x2 x3 x4 x5 x6 y0 v h k0 k1
    unfold b_X12_loud_65 at h
    refine g_istore E [(7, iv y0), (0, .ref (ad 0)), (1, iv x1), (2, iv x2), (3, iv x3), (4, iv x4), (5, iv x5), (6, iv x6)] gdX12_loud_65 (by decide) rfl ?_
    refine g_iload E gdX12_loud_67 6 rfl ?_
    refine g_iload E gdX12_loud_69 0 rfl ?_
    refine g_if_ne E 78 gdX12_loud_71 (by decide) h (fun h => ?_) (fun h => ?_)
    ·
      refine g_iload_n E gdX12_loud_78 rfl 4 rfl ?_
      refine g_if_eq E 91 gdX12_loud_79 (by decide) h (fun h => ?_) (fun h => ?_)
      ·
        refine g_iconst E gdX12_loud_91 ?_
        refine g_sub E [1, 2, 3, 4, 5, 7] rfl ?_
        exact j92 x1 x2 x3 x4 x6 x5 1 v h k0 k1
      ·
        refine g_aload_n E gdX12_loud_82 rfl 1 rfl ?_
        refine g_iload E gdX12_loud_83 7 rfl ?_
        obtain ⟨r2, hc3, h⟩ := qB_of h
        refine g_Vi (r := r2) (As := [iv x6]) (rest := [iv x5]) (w := wM g ad o) E (c_X12_living l g ad o x6 r2 hc3) okm_X12_living okw_X12_living w_1831 rfl (wM_0 g ad o) rfl rfl (Nat.le_of_ble_eq_true rfl) ⟨Nat.le_of_ble_eq_true rfl, Nat.le_of_ble_eq_true rfl⟩ gdX12_loud_85 ?_
        refine g_goto E 92 gdX12_loud_88 (by decide) ?_
        refine g_sub E [1, 2, 3, 4, 5, 7] rfl ?_
        exact j92 x1 x2 x3 x4 x6 x5 r2 v h k0 k1
    ·
      refine g_iconst E gdX12_loud_74 ?_
      refine g_goto E 92 gdX12_loud_75 (by decide) ?_
      refine g_sub E [1, 2, 3, 4, 5, 7] rfl ?_
      exact j92 x1 x2 x3 x4 x6 x5 0 v h k0 k1
  have j64 : ∀ (x1 : Int) (x2 : Int) (x3 : Int) (x4 : Int) (x5 : Int) (x6 : Int) (v : (Int × Int) ⊕ ((Int))), b_X12_loud_64 o x1 x2 x3 x4 x5 x6 = some v → (∀ (x5 : Int) (x6 : Int), v = .inl (x5, x6) → Go X 13 (wM g ad o) [(0, .ref (ad 0)), (1, iv x1), (2, iv x2), (3, iv x3), (4, iv x4), (5, iv x5), (6, iv x6)] []) → (∀ (x5 : Int), v = .inr (x5) → Go X 101 (wM g ad o) [(5, iv x5)] []) → Go X 64 (wM g ad o) [(0, .ref (ad 0)), (1, iv x1), (2, iv x2), (3, iv x3), (4, iv x4), (5, iv x5), (6, iv x6)] [] := by
    intro x1 x2 x3 x4 x5 x6 v h k0 k1
    unfold b_X12_loud_64 at h
    refine g_iconst E gdX12_loud_64 ?_
    exact j65 x1 x2 x3 x4 x5 x6 0 v h k0 k1
  have l13 : ∀ (x1 : Int) (x2 : Int) (x3 : Int) (x4 : Int) (r : (Int)) (s0 : Int × Int), loopW (fun s => l_X12_loud_13 o x1 x2 x3 x4 s.1 s.2) s0 = some r → (∀ (x5 : Int), r = (x5) → Go X 101 (wM g ad o) [(5, iv x5)] []) → Go X 13 (wM g ad o) [(0, .ref (ad 0)), (1, iv x1), (2, iv x2), (3, iv x3), (4, iv x4), (5, iv s0.1), (6, iv s0.2)] [] := by
    intro x1 x2 x3 x4 r s0 h k1
    refine loop_rule (Head := fun s0 => Go X 13 (wM g ad o) [(0, .ref (ad 0)), (1, iv x1), (2, iv x2), (3, iv x3), (4, iv x4), (5, iv s0.1), (6, iv s0.2)] []) h ?_
    intro s v h kk kx
    obtain ⟨x5, x6⟩ := s
    have h : l_X12_loud_13 o x1 x2 x3 x4 x5 x6 = some v := h
    have k0 : ∀ (x5 : Int) (x6 : Int), v = .inl (x5, x6) → Go X 13 (wM g ad o) [(0, .ref (ad 0)), (1, iv x1), (2, iv x2), (3, iv x3), (4, iv x4), (5, iv x5), (6, iv x6)] [] := fun x5 x6 e => kk (x5, x6) e
    have k1 : ∀ (x5 : Int), v = .inr (x5) → Go X 101 (wM g ad o) [(5, iv x5)] [] := fun x5 e => k1 x5 (kx _ e).symm
    unfold l_X12_loud_13 at h
    refine g_iload E gdX12_loud_13 6 rfl ?_
    refine g_aload_n E gdX12_loud_15 rfl 0 rfl ?_
    refine g_get (T := TX12) E fw_X12 0 (wM_0 g ad o) rfl 17 (by decide) w_1483 rfl rfl gdX12_loud_16 ?_
    refine g_icmp_ge E 101 gdX12_loud_19 (by decide) h (fun h => ?_) (fun h => ?_)
    ·
      refine g_sub E [5] rfl ?_
      exact k1 x5 (Option.some.inj h).symm
    ·
      refine g_aload_n E gdX12_loud_22 rfl 0 rfl ?_
      refine g_get (T := TX12) E fw_X12 0 (wM_0 g ad o) rfl 19 (by decide) w_1485 rfl rfl gdX12_loud_23 ?_
      refine g_iload E gdX12_loud_26 6 rfl ?_
      obtain ⟨hi4, h⟩ := qIn_of h
      refine g_iald E 14 (wM_14 g ad o) (by decide) hi4 gdX12_loud_28 ?_
      obtain ⟨n5, e_n5, h⟩ := qNm_of h
      refine g_nmi e_n5 ?_
      refine g_if_ne E 64 gdX12_loud_29 (by decide) h (fun h => ?_) (fun h => ?_)
      ·
        exact j64 x1 x2 x3 x4 x5 x6 v h k0 k1
      ·
        refine g_aload_n E gdX12_loud_32 rfl 0 rfl ?_
        refine g_get (T := TX12) E fw_X12 0 (wM_0 g ad o) rfl 21 (by decide) w_1487 rfl rfl gdX12_loud_33 ?_
        refine g_iload E gdX12_loud_36 6 rfl ?_
        obtain ⟨hi6, h⟩ := qIn_of h
        refine g_zald E 16 (wM_16 g ad o) (by decide) hi6 gdX12_loud_38 ?_
        obtain ⟨n7, e_n7, h⟩ := qNm_of h
        refine g_nmi e_n7 ?_
        refine g_if_ne E 64 gdX12_loud_39 (by decide) h (fun h => ?_) (fun h => ?_)
        ·
          exact j64 x1 x2 x3 x4 x5 x6 v h k0 k1
        ·
          refine g_aload_n E gdX12_loud_42 rfl 0 rfl ?_
          refine g_iload_n E gdX12_loud_43 rfl 1 rfl ?_
          refine g_aload_n E gdX12_loud_44 rfl 0 rfl ?_
          refine g_get (T := TX12) E fw_X12 0 (wM_0 g ad o) rfl 18 (by decide) w_1484 rfl rfl gdX12_loud_45 ?_
          refine g_iload E gdX12_loud_48 6 rfl ?_
          obtain ⟨hi8, h⟩ := qIn_of h
          refine g_iald E 13 (wM_13 g ad o) (by decide) hi8 gdX12_loud_50 ?_
          obtain ⟨n9, e_n9, h⟩ := qNm_of h
          refine g_nmi e_n9 ?_
          refine g_iload_n E gdX12_loud_51 rfl 2 rfl ?_
          obtain ⟨r10, hc11, h⟩ := qB_of h
          refine g_Vi (r := r10) (As := [iv x1, iv n9, iv x2]) (rest := []) (w := wM g ad o) E (c_X12_noiseOf l g ad o x1 n9 x2 r10 hc11) okm_X12_noiseOf okw_X12_noiseOf w_2038 rfl (wM_0 g ad o) rfl rfl (Nat.le_of_ble_eq_true rfl) ⟨Nat.le_of_ble_eq_true rfl, Nat.le_of_ble_eq_true rfl⟩ gdX12_loud_52 ?_
          refine g_iload E gdX12_loud_55 4 rfl ?_
          refine g_icmp_le E 64 gdX12_loud_57 (by decide) h (fun h => ?_) (fun h => ?_)
          ·
            exact j64 x1 x2 x3 x4 x5 x6 v h k0 k1
          ·
            refine g_iconst E gdX12_loud_60 ?_
            refine g_goto E 65 gdX12_loud_61 (by decide) ?_
            exact j65 x1 x2 x3 x4 x5 x6 1 v h k0 k1
  have j13 : ∀ (x1 : Int) (x2 : Int) (x3 : Int) (x4 : Int) (x5 : Int) (x6 : Int), e_X12_loud_13 o x1 x2 x3 x4 x5 x6 = some v → Go X 13 (wM g ad o) [(0, .ref (ad 0)), (1, iv x1), (2, iv x2), (3, iv x3), (4, iv x4), (5, iv x5), (6, iv x6)] [] := by
    intro x1 x2 x3 x4 x5 x6 h
    unfold e_X12_loud_13 at h
    obtain ⟨r, hr, h⟩ := qB_of h
    refine l13 x1 x2 x3 x4 r _ hr ?_
    ·
      intro u0 e
      have e := e.symm
      subst e
      have h : b_X12_loud_101 o u0 = some v := h
      exact j101 u0 h
  unfold s_X12_loud at h
  refine g_aload_n E gdX12_loud_0 rfl 0 rfl ?_
  refine g_iconst E gdX12_loud_1 ?_
  obtain ⟨r12, hc13, h⟩ := qB_of h
  refine g_Vi (r := r12) (As := [iv 5]) (rest := []) (w := wM g ad o) E (c_X12_nowInForce l g ad o 5 r12 hc13) okm_X12_nowInForce okw_X12_nowInForce w_1871 rfl (wM_0 g ad o) rfl rfl (Nat.le_of_ble_eq_true rfl) ⟨Nat.le_of_ble_eq_true rfl, Nat.le_of_ble_eq_true rfl⟩ gdX12_loud_2 ?_
  refine g_istore E [(4, iv r12), (0, .ref (ad 0)), (1, iv x1), (2, iv x2), (3, iv x3)] gdX12_loud_5 (by decide) rfl ?_
  refine g_iconst E gdX12_loud_7 ?_
  refine g_istore E [(5, iv 0), (4, iv r12), (0, .ref (ad 0)), (1, iv x1), (2, iv x2), (3, iv x3)] gdX12_loud_8 (by decide) rfl ?_
  refine g_iconst E gdX12_loud_10 ?_
  refine g_istore E [(6, iv 0), (5, iv 0), (4, iv r12), (0, .ref (ad 0)), (1, iv x1), (2, iv x2), (3, iv x3)] gdX12_loud_11 (by decide) rfl ?_
  refine g_sub E [3, 4, 5, 6, 2, 1, 0] rfl ?_
  exact j13 x1 x2 x3 r12 0 0 h
set_option maxHeartbeats 4000000 in
set_option maxRecDepth 100000 in
theorem c_X12_judged (l : Launch) (g : GG) (ad : Nat → Nat) (o : OO) (x1 : Int) (x2 : Int) (x3 : Int) (v : Int) (h : s_X12_judged o x1 x2 x3 = some v) : CI l g yX12_judged cX12_judged 8 (some .int) 4 98 (wM g ad o) [.ref (ad 0), iv x1, iv x2, iv x3] v (wM g ad o) := by
  refine met_I (by decide) (Nat.le_of_ble_eq_true rfl) ?_
  intro X E hQ
  show Go X 0 (wM g ad o) [(0, .ref (ad 0)), (1, iv x1), (2, iv x2), (3, iv x3)] []
  have j68 : ∀ (x1 : Int) (x2 : Int) (x3 : Int) (x4 : Int), b_X12_judged_68 o x1 x2 x3 x4 = some v → Go X 68 (wM g ad o) [(0, .ref (ad 0)), (1, iv x1), (2, iv x2), (3, iv x3), (4, iv x4)] [] := by
    intro x1 x2 x3 x4 h
    unfold b_X12_judged_68 at h
    refine g_bipush E gdX12_judged_68 (by decide) ?_
    refine g_iload_n E gdX12_judged_70 rfl 2 rfl ?_
    refine g_imul E gdX12_judged_71 ?_
    obtain ⟨n1, e_n1, h⟩ := qNm_of h
    refine g_nmi e_n1 ?_
    refine g_istore E [(7, iv n1), (0, .ref (ad 0)), (1, iv x1), (2, iv x2), (3, iv x3), (4, iv x4)] gdX12_judged_72 (by decide) rfl ?_
    refine g_aload_n E gdX12_judged_74 rfl 1 rfl ?_
    refine g_get (T := TX12) E fw_X12 0 (wM_0 g ad o) rfl 6 (by decide) w_1472 rfl rfl gdX12_judged_75 ?_
    refine g_iload E gdX12_judged_78 0 rfl ?_
    obtain ⟨hi2, h⟩ := qIn_of h
    refine g_iald E 3 (wM_3 g ad o) (by decide) hi2 gdX12_judged_80 ?_
    obtain ⟨n3, e_n3, h⟩ := qNm_of h
    refine g_nmi e_n3 ?_
    refine g_aload_n E gdX12_judged_81 rfl 1 rfl ?_
    refine g_get (T := TX12) E fw_X12 0 (wM_0 g ad o) rfl 36 (by decide) w_1502 rfl rfl gdX12_judged_82 ?_
    refine g_iload_n E gdX12_judged_85 rfl 2 rfl ?_
    obtain ⟨hi4, h⟩ := qIn_of h
    refine g_iald E 28 (wM_28 g ad o) (by decide) hi4 gdX12_judged_86 ?_
    obtain ⟨n5, e_n5, h⟩ := qNm_of h
    refine g_nmi e_n5 ?_
    refine g_imul E gdX12_judged_87 ?_
    refine g_aload_n E gdX12_judged_88 rfl 1 rfl ?_
    refine g_get (T := TX12) E fw_X12 0 (wM_0 g ad o) rfl 6 (by decide) w_1472 rfl rfl gdX12_judged_89 ?_
    refine g_iload E gdX12_judged_92 0 rfl ?_
    refine g_iconst E gdX12_judged_94 ?_
    refine g_iadd E gdX12_judged_95 ?_
    obtain ⟨hi6, h⟩ := qIn_of h
    refine g_iald E 3 (wM_3 g ad o) (by decide) hi6 gdX12_judged_96 ?_
    obtain ⟨n7, e_n7, h⟩ := qNm_of h
    refine g_nmi e_n7 ?_
    refine g_iload E gdX12_judged_97 5 rfl ?_
    refine g_imul E gdX12_judged_99 ?_
    refine g_iadd E gdX12_judged_100 ?_
    refine g_aload_n E gdX12_judged_101 rfl 1 rfl ?_
    refine g_get (T := TX12) E fw_X12 0 (wM_0 g ad o) rfl 6 (by decide) w_1472 rfl rfl gdX12_judged_102 ?_
    refine g_iload E gdX12_judged_105 0 rfl ?_
    refine g_iconst E gdX12_judged_107 ?_
    refine g_iadd E gdX12_judged_108 ?_
    obtain ⟨hi8, h⟩ := qIn_of h
    refine g_iald E 3 (wM_3 g ad o) (by decide) hi8 gdX12_judged_109 ?_
    obtain ⟨n9, e_n9, h⟩ := qNm_of h
    refine g_nmi e_n9 ?_
    refine g_aload_n E gdX12_judged_110 rfl 1 rfl ?_
    refine g_iload_n E gdX12_judged_111 rfl 2 rfl ?_
    obtain ⟨r10, hc11, h⟩ := qB_of h
    refine g_Vi (r := r10) (As := [iv x1]) (rest := [iv n9, iv ((n3 * n5) + (n7 * x4))]) (w := wM g ad o) E (c_X12_parks l g ad o x1 r10 hc11) okm_X12_parks okw_X12_parks w_2046 rfl (wM_0 g ad o) rfl rfl (Nat.le_of_ble_eq_true rfl) ⟨Nat.le_of_ble_eq_true rfl, Nat.le_of_ble_eq_true rfl⟩ gdX12_judged_112 ?_
    refine g_imul E gdX12_judged_115 ?_
    refine g_iadd E gdX12_judged_116 ?_
    refine g_aload_n E gdX12_judged_117 rfl 1 rfl ?_
    refine g_get (T := TX12) E fw_X12 0 (wM_0 g ad o) rfl 6 (by decide) w_1472 rfl rfl gdX12_judged_118 ?_
    refine g_iload E gdX12_judged_121 0 rfl ?_
    refine g_iconst E gdX12_judged_123 ?_
    refine g_iadd E gdX12_judged_124 ?_
    obtain ⟨hi12, h⟩ := qIn_of h
    refine g_iald E 3 (wM_3 g ad o) (by decide) hi12 gdX12_judged_125 ?_
    obtain ⟨n13, e_n13, h⟩ := qNm_of h
    refine g_nmi e_n13 ?_
    refine g_aload_n E gdX12_judged_126 rfl 1 rfl ?_
    refine g_iload_n E gdX12_judged_127 rfl 2 rfl ?_
    refine g_iload_n E gdX12_judged_128 rfl 4 rfl ?_
    refine g_iconst E gdX12_judged_129 ?_
    obtain ⟨r14, hc15, h⟩ := qB_of h
    refine g_Vi (r := r14) (As := [iv x1, iv x3, iv 0]) (rest := [iv n13, iv (((n3 * n5) + (n7 * x4)) + (n9 * r10))]) (w := wM g ad o) E (c_X12_loud l g ad o x1 x3 0 r14 hc15) okm_X12_loud okw_X12_loud w_2034 rfl (wM_0 g ad o) rfl rfl (Nat.le_of_ble_eq_true rfl) ⟨Nat.le_of_ble_eq_true rfl, Nat.le_of_ble_eq_true rfl⟩ gdX12_judged_130 ?_
    refine g_imul E gdX12_judged_133 ?_
    refine g_iadd E gdX12_judged_134 ?_
    exact g_iret E hQ (Option.some.inj h) rfl gdX12_judged_135
  have j59 : ∀ (x1 : Int) (x2 : Int) (x3 : Int) (z5 : Int64) (x7 : Int) (y0 : Int) (y1 : Int) (v : (Int × Int) ⊕ ((Int))), b_X12_judged_59 o x1 x2 x3 z5 x7 y0 y1 = some v → (∀ (x4 : Int) (x7 : Int), v = .inl (x4, x7) → Go X 13 (wM g ad o) [(0, .ref (ad 0)), (1, iv x1), (2, iv x2), (3, iv x3), (4, iv x4), (5, .long z5), (7, iv x7)] []) → (∀ (x4 : Int), v = .inr (x4) → Go X 68 (wM g ad o) [(0, .ref (ad 0)), (1, iv x1), (2, iv x2), (3, iv x3), (4, iv x4)] []) → Go X 59 (wM g ad o) [(0, .ref (ad 0)), (1, iv x1), (2, iv x2), (3, iv x3), (5, .long z5), (7, iv x7)] [iv y1, iv y0] := by
    intro x1 x2 x3 z5 x7 y0 y1 v h k0 k1
    unfold b_X12_judged_59 at h
    refine g_iadd E gdX12_judged_59 ?_
    obtain ⟨n16, e_n16, h⟩ := qNm_of h
    refine g_nmi e_n16 ?_
    refine g_istore E [(4, iv n16), (0, .ref (ad 0)), (1, iv x1), (2, iv x2), (3, iv x3), (5, .long z5), (7, iv x7)] gdX12_judged_60 (by decide) rfl ?_
    refine g_iinc E [(7, iv (x7 + 1)), (4, iv n16), (0, .ref (ad 0)), (1, iv x1), (2, iv x2), (3, iv x3), (5, .long z5)] gdX12_judged_62 6 rfl (by decide) rfl ?_
    refine g_goto E 13 gdX12_judged_65 (by decide) ?_
    refine g_sub E [2, 3, 4, 5, 1, 6, 0] rfl ?_
    exact k0 n16 (x7 + 1) (Option.some.inj h).symm
  have j58 : ∀ (x1 : Int) (x2 : Int) (x3 : Int) (z5 : Int64) (x7 : Int) (y0 : Int) (v : (Int × Int) ⊕ ((Int))), b_X12_judged_58 o x1 x2 x3 z5 x7 y0 = some v → (∀ (x4 : Int) (x7 : Int), v = .inl (x4, x7) → Go X 13 (wM g ad o) [(0, .ref (ad 0)), (1, iv x1), (2, iv x2), (3, iv x3), (4, iv x4), (5, .long z5), (7, iv x7)] []) → (∀ (x4 : Int), v = .inr (x4) → Go X 68 (wM g ad o) [(0, .ref (ad 0)), (1, iv x1), (2, iv x2), (3, iv x3), (4, iv x4)] []) → Go X 58 (wM g ad o) [(0, .ref (ad 0)), (1, iv x1), (2, iv x2), (3, iv x3), (5, .long z5), (7, iv x7)] [iv y0] := by
    intro x1 x2 x3 z5 x7 y0 v h k0 k1
    unfold b_X12_judged_58 at h
    refine g_iconst E gdX12_judged_58 ?_
    exact j59 x1 x2 x3 z5 x7 y0 0 v h k0 k1
  have l13 : ∀ (x1 : Int) (x2 : Int) (x3 : Int) (z5 : Int64) (r : (Int)) (s0 : Int × Int), loopW (fun s => l_X12_judged_13 o x1 x2 x3 z5 s.1 s.2) s0 = some r → (∀ (x4 : Int), r = (x4) → Go X 68 (wM g ad o) [(0, .ref (ad 0)), (1, iv x1), (2, iv x2), (3, iv x3), (4, iv x4)] []) → Go X 13 (wM g ad o) [(0, .ref (ad 0)), (1, iv x1), (2, iv x2), (3, iv x3), (4, iv s0.1), (5, .long z5), (7, iv s0.2)] [] := by
    intro x1 x2 x3 z5 r s0 h k1
    refine loop_rule (Head := fun s0 => Go X 13 (wM g ad o) [(0, .ref (ad 0)), (1, iv x1), (2, iv x2), (3, iv x3), (4, iv s0.1), (5, .long z5), (7, iv s0.2)] []) h ?_
    intro s v h kk kx
    obtain ⟨x4, x7⟩ := s
    have h : l_X12_judged_13 o x1 x2 x3 z5 x4 x7 = some v := h
    have k0 : ∀ (x4 : Int) (x7 : Int), v = .inl (x4, x7) → Go X 13 (wM g ad o) [(0, .ref (ad 0)), (1, iv x1), (2, iv x2), (3, iv x3), (4, iv x4), (5, .long z5), (7, iv x7)] [] := fun x4 x7 e => kk (x4, x7) e
    have k1 : ∀ (x4 : Int), v = .inr (x4) → Go X 68 (wM g ad o) [(0, .ref (ad 0)), (1, iv x1), (2, iv x2), (3, iv x3), (4, iv x4)] [] := fun x4 e => k1 x4 (kx _ e).symm
    unfold l_X12_judged_13 at h
    refine g_iload E gdX12_judged_13 6 rfl ?_
    refine g_aload_n E gdX12_judged_15 rfl 0 rfl ?_
    refine g_get (T := TX12) E fw_X12 0 (wM_0 g ad o) rfl 27 (by decide) w_1493 rfl rfl gdX12_judged_16 ?_
    refine g_icmp_ge E 68 gdX12_judged_19 (by decide) h (fun h => ?_) (fun h => ?_)
    ·
      refine g_sub E [0, 1, 2, 3, 4] rfl ?_
      exact k1 x4 (Option.some.inj h).symm
    ·
      refine g_iload E gdX12_judged_22 4 rfl ?_
      refine g_aload_n E gdX12_judged_24 rfl 0 rfl ?_
      refine g_get (T := TX12) E fw_X12 0 (wM_0 g ad o) rfl 28 (by decide) w_1494 rfl rfl gdX12_judged_25 ?_
      refine g_iload E gdX12_judged_28 6 rfl ?_
      obtain ⟨hi17, h⟩ := qIn_of h
      refine g_iald E 21 (wM_21 g ad o) (by decide) hi17 gdX12_judged_30 ?_
      obtain ⟨n18, e_n18, h⟩ := qNm_of h
      refine g_nmi e_n18 ?_
      refine g_if_lt E 58 gdX12_judged_31 (by decide) h (fun h => ?_) (fun h => ?_)
      ·
        refine g_sub E [0, 1, 2, 3, 5, 6] rfl ?_
        exact j58 x1 x2 x3 z5 x7 x4 v h k0 k1
      ·
        refine g_lload E gdX12_judged_34 5 rfl ?_
        refine g_aload_n E gdX12_judged_36 rfl 0 rfl ?_
        refine g_get (T := TX12) E fw_X12 0 (wM_0 g ad o) rfl 18 (by decide) w_1484 rfl rfl gdX12_judged_37 ?_
        refine g_aload_n E gdX12_judged_40 rfl 0 rfl ?_
        refine g_get (T := TX12) E fw_X12 0 (wM_0 g ad o) rfl 28 (by decide) w_1494 rfl rfl gdX12_judged_41 ?_
        refine g_iload E gdX12_judged_44 6 rfl ?_
        obtain ⟨hi19, h⟩ := qIn_of h
        refine g_iald E 21 (wM_21 g ad o) (by decide) hi19 gdX12_judged_46 ?_
        obtain ⟨n20, e_n20, h⟩ := qNm_of h
        refine g_nmi e_n20 ?_
        obtain ⟨hi21, h⟩ := qIn_of h
        refine g_iald E 13 (wM_13 g ad o) (by decide) hi21 gdX12_judged_47 ?_
        obtain ⟨n22, e_n22, h⟩ := qNm_of h
        refine g_nmi e_n22 ?_
        obtain ⟨r23, hc24, h⟩ := qB_of h
        refine g_Si (r := r23) (As := [.long z5, iv n22]) (rest := [iv x4]) (w := wM g ad o) E (c_X12_has l g (wM g ad o) z5 n22 r23 hc24) okm_X12_has w_1919 w_1918 rfl rfl (Nat.le_of_ble_eq_true rfl) ⟨Nat.le_of_ble_eq_true rfl, Nat.le_of_ble_eq_true rfl⟩ gdX12_judged_48 ?_
        refine g_if_eq E 58 gdX12_judged_51 (by decide) h (fun h => ?_) (fun h => ?_)
        ·
          refine g_sub E [0, 1, 2, 3, 5, 6] rfl ?_
          exact j58 x1 x2 x3 z5 x7 x4 v h k0 k1
        ·
          refine g_iconst E gdX12_judged_54 ?_
          refine g_goto E 59 gdX12_judged_55 (by decide) ?_
          refine g_sub E [0, 1, 2, 3, 5, 6] rfl ?_
          exact j59 x1 x2 x3 z5 x7 x4 1 v h k0 k1
  have j13 : ∀ (x1 : Int) (x2 : Int) (x3 : Int) (x4 : Int) (z5 : Int64) (x7 : Int), e_X12_judged_13 o x1 x2 x3 x4 z5 x7 = some v → Go X 13 (wM g ad o) [(0, .ref (ad 0)), (1, iv x1), (2, iv x2), (3, iv x3), (4, iv x4), (5, .long z5), (7, iv x7)] [] := by
    intro x1 x2 x3 x4 z5 x7 h
    unfold e_X12_judged_13 at h
    obtain ⟨r, hr, h⟩ := qB_of h
    refine l13 x1 x2 x3 z5 r _ hr ?_
    ·
      intro u0 e
      have e := e.symm
      subst e
      have h : b_X12_judged_68 o x1 x2 x3 u0 = some v := h
      exact j68 x1 x2 x3 u0 h
  unfold s_X12_judged at h
  refine g_iconst E gdX12_judged_0 ?_
  refine g_istore E [(4, iv 0), (0, .ref (ad 0)), (1, iv x1), (2, iv x2), (3, iv x3)] gdX12_judged_1 (by decide) rfl ?_
  refine g_aload_n E gdX12_judged_3 rfl 1 rfl ?_
  refine g_iload_n E gdX12_judged_4 rfl 2 rfl ?_
  obtain ⟨p25, hc26, h⟩ := qB_of h
  refine g_Vl (r := p25) (As := [iv x1]) (rest := []) (w := wM g ad o) E (c_X12_cellsOf l g ad o x1 p25 hc26) okm_X12_cellsOf okw_X12_cellsOf w_1914 rfl (wM_0 g ad o) rfl rfl (Nat.le_of_ble_eq_true rfl) ⟨Nat.le_of_ble_eq_true rfl, Nat.le_of_ble_eq_true rfl⟩ gdX12_judged_5 ?_
  refine g_lstore E [(5, .long p25), (4, iv 0), (0, .ref (ad 0)), (1, iv x1), (2, iv x2), (3, iv x3)] gdX12_judged_8 (by decide) rfl ?_
  refine g_iconst E gdX12_judged_10 ?_
  refine g_istore E [(7, iv 0), (5, .long p25), (4, iv 0), (0, .ref (ad 0)), (1, iv x1), (2, iv x2), (3, iv x3)] gdX12_judged_11 (by decide) rfl ?_
  refine g_sub E [3, 4, 5, 6, 2, 1, 0] rfl ?_
  exact j13 x1 x2 x3 0 p25 0 h
set_option maxHeartbeats 4000000 in
set_option maxRecDepth 100000 in
theorem c_X12_best (l : Launch) (g : GG) (ad : Nat → Nat) (o : OO) (x1 : Int) (x2 : Int) (v : Int × OO) (h : s_X12_best o x1 x2 = some v) : CI l g yX12_best cX12_best 8 (some .int) 5 125 (wM g ad o) [.ref (ad 0), iv x1, iv x2] v.1 (wM g ad v.2) := by
  refine met_I (by decide) (Nat.le_of_ble_eq_true rfl) ?_
  intro X E hQ
  show Go X 0 (wM g ad o) [(0, .ref (ad 0)), (1, iv x1), (2, iv x2)] []
  have j14 : ∀ (o : OO), b_X12_best_14 o = some v → Go X 14 (wM g ad o) [] [] := by
    intro o h
    unfold b_X12_best_14 at h
    refine g_iconst E gdX12_best_14 ?_
    exact g_iret E hQ (by rw [← Option.some.inj h]) (by rw [← Option.some.inj h]) gdX12_best_15
  have j128 : ∀ (o : OO) (y0 : Int), b_X12_best_128 o y0 = some v → Go X 128 (wM g ad o) [] [iv y0] := by
    intro o y0 h
    unfold b_X12_best_128 at h
    exact g_iret E hQ (by rw [← Option.some.inj h]) (by rw [← Option.some.inj h]) gdX12_best_128
  have j110 : ∀ (o : OO) (x4 : Int) (x5 : Int), b_X12_best_110 o x4 x5 = some v → Go X 110 (wM g ad o) [(0, .ref (ad 0)), (4, iv x4), (5, iv x5)] [] := by
    intro o x4 x5 h
    unfold b_X12_best_110 at h
    refine g_iload E gdX12_best_110 1 rfl ?_
    refine g_if_ge E 120 gdX12_best_112 (by decide) h (fun h => ?_) (fun h => ?_)
    ·
      refine g_aload_n E gdX12_best_120 rfl 0 rfl ?_
      refine g_iload E gdX12_best_121 2 rfl ?_
      refine g_iload E gdX12_best_123 1 rfl ?_
      obtain ⟨r1, o3, hc2, h⟩ := qB2_of h
      refine g_Vi (r := r1) (As := [iv x5, iv x4]) (rest := []) (w := wM g ad o3) E (c_X12_ask l g ad o x5 x4 (r1, o3) hc2) okm_X12_ask okw_X12_ask w_1835 rfl (wM_0 g ad o) rfl rfl (Nat.le_of_ble_eq_true rfl) ⟨Nat.le_of_ble_eq_true rfl, Nat.le_of_ble_eq_true rfl⟩ gdX12_best_125 ?_
      refine g_sub E [] rfl ?_
      exact j128 o3 r1 h
    ·
      refine g_bipush E gdX12_best_115 (by decide) ?_
      refine g_goto E 128 gdX12_best_117 (by decide) ?_
      refine g_sub E [] rfl ?_
      exact j128 o (-9) h
  have j104 : ∀ (o : OO) (x1 : Int) (x2 : Int) (x4 : Int) (x5 : Int) (x6 : Int) (v : (Int × Int × Int) ⊕ ((Int × Int))), b_X12_best_104 o x1 x2 x4 x5 x6 = some v → (∀ (x4 : Int) (x5 : Int) (x6 : Int), v = .inl (x4, x5, x6) → Go X 39 (wM g ad o) [(0, .ref (ad 0)), (1, iv x1), (2, iv x2), (4, iv x4), (5, iv x5), (6, iv x6)] []) → (∀ (x4 : Int) (x5 : Int), v = .inr ((x4, x5)) → Go X 110 (wM g ad o) [(0, .ref (ad 0)), (4, iv x4), (5, iv x5)] []) → Go X 104 (wM g ad o) [(0, .ref (ad 0)), (1, iv x1), (2, iv x2), (4, iv x4), (5, iv x5), (6, iv x6)] [] := by
    intro o x1 x2 x4 x5 x6 v h k0 k1
    unfold b_X12_best_104 at h
    refine g_iinc E [(6, iv (x6 + 1)), (0, .ref (ad 0)), (1, iv x1), (2, iv x2), (4, iv x4), (5, iv x5)] gdX12_best_104 5 rfl (by decide) rfl ?_
    refine g_goto E 39 gdX12_best_107 (by decide) ?_
    refine g_sub E [1, 2, 3, 4, 5, 0] rfl ?_
    exact k0 x4 x5 (x6 + 1) (Option.some.inj h).symm
  have j96 : ∀ (o : OO) (x1 : Int) (x2 : Int) (x6 : Int) (x7 : Int) (v : (Int × Int × Int) ⊕ ((Int × Int))), b_X12_best_96 o x1 x2 x6 x7 = some v → (∀ (x4 : Int) (x5 : Int) (x6 : Int), v = .inl (x4, x5, x6) → Go X 39 (wM g ad o) [(0, .ref (ad 0)), (1, iv x1), (2, iv x2), (4, iv x4), (5, iv x5), (6, iv x6)] []) → (∀ (x4 : Int) (x5 : Int), v = .inr ((x4, x5)) → Go X 110 (wM g ad o) [(0, .ref (ad 0)), (4, iv x4), (5, iv x5)] []) → Go X 96 (wM g ad o) [(0, .ref (ad 0)), (1, iv x1), (2, iv x2), (6, iv x6), (7, iv x7)] [] := by
    intro o x1 x2 x6 x7 v h k0 k1
    unfold b_X12_best_96 at h
    refine g_iload E gdX12_best_96 3 rfl ?_
    refine g_istore E [(4, iv x6), (0, .ref (ad 0)), (1, iv x1), (2, iv x2), (6, iv x6), (7, iv x7)] gdX12_best_98 (by decide) rfl ?_
    refine g_iload E gdX12_best_100 5 rfl ?_
    refine g_istore E [(5, iv x7), (4, iv x6), (0, .ref (ad 0)), (1, iv x1), (2, iv x2), (6, iv x6), (7, iv x7)] gdX12_best_102 (by decide) rfl ?_
    refine g_sub E [2, 3, 4, 1, 0, 5] rfl ?_
    exact j104 o x1 x2 x6 x7 x6 v h k0 k1
  have j71 : ∀ (o : OO) (x1 : Int) (x2 : Int) (x4 : Int) (x5 : Int) (x6 : Int) (y0 : Int) (v : (Int × Int × Int) ⊕ ((Int × Int))), b_X12_best_71 o x1 x2 x4 x5 x6 y0 = some v → (∀ (x4 : Int) (x5 : Int) (x6 : Int), v = .inl (x4, x5, x6) → Go X 39 (wM g ad o) [(0, .ref (ad 0)), (1, iv x1), (2, iv x2), (4, iv x4), (5, iv x5), (6, iv x6)] []) → (∀ (x4 : Int) (x5 : Int), v = .inr ((x4, x5)) → Go X 110 (wM g ad o) [(0, .ref (ad 0)), (4, iv x4), (5, iv x5)] []) → Go X 71 (wM g ad o) [(0, .ref (ad 0)), (1, iv x1), (2, iv x2), (4, iv x4), (5, iv x5), (6, iv x6)] [iv y0] := by
    intro o x1 x2 x4 x5 x6 y0 v h k0 k1
    unfold b_X12_best_71 at h
    refine g_istore E [(7, iv y0), (0, .ref (ad 0)), (1, iv x1), (2, iv x2), (4, iv x4), (5, iv x5), (6, iv x6)] gdX12_best_71 (by decide) rfl ?_
    refine g_aload_n E gdX12_best_73 rfl 1 rfl ?_
    refine g_get (T := TX12) E fw_X12 0 (wM_0 g ad o) rfl 33 (by decide) w_1499 rfl rfl gdX12_best_74 ?_
    refine g_iload E gdX12_best_77 6 rfl ?_
    obtain ⟨hi4, h⟩ := qIn_of h
    refine g_iald E 25 (wM_25 g ad o) (by decide) hi4 gdX12_best_79 ?_
    obtain ⟨n5, e_n5, h⟩ := qNm_of h
    refine g_nmi e_n5 ?_
    refine g_iconst E gdX12_best_80 ?_
    refine g_icmp_ne E 104 gdX12_best_81 (by decide) h (fun h => ?_) (fun h => ?_)
    ·
      refine g_sub E [1, 2, 3, 4, 5, 6] rfl ?_
      exact j104 o x1 x2 x4 x5 x6 v h k0 k1
    ·
      refine g_iload E gdX12_best_84 4 rfl ?_
      refine g_if_lt E 96 gdX12_best_86 (by decide) h (fun h => ?_) (fun h => ?_)
      ·
        refine g_sub E [1, 2, 3, 6, 0] rfl ?_
        exact j96 o x1 x2 x6 y0 v h k0 k1
      ·
        refine g_iload E gdX12_best_89 0 rfl ?_
        refine g_iload E gdX12_best_91 5 rfl ?_
        refine g_icmp_ge E 104 gdX12_best_93 (by decide) h (fun h => ?_) (fun h => ?_)
        ·
          refine g_sub E [1, 2, 3, 4, 5, 6] rfl ?_
          exact j104 o x1 x2 x4 x5 x6 v h k0 k1
        ·
          refine g_sub E [1, 2, 3, 6, 0] rfl ?_
          exact j96 o x1 x2 x6 y0 v h k0 k1
  have l39 : ∀ (o : OO) (x1 : Int) (x2 : Int) (r : (Int × Int)) (s0 : Int × Int × Int), loopW (fun s => l_X12_best_39 o x1 x2 s.1 s.2.1 s.2.2) s0 = some r → (∀ (x4 : Int) (x5 : Int), r = ((x4, x5)) → Go X 110 (wM g ad o) [(0, .ref (ad 0)), (4, iv x4), (5, iv x5)] []) → Go X 39 (wM g ad o) [(0, .ref (ad 0)), (1, iv x1), (2, iv x2), (4, iv s0.1), (5, iv s0.2.1), (6, iv s0.2.2)] [] := by
    intro o x1 x2 r s0 h k1
    refine loop_rule (Head := fun s0 => Go X 39 (wM g ad o) [(0, .ref (ad 0)), (1, iv x1), (2, iv x2), (4, iv s0.1), (5, iv s0.2.1), (6, iv s0.2.2)] []) h ?_
    intro s v h kk kx
    obtain ⟨x4, x5, x6⟩ := s
    have h : l_X12_best_39 o x1 x2 x4 x5 x6 = some v := h
    have k0 : ∀ (x4 : Int) (x5 : Int) (x6 : Int), v = .inl (x4, x5, x6) → Go X 39 (wM g ad o) [(0, .ref (ad 0)), (1, iv x1), (2, iv x2), (4, iv x4), (5, iv x5), (6, iv x6)] [] := fun x4 x5 x6 e => kk (x4, x5, x6) e
    have k1 : ∀ (x4 : Int) (x5 : Int), v = .inr ((x4, x5)) → Go X 110 (wM g ad o) [(0, .ref (ad 0)), (4, iv x4), (5, iv x5)] [] := fun x4 x5 e => k1 x4 x5 (kx _ e).symm
    unfold l_X12_best_39 at h
    refine g_iload E gdX12_best_39 5 rfl ?_
    refine g_aload_n E gdX12_best_41 rfl 0 rfl ?_
    refine g_get (T := TX12) E fw_X12 0 (wM_0 g ad o) rfl 32 (by decide) w_1498 rfl rfl gdX12_best_42 ?_
    refine g_icmp_ge E 110 gdX12_best_45 (by decide) h (fun h => ?_) (fun h => ?_)
    ·
      refine g_sub E [0, 3, 4] rfl ?_
      exact k1 x4 x5 (Option.some.inj h).symm
    ·
      refine g_aload_n E gdX12_best_48 rfl 0 rfl ?_
      refine g_get (T := TX12) E fw_X12 0 (wM_0 g ad o) rfl 33 (by decide) w_1499 rfl rfl gdX12_best_49 ?_
      refine g_iload E gdX12_best_52 5 rfl ?_
      obtain ⟨hi6, h⟩ := qIn_of h
      refine g_iald E 25 (wM_25 g ad o) (by decide) hi6 gdX12_best_54 ?_
      obtain ⟨n7, e_n7, h⟩ := qNm_of h
      refine g_nmi e_n7 ?_
      refine g_iconst E gdX12_best_55 ?_
      refine g_icmp_ne E 70 gdX12_best_56 (by decide) h (fun h => ?_) (fun h => ?_)
      ·
        refine g_iconst E gdX12_best_70 ?_
        exact j71 o x1 x2 x4 x5 x6 0 v h k0 k1
      ·
        refine g_aload_n E gdX12_best_59 rfl 0 rfl ?_
        refine g_iload E gdX12_best_60 5 rfl ?_
        refine g_iload_n E gdX12_best_62 rfl 1 rfl ?_
        refine g_iload_n E gdX12_best_63 rfl 2 rfl ?_
        obtain ⟨r8, hc9, h⟩ := qB_of h
        refine g_Vi (r := r8) (As := [iv x6, iv x1, iv x2]) (rest := []) (w := wM g ad o) E (c_X12_judged l g ad o x6 x1 x2 r8 hc9) okm_X12_judged okw_X12_judged w_2114 rfl (wM_0 g ad o) rfl rfl (Nat.le_of_ble_eq_true rfl) ⟨Nat.le_of_ble_eq_true rfl, Nat.le_of_ble_eq_true rfl⟩ gdX12_best_64 ?_
        refine g_goto E 71 gdX12_best_67 (by decide) ?_
        exact j71 o x1 x2 x4 x5 x6 r8 v h k0 k1
  have j39 : ∀ (o : OO) (x1 : Int) (x2 : Int) (x4 : Int) (x5 : Int) (x6 : Int), e_X12_best_39 o x1 x2 x4 x5 x6 = some v → Go X 39 (wM g ad o) [(0, .ref (ad 0)), (1, iv x1), (2, iv x2), (4, iv x4), (5, iv x5), (6, iv x6)] [] := by
    intro o x1 x2 x4 x5 x6 h
    unfold e_X12_best_39 at h
    obtain ⟨r, hr, h⟩ := qB_of h
    refine l39 o x1 x2 r _ hr ?_
    ·
      intro u0 u1 e
      subst e
      have h : b_X12_best_110 o u0 u1 = some v := h
      exact j110 o u0 u1 h
  unfold s_X12_best at h
  refine g_iload_n E gdX12_best_0 rfl 1 rfl ?_
  obtain ⟨r10, hc11, h⟩ := qB_of h
  refine g_Si (r := r10) (As := [iv x1]) (rest := []) (w := wM g ad o) E (c_X12_isRow l g (wM g ad o) x1 r10 hc11) okm_X12_isRow w_1703 w_1702 rfl rfl (Nat.le_of_ble_eq_true rfl) ⟨Nat.le_of_ble_eq_true rfl, Nat.le_of_ble_eq_true rfl⟩ gdX12_best_1 ?_
  refine g_if_eq E 14 gdX12_best_4 (by decide) h (fun h => ?_) (fun h => ?_)
  ·
    refine g_sub E [] rfl ?_
    exact j14 o h
  ·
    refine g_iload_n E gdX12_best_7 rfl 2 rfl ?_
    obtain ⟨r12, hc13, h⟩ := qB_of h
    refine g_Si (r := r12) (As := [iv x2]) (rest := []) (w := wM g ad o) E (c_X12_isRow l g (wM g ad o) x2 r12 hc13) okm_X12_isRow w_1703 w_1702 rfl rfl (Nat.le_of_ble_eq_true rfl) ⟨Nat.le_of_ble_eq_true rfl, Nat.le_of_ble_eq_true rfl⟩ gdX12_best_8 ?_
    refine g_if_ne E 16 gdX12_best_11 (by decide) h (fun h => ?_) (fun h => ?_)
    ·
      refine g_aload_n E gdX12_best_16 rfl 0 rfl ?_
      refine g_iload_n E gdX12_best_17 rfl 1 rfl ?_
      refine g_iload_n E gdX12_best_18 rfl 2 rfl ?_
      obtain ⟨r14, o16, hc15, h⟩ := qB2_of h
      refine g_Vi (r := r14) (As := [iv x1, iv x2]) (rest := []) (w := wM g ad o16) E (c_X12_askedWeights l g ad o x1 x2 (r14, o16) hc15) okm_X12_askedWeights okw_X12_askedWeights w_2110 rfl (wM_0 g ad o) rfl rfl (Nat.le_of_ble_eq_true rfl) ⟨Nat.le_of_ble_eq_true rfl, Nat.le_of_ble_eq_true rfl⟩ gdX12_best_19 ?_
      refine g_istore_n E [(3, iv r14), (0, .ref (ad 0)), (1, iv x1), (2, iv x2)] gdX12_best_22 rfl (by decide) rfl ?_
      refine g_iload_n E gdX12_best_23 rfl 0 rfl ?_
      refine g_if_ge E 29 gdX12_best_24 (by decide) h (fun h => ?_) (fun h => ?_)
      ·
        refine g_bipush E gdX12_best_29 (by decide) ?_
        refine g_istore E [(4, iv (-9)), (3, iv r14), (0, .ref (ad 0)), (1, iv x1), (2, iv x2)] gdX12_best_31 (by decide) rfl ?_
        refine g_iconst E gdX12_best_33 ?_
        refine g_istore E [(5, iv 0), (4, iv (-9)), (3, iv r14), (0, .ref (ad 0)), (1, iv x1), (2, iv x2)] gdX12_best_34 (by decide) rfl ?_
        refine g_iconst E gdX12_best_36 ?_
        refine g_istore E [(6, iv 0), (5, iv 0), (4, iv (-9)), (3, iv r14), (0, .ref (ad 0)), (1, iv x1), (2, iv x2)] gdX12_best_37 (by decide) rfl ?_
        refine g_sub E [4, 5, 6, 2, 1, 0] rfl ?_
        exact j39 o16 x1 x2 (-9) 0 0 h
      ·
        refine g_iload_n E gdX12_best_27 rfl 0 rfl ?_
        exact g_iret E hQ (by rw [← Option.some.inj h]) (by rw [← Option.some.inj h]) gdX12_best_28
    ·
      refine g_sub E [] rfl ?_
      exact j14 o h
