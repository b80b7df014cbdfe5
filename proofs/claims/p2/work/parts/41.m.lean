set_option maxRecDepth 200000 in
theorem w_1502 : Cond.fieldLink "CityRoadModel" 92 "CityRoadModel" "costs" "[I" ∈ tb := tb_mem 1502 (by decide +kernel) rfl
set_option maxRecDepth 200000 in
theorem w_2049 : Cond.code yX12_parks cX12_parks 4 (some .int) ∈ tb := tb_mem 2049 (by rfl) rfl
set_option maxRecDepth 200000 in
theorem w_2048 : Cond.instanceMethod yX12_parks ∈ tb := tb_mem 2048 (by decide +kernel) rfl
set_option maxRecDepth 200000 in
theorem w_76 : Cond.selects "CityRoadModel" yX12_parks yX12_parks ∈ tb := tb_mem 76 (by decide +kernel) rfl
set_option maxRecDepth 200000 in
theorem w_2046 : Cond.methodLink "CityRoadModel" 404 yX12_parks ∈ tb := tb_mem 2046 (by decide +kernel) rfl
set_option maxRecDepth 200000 in
theorem w_2037 : Cond.code yX12_loud cX12_loud 8 (some .int) ∈ tb := tb_mem 2037 (by rfl) rfl
set_option maxRecDepth 200000 in
theorem w_2036 : Cond.instanceMethod yX12_loud ∈ tb := tb_mem 2036 (by decide +kernel) rfl
set_option maxRecDepth 200000 in
theorem w_74 : Cond.selects "CityRoadModel" yX12_loud yX12_loud ∈ tb := tb_mem 74 (by decide +kernel) rfl
set_option maxRecDepth 200000 in
theorem w_2034 : Cond.methodLink "CityRoadModel" 400 yX12_loud ∈ tb := tb_mem 2034 (by decide +kernel) rfl
set_option maxRecDepth 200000 in
theorem w_1920 : Cond.code yX12_has cX12_has 3 (some .boolean) ∈ tb := tb_mem 1920 (by rfl) rfl
set_option maxRecDepth 200000 in
theorem w_1919 : Cond.static yX12_has ∈ tb := tb_mem 1919 (by decide +kernel) rfl
set_option maxRecDepth 200000 in
theorem w_1918 : Cond.methodLink "CityRoadModel" 344 yX12_has ∈ tb := tb_mem 1918 (by decide +kernel) rfl
set_option maxRecDepth 200000 in
theorem w_1917 : Cond.code yX12_cellsOf cX12_cellsOf 5 (some .long) ∈ tb := tb_mem 1917 (by rfl) rfl
set_option maxRecDepth 200000 in
theorem w_1916 : Cond.instanceMethod yX12_cellsOf ∈ tb := tb_mem 1916 (by decide +kernel) rfl
set_option maxRecDepth 200000 in
theorem w_62 : Cond.selects "CityRoadModel" yX12_cellsOf yX12_cellsOf ∈ tb := tb_mem 62 (by decide +kernel) rfl
set_option maxRecDepth 200000 in
theorem w_1914 : Cond.methodLink "CityRoadModel" 340 yX12_cellsOf ∈ tb := tb_mem 1914 (by decide +kernel) rfl
set_option maxRecDepth 200000 in
theorem w_1499 : Cond.fieldLink "CityRoadModel" 83 "CityRoadModel" "kinds" "[I" ∈ tb := tb_mem 1499 (by decide +kernel) rfl
set_option maxRecDepth 200000 in
theorem w_1498 : Cond.fieldLink "CityRoadModel" 305 "CityRoadModel" "marks" "I" ∈ tb := tb_mem 1498 (by decide +kernel) rfl
set_option maxRecDepth 200000 in
theorem w_2117 : Cond.code yX12_judged cX12_judged 8 (some .int) ∈ tb := tb_mem 2117 (by rfl) rfl
set_option maxRecDepth 200000 in
theorem w_2116 : Cond.instanceMethod yX12_judged ∈ tb := tb_mem 2116 (by decide +kernel) rfl
set_option maxRecDepth 200000 in
theorem w_84 : Cond.selects "CityRoadModel" yX12_judged yX12_judged ∈ tb := tb_mem 84 (by decide +kernel) rfl
set_option maxRecDepth 200000 in
theorem w_2114 : Cond.methodLink "CityRoadModel" 440 yX12_judged ∈ tb := tb_mem 2114 (by decide +kernel) rfl
set_option maxRecDepth 200000 in
theorem w_2113 : Cond.code yX12_askedWeights cX12_askedWeights 5 (some .int) ∈ tb := tb_mem 2113 (by rfl) rfl
set_option maxRecDepth 200000 in
theorem w_2112 : Cond.instanceMethod yX12_askedWeights ∈ tb := tb_mem 2112 (by decide +kernel) rfl
set_option maxRecDepth 200000 in
theorem w_83 : Cond.selects "CityRoadModel" yX12_askedWeights yX12_askedWeights ∈ tb := tb_mem 83 (by decide +kernel) rfl
set_option maxRecDepth 200000 in
theorem w_2110 : Cond.methodLink "CityRoadModel" 437 yX12_askedWeights ∈ tb := tb_mem 2110 (by decide +kernel) rfl
set_option maxRecDepth 200000 in
theorem w_1802 : Cond.constant "CityRoadModel" 266 (100000) ∈ tb := tb_mem 1802 (by decide +kernel) rfl
set_option maxRecDepth 200000 in
theorem w_1490 : Cond.fieldLink "CityRoadModel" 62 "CityRoadModel" "toldOf" "[I" ∈ tb := tb_mem 1490 (by decide +kernel) rfl
set_option maxRecDepth 200000 in
theorem w_1489 : Cond.fieldLink "CityRoadModel" 263 "CityRoadModel" "tellings" "I" ∈ tb := tb_mem 1489 (by decide +kernel) rfl
set_option maxRecDepth 200000 in
theorem w_1491 : Cond.fieldLink "CityRoadModel" 65 "CityRoadModel" "toldDay" "[I" ∈ tb := tb_mem 1491 (by decide +kernel) rfl
set_option maxRecDepth 200000 in
theorem w_1492 : Cond.fieldLink "CityRoadModel" 68 "CityRoadModel" "toldWorth" "[I" ∈ tb := tb_mem 1492 (by decide +kernel) rfl
set_option maxRecDepth 200000 in
theorem w_1790 : Cond.code yX12_isCell cX12_isCell 1 (some .boolean) ∈ tb := tb_mem 1790 (by rfl) rfl
set_option maxRecDepth 200000 in
theorem w_1789 : Cond.static yX12_isCell ∈ tb := tb_mem 1789 (by decide +kernel) rfl
set_option maxRecDepth 200000 in
theorem w_1788 : Cond.methodLink "CityRoadModel" 257 yX12_isCell ∈ tb := tb_mem 1788 (by decide +kernel) rfl
set_option maxRecDepth 200000 in
theorem w_1801 : Cond.code yX12_isWorth cX12_isWorth 1 (some .boolean) ∈ tb := tb_mem 1801 (by rfl) rfl
set_option maxRecDepth 200000 in
theorem w_1800 : Cond.static yX12_isWorth ∈ tb := tb_mem 1800 (by decide +kernel) rfl
set_option maxRecDepth 200000 in
theorem w_1799 : Cond.methodLink "CityRoadModel" 267 yX12_isWorth ∈ tb := tb_mem 1799 (by decide +kernel) rfl
set_option maxRecDepth 200000 in
theorem w_1794 : Cond.code yX12_on cX12_on 4 (some .int) ∈ tb := tb_mem 1794 (by rfl) rfl
set_option maxRecDepth 200000 in
theorem w_1793 : Cond.instanceMethod yX12_on ∈ tb := tb_mem 1793 (by decide +kernel) rfl
set_option maxRecDepth 200000 in
theorem w_43 : Cond.selects "CityRoadModel" yX12_on yX12_on ∈ tb := tb_mem 43 (by decide +kernel) rfl
set_option maxRecDepth 200000 in
theorem w_1791 : Cond.methodLink "CityRoadModel" 260 yX12_on ∈ tb := tb_mem 1791 (by decide +kernel) rfl
set_option maxRecDepth 200000 in
theorem w_1486 : Cond.fieldLink "CityRoadModel" 52 "CityRoadModel" "rooms" "[I" ∈ tb := tb_mem 1486 (by decide +kernel) rfl
set_option maxRecDepth 200000 in
theorem w_1488 : Cond.fieldLink "CityRoadModel" 59 "CityRoadModel" "boughtBy" "[I" ∈ tb := tb_mem 1488 (by decide +kernel) rfl
set_option maxRecDepth 200000 in
theorem w_1806 : Cond.code yX12_tell cX12_tell 3 none ∈ tb := tb_mem 1806 (by rfl) rfl
set_option maxRecDepth 200000 in
theorem w_1805 : Cond.instanceMethod yX12_tell ∈ tb := tb_mem 1805 (by decide +kernel) rfl
set_option maxRecDepth 200000 in
theorem w_44 : Cond.selects "CityRoadModel" yX12_tell yX12_tell ∈ tb := tb_mem 44 (by decide +kernel) rfl
set_option maxRecDepth 200000 in
theorem w_1803 : Cond.methodLink "CityRoadModel" 270 yX12_tell ∈ tb := tb_mem 1803 (by decide +kernel) rfl
set_option maxRecDepth 200000 in
theorem w_1814 : Cond.code yX12_isBuilding cX12_isBuilding 2 (some .boolean) ∈ tb := tb_mem 1814 (by rfl) rfl
set_option maxRecDepth 200000 in
theorem w_1813 : Cond.instanceMethod yX12_isBuilding ∈ tb := tb_mem 1813 (by decide +kernel) rfl
set_option maxRecDepth 200000 in
theorem w_45 : Cond.selects "CityRoadModel" yX12_isBuilding yX12_isBuilding ∈ tb := tb_mem 45 (by decide +kernel) rfl
set_option maxRecDepth 200000 in
theorem w_1811 : Cond.methodLink "CityRoadModel" 274 yX12_isBuilding ∈ tb := tb_mem 1811 (by decide +kernel) rfl
set_option maxRecDepth 200000 in
theorem w_1854 : Cond.code yX12_isPerson cX12_isPerson 2 (some .boolean) ∈ tb := tb_mem 1854 (by rfl) rfl
set_option maxRecDepth 200000 in
theorem w_1853 : Cond.instanceMethod yX12_isPerson ∈ tb := tb_mem 1853 (by decide +kernel) rfl
set_option maxRecDepth 200000 in
theorem w_51 : Cond.selects "CityRoadModel" yX12_isPerson yX12_isPerson ∈ tb := tb_mem 51 (by decide +kernel) rfl
set_option maxRecDepth 200000 in
theorem w_1851 : Cond.methodLink "CityRoadModel" 296 yX12_isPerson ∈ tb := tb_mem 1851 (by decide +kernel) rfl
set_option maxRecDepth 200000 in
theorem w_1514 : Cond.fieldLink "CityRoadModel" 368 "CityRoadModel" "buys" "I" ∈ tb := tb_mem 1514 (by decide +kernel) rfl
set_option maxRecDepth 200000 in
theorem w_1515 : Cond.fieldLink "CityRoadModel" 129 "CityRoadModel" "buyOf" "[I" ∈ tb := tb_mem 1515 (by decide +kernel) rfl
set_option maxRecDepth 200000 in
theorem w_1516 : Cond.fieldLink "CityRoadModel" 132 "CityRoadModel" "buyBy" "[I" ∈ tb := tb_mem 1516 (by decide +kernel) rfl
set_option maxRecDepth 200000 in
theorem w_1517 : Cond.fieldLink "CityRoadModel" 135 "CityRoadModel" "buyDay" "[I" ∈ tb := tb_mem 1517 (by decide +kernel) rfl
set_option maxRecDepth 200000 in
theorem w_1482 : Cond.fieldLink "CityRoadModel" 43 "CityRoadModel" "heights" "[I" ∈ tb := tb_mem 1482 (by decide +kernel) rfl
set_option maxRecDepth 200000 in
theorem w_1906 : Cond.code yX12_isMark cX12_isMark 2 (some .boolean) ∈ tb := tb_mem 1906 (by rfl) rfl
set_option maxRecDepth 200000 in
theorem w_1905 : Cond.instanceMethod yX12_isMark ∈ tb := tb_mem 1905 (by decide +kernel) rfl
set_option maxRecDepth 200000 in
theorem w_60 : Cond.selects "CityRoadModel" yX12_isMark yX12_isMark ∈ tb := tb_mem 60 (by decide +kernel) rfl
set_option maxRecDepth 200000 in
theorem w_1903 : Cond.methodLink "CityRoadModel" 308 yX12_isMark ∈ tb := tb_mem 1903 (by decide +kernel) rfl
set_option maxRecDepth 200000 in
theorem w_1910 : Cond.code yX12_isLine cX12_isLine 2 (some .boolean) ∈ tb := tb_mem 1910 (by rfl) rfl
set_option maxRecDepth 200000 in
theorem w_1909 : Cond.instanceMethod yX12_isLine ∈ tb := tb_mem 1909 (by decide +kernel) rfl
set_option maxRecDepth 200000 in
theorem w_61 : Cond.selects "CityRoadModel" yX12_isLine yX12_isLine ∈ tb := tb_mem 61 (by decide +kernel) rfl
set_option maxRecDepth 200000 in
theorem w_1907 : Cond.methodLink "CityRoadModel" 311 yX12_isLine ∈ tb := tb_mem 1907 (by decide +kernel) rfl
set_option maxRecDepth 200000 in
theorem w_1928 : Cond.code yX12_askedLine cX12_askedLine 2 (some .int) ∈ tb := tb_mem 1928 (by rfl) rfl
set_option maxRecDepth 200000 in
theorem w_1927 : Cond.instanceMethod yX12_askedLine ∈ tb := tb_mem 1927 (by decide +kernel) rfl
set_option maxRecDepth 200000 in
theorem w_63 : Cond.selects "CityRoadModel" yX12_askedLine yX12_askedLine ∈ tb := tb_mem 63 (by decide +kernel) rfl
set_option maxRecDepth 200000 in
theorem w_1925 : Cond.methodLink "CityRoadModel" 348 yX12_askedLine ∈ tb := tb_mem 1925 (by decide +kernel) rfl
set_option maxRecDepth 200000 in
theorem w_1530 : Cond.fieldLink "CityRoadModel" 413 "CityRoadModel" "coins" "J" ∈ tb := tb_mem 1530 (by decide +kernel) rfl
set_option maxRecDepth 200000 in
theorem w_1473 : Cond.fieldLink "CityRoadModel" 19 "CityRoadModel" "moving" "[I" ∈ tb := tb_mem 1473 (by decide +kernel) rfl
set_option maxRecDepth 200000 in
theorem w_1474 : Cond.fieldLink "CityRoadModel" 22 "CityRoadModel" "lengths" "[I" ∈ tb := tb_mem 1474 (by decide +kernel) rfl
set_option maxRecDepth 200000 in
theorem w_2137 : Cond.code yX12_counts cX12_counts 4 (some .int) ∈ tb := tb_mem 2137 (by rfl) rfl
set_option maxRecDepth 200000 in
theorem w_2136 : Cond.instanceMethod yX12_counts ∈ tb := tb_mem 2136 (by decide +kernel) rfl
set_option maxRecDepth 200000 in
theorem w_85 : Cond.selects "CityRoadModel" yX12_counts yX12_counts ∈ tb := tb_mem 85 (by decide +kernel) rfl
set_option maxRecDepth 200000 in
theorem w_2134 : Cond.methodLink "CityRoadModel" 443 yX12_counts ∈ tb := tb_mem 2134 (by decide +kernel) rfl
set_option maxRecDepth 200000 in
theorem w_2155 : Cond.constantLong "CityRoadModel" 446 (31) ∈ tb := tb_mem 2155 (by decide +kernel) rfl
set_option maxRecDepth 200000 in
theorem w_1542 : Cond.fieldLink "CityRoadModel" 448 "CityRoadModel" "h" "J" ∈ tb := tb_mem 1542 (by decide +kernel) rfl
set_option maxRecDepth 200000 in
theorem w_1497 : Cond.fieldLink "CityRoadModel" 80 "CityRoadModel" "kins" "[I" ∈ tb := tb_mem 1497 (by decide +kernel) rfl
set_option maxRecDepth 200000 in
theorem w_1496 : Cond.fieldLink "CityRoadModel" 77 "CityRoadModel" "hasCar" "[Z" ∈ tb := tb_mem 1496 (by decide +kernel) rfl
set_option maxRecDepth 200000 in
theorem w_1495 : Cond.fieldLink "CityRoadModel" 74 "CityRoadModel" "works" "[I" ∈ tb := tb_mem 1495 (by decide +kernel) rfl
set_option maxRecDepth 200000 in
theorem w_1501 : Cond.fieldLink "CityRoadModel" 89 "CityRoadModel" "hangs" "[I" ∈ tb := tb_mem 1501 (by decide +kernel) rfl
set_option maxRecDepth 200000 in
theorem w_1500 : Cond.fieldLink "CityRoadModel" 86 "CityRoadModel" "made" "[I" ∈ tb := tb_mem 1500 (by decide +kernel) rfl
set_option maxRecDepth 200000 in
theorem w_2154 : Cond.code yX12_mix cX12_mix 2 none ∈ tb := tb_mem 2154 (by rfl) rfl
set_option maxRecDepth 200000 in
theorem w_2153 : Cond.instanceMethod yX12_mix ∈ tb := tb_mem 2153 (by decide +kernel) rfl
set_option maxRecDepth 200000 in
theorem w_86 : Cond.selects "CityRoadModel" yX12_mix yX12_mix ∈ tb := tb_mem 86 (by decide +kernel) rfl
set_option maxRecDepth 200000 in
theorem w_2151 : Cond.methodLink "CityRoadModel" 451 yX12_mix ∈ tb := tb_mem 2151 (by decide +kernel) rfl
set_option maxRecDepth 200000 in
theorem w_1503 : Cond.fieldLink "CityRoadModel" 95 "CityRoadModel" "shownOn" "[I" ∈ tb := tb_mem 1503 (by decide +kernel) rfl
set_option maxRecDepth 200000 in
theorem w_1964 : Cond.code yX12_markTells cX12_markTells 3 (some .int) ∈ tb := tb_mem 1964 (by rfl) rfl
set_option maxRecDepth 200000 in
theorem w_1963 : Cond.instanceMethod yX12_markTells ∈ tb := tb_mem 1963 (by decide +kernel) rfl
set_option maxRecDepth 200000 in
theorem w_66 : Cond.selects "CityRoadModel" yX12_markTells yX12_markTells ∈ tb := tb_mem 66 (by decide +kernel) rfl
set_option maxRecDepth 200000 in
theorem w_1961 : Cond.methodLink "CityRoadModel" 358 yX12_markTells ∈ tb := tb_mem 1961 (by decide +kernel) rfl
theorem gdX12_judged_68 : decode cX12_judged 68 = .ok (.bipush 40, 2) := by decide +kernel
theorem gdX12_judged_70 : decode cX12_judged 70 = .ok (.iload_n 2, 1) := by decide +kernel
theorem gdX12_judged_71 : decode cX12_judged 71 = .ok (.imul, 1) := by decide +kernel
theorem gdX12_judged_72 : decode cX12_judged 72 = .ok (.istore 7, 2) := by decide +kernel
theorem gdX12_judged_74 : decode cX12_judged 74 = .ok (.aload_n 0, 1) := by decide +kernel
theorem gdX12_judged_75 : decode cX12_judged 75 = .ok (.getfield 16, 3) := by decide +kernel
theorem gdX12_judged_78 : decode cX12_judged 78 = .ok (.iload 7, 2) := by decide +kernel
theorem gdX12_judged_80 : decode cX12_judged 80 = .ok (.iaload, 1) := by decide +kernel
theorem gdX12_judged_81 : decode cX12_judged 81 = .ok (.aload_n 0, 1) := by decide +kernel
theorem gdX12_judged_82 : decode cX12_judged 82 = .ok (.getfield 92, 3) := by decide +kernel
theorem gdX12_judged_85 : decode cX12_judged 85 = .ok (.iload_n 1, 1) := by decide +kernel
theorem gdX12_judged_86 : decode cX12_judged 86 = .ok (.iaload, 1) := by decide +kernel
theorem gdX12_judged_87 : decode cX12_judged 87 = .ok (.imul, 1) := by decide +kernel
theorem gdX12_judged_88 : decode cX12_judged 88 = .ok (.aload_n 0, 1) := by decide +kernel
theorem gdX12_judged_89 : decode cX12_judged 89 = .ok (.getfield 16, 3) := by decide +kernel
theorem gdX12_judged_92 : decode cX12_judged 92 = .ok (.iload 7, 2) := by decide +kernel
theorem gdX12_judged_94 : decode cX12_judged 94 = .ok (.iconst 1, 1) := by decide +kernel
theorem gdX12_judged_95 : decode cX12_judged 95 = .ok (.iadd, 1) := by decide +kernel
theorem gdX12_judged_96 : decode cX12_judged 96 = .ok (.iaload, 1) := by decide +kernel
theorem gdX12_judged_97 : decode cX12_judged 97 = .ok (.iload 4, 2) := by decide +kernel
theorem gdX12_judged_99 : decode cX12_judged 99 = .ok (.imul, 1) := by decide +kernel
theorem gdX12_judged_100 : decode cX12_judged 100 = .ok (.iadd, 1) := by decide +kernel
theorem gdX12_judged_101 : decode cX12_judged 101 = .ok (.aload_n 0, 1) := by decide +kernel
theorem gdX12_judged_102 : decode cX12_judged 102 = .ok (.getfield 16, 3) := by decide +kernel
theorem gdX12_judged_105 : decode cX12_judged 105 = .ok (.iload 7, 2) := by decide +kernel
theorem gdX12_judged_107 : decode cX12_judged 107 = .ok (.iconst 2, 1) := by decide +kernel
theorem gdX12_judged_108 : decode cX12_judged 108 = .ok (.iadd, 1) := by decide +kernel
theorem gdX12_judged_109 : decode cX12_judged 109 = .ok (.iaload, 1) := by decide +kernel
theorem gdX12_judged_110 : decode cX12_judged 110 = .ok (.aload_n 0, 1) := by decide +kernel
theorem gdX12_judged_111 : decode cX12_judged 111 = .ok (.iload_n 1, 1) := by decide +kernel
theorem gdX12_judged_112 : decode cX12_judged 112 = .ok (.invokevirtual 404, 3) := by decide +kernel
theorem gdX12_judged_115 : decode cX12_judged 115 = .ok (.imul, 1) := by decide +kernel
theorem gdX12_judged_116 : decode cX12_judged 116 = .ok (.iadd, 1) := by decide +kernel
theorem gdX12_judged_117 : decode cX12_judged 117 = .ok (.aload_n 0, 1) := by decide +kernel
theorem gdX12_judged_118 : decode cX12_judged 118 = .ok (.getfield 16, 3) := by decide +kernel
theorem gdX12_judged_121 : decode cX12_judged 121 = .ok (.iload 7, 2) := by decide +kernel
theorem gdX12_judged_123 : decode cX12_judged 123 = .ok (.iconst 3, 1) := by decide +kernel
theorem gdX12_judged_124 : decode cX12_judged 124 = .ok (.iadd, 1) := by decide +kernel
theorem gdX12_judged_125 : decode cX12_judged 125 = .ok (.iaload, 1) := by decide +kernel
theorem gdX12_judged_126 : decode cX12_judged 126 = .ok (.aload_n 0, 1) := by decide +kernel
theorem gdX12_judged_127 : decode cX12_judged 127 = .ok (.iload_n 1, 1) := by decide +kernel
theorem gdX12_judged_128 : decode cX12_judged 128 = .ok (.iload_n 3, 1) := by decide +kernel
theorem gdX12_judged_129 : decode cX12_judged 129 = .ok (.iconst 0, 1) := by decide +kernel
theorem gdX12_judged_130 : decode cX12_judged 130 = .ok (.invokevirtual 400, 3) := by decide +kernel
theorem gdX12_judged_133 : decode cX12_judged 133 = .ok (.imul, 1) := by decide +kernel
theorem gdX12_judged_134 : decode cX12_judged 134 = .ok (.iadd, 1) := by decide +kernel
theorem gdX12_judged_135 : decode cX12_judged 135 = .ok (.ireturn, 1) := by decide +kernel
theorem gdX12_judged_59 : decode cX12_judged 59 = .ok (.iadd, 1) := by decide +kernel
theorem gdX12_judged_60 : decode cX12_judged 60 = .ok (.istore 4, 2) := by decide +kernel
theorem gdX12_judged_62 : decode cX12_judged 62 = .ok (.iinc 7 1, 3) := by decide +kernel
theorem gdX12_judged_65 : decode cX12_judged 65 = .ok (.goto (-52), 3) := by decide +kernel
theorem gdX12_judged_58 : decode cX12_judged 58 = .ok (.iconst 0, 1) := by decide +kernel
theorem gdX12_judged_13 : decode cX12_judged 13 = .ok (.iload 7, 2) := by decide +kernel
theorem gdX12_judged_15 : decode cX12_judged 15 = .ok (.aload_n 0, 1) := by decide +kernel
theorem gdX12_judged_16 : decode cX12_judged 16 = .ok (.getfield 281, 3) := by decide +kernel
theorem gdX12_judged_19 : decode cX12_judged 19 = .ok (.if_icmp .ge 49, 3) := by decide +kernel
theorem gdX12_judged_22 : decode cX12_judged 22 = .ok (.iload 4, 2) := by decide +kernel
theorem gdX12_judged_24 : decode cX12_judged 24 = .ok (.aload_n 0, 1) := by decide +kernel
theorem gdX12_judged_25 : decode cX12_judged 25 = .ok (.getfield 71, 3) := by decide +kernel
theorem gdX12_judged_28 : decode cX12_judged 28 = .ok (.iload 7, 2) := by decide +kernel
theorem gdX12_judged_30 : decode cX12_judged 30 = .ok (.iaload, 1) := by decide +kernel
theorem gdX12_judged_31 : decode cX12_judged 31 = .ok (.ifCond .lt 27, 3) := by decide +kernel
theorem gdX12_judged_34 : decode cX12_judged 34 = .ok (.lload 5, 2) := by decide +kernel
theorem gdX12_judged_36 : decode cX12_judged 36 = .ok (.aload_n 0, 1) := by decide +kernel
theorem gdX12_judged_37 : decode cX12_judged 37 = .ok (.getfield 46, 3) := by decide +kernel
theorem gdX12_judged_40 : decode cX12_judged 40 = .ok (.aload_n 0, 1) := by decide +kernel
theorem gdX12_judged_41 : decode cX12_judged 41 = .ok (.getfield 71, 3) := by decide +kernel
theorem gdX12_judged_44 : decode cX12_judged 44 = .ok (.iload 7, 2) := by decide +kernel
theorem gdX12_judged_46 : decode cX12_judged 46 = .ok (.iaload, 1) := by decide +kernel
theorem gdX12_judged_47 : decode cX12_judged 47 = .ok (.iaload, 1) := by decide +kernel
theorem gdX12_judged_48 : decode cX12_judged 48 = .ok (.invokestatic 344, 3) := by decide +kernel
theorem gdX12_judged_51 : decode cX12_judged 51 = .ok (.ifCond .eq 7, 3) := by decide +kernel
theorem gdX12_judged_54 : decode cX12_judged 54 = .ok (.iconst 1, 1) := by decide +kernel
theorem gdX12_judged_55 : decode cX12_judged 55 = .ok (.goto 4, 3) := by decide +kernel
theorem gdX12_judged_0 : decode cX12_judged 0 = .ok (.iconst 0, 1) := by decide +kernel
theorem gdX12_judged_1 : decode cX12_judged 1 = .ok (.istore 4, 2) := by decide +kernel
theorem gdX12_judged_3 : decode cX12_judged 3 = .ok (.aload_n 0, 1) := by decide +kernel
theorem gdX12_judged_4 : decode cX12_judged 4 = .ok (.iload_n 1, 1) := by decide +kernel
theorem gdX12_judged_5 : decode cX12_judged 5 = .ok (.invokevirtual 340, 3) := by decide +kernel
theorem gdX12_judged_8 : decode cX12_judged 8 = .ok (.lstore 5, 2) := by decide +kernel
theorem gdX12_judged_10 : decode cX12_judged 10 = .ok (.iconst 0, 1) := by decide +kernel
theorem gdX12_judged_11 : decode cX12_judged 11 = .ok (.istore 7, 2) := by decide +kernel
theorem gdX12_best_14 : decode cX12_best 14 = .ok (.iconst (-1), 1) := by decide +kernel
theorem gdX12_best_15 : decode cX12_best 15 = .ok (.ireturn, 1) := by decide +kernel
theorem gdX12_best_128 : decode cX12_best 128 = .ok (.ireturn, 1) := by decide +kernel
theorem gdX12_best_110 : decode cX12_best 110 = .ok (.iload 4, 2) := by decide +kernel
theorem gdX12_best_112 : decode cX12_best 112 = .ok (.ifCond .ge 8, 3) := by decide +kernel
theorem gdX12_best_120 : decode cX12_best 120 = .ok (.aload_n 0, 1) := by decide +kernel
theorem gdX12_best_121 : decode cX12_best 121 = .ok (.iload 5, 2) := by decide +kernel
theorem gdX12_best_123 : decode cX12_best 123 = .ok (.iload 4, 2) := by decide +kernel
theorem gdX12_best_125 : decode cX12_best 125 = .ok (.invokevirtual 290, 3) := by decide +kernel
theorem gdX12_best_115 : decode cX12_best 115 = .ok (.bipush (-9), 2) := by decide +kernel
theorem gdX12_best_117 : decode cX12_best 117 = .ok (.goto 11, 3) := by decide +kernel
theorem gdX12_best_104 : decode cX12_best 104 = .ok (.iinc 6 1, 3) := by decide +kernel
theorem gdX12_best_107 : decode cX12_best 107 = .ok (.goto (-68), 3) := by decide +kernel
theorem gdX12_best_96 : decode cX12_best 96 = .ok (.iload 6, 2) := by decide +kernel
theorem gdX12_best_98 : decode cX12_best 98 = .ok (.istore 4, 2) := by decide +kernel
theorem gdX12_best_100 : decode cX12_best 100 = .ok (.iload 7, 2) := by decide +kernel
theorem gdX12_best_102 : decode cX12_best 102 = .ok (.istore 5, 2) := by decide +kernel
theorem gdX12_best_71 : decode cX12_best 71 = .ok (.istore 7, 2) := by decide +kernel
theorem gdX12_best_73 : decode cX12_best 73 = .ok (.aload_n 0, 1) := by decide +kernel
theorem gdX12_best_74 : decode cX12_best 74 = .ok (.getfield 83, 3) := by decide +kernel
theorem gdX12_best_77 : decode cX12_best 77 = .ok (.iload 6, 2) := by decide +kernel
theorem gdX12_best_79 : decode cX12_best 79 = .ok (.iaload, 1) := by decide +kernel
theorem gdX12_best_80 : decode cX12_best 80 = .ok (.iconst 1, 1) := by decide +kernel
theorem gdX12_best_81 : decode cX12_best 81 = .ok (.if_icmp .ne 23, 3) := by decide +kernel
theorem gdX12_best_84 : decode cX12_best 84 = .ok (.iload 4, 2) := by decide +kernel
theorem gdX12_best_86 : decode cX12_best 86 = .ok (.ifCond .lt 10, 3) := by decide +kernel
theorem gdX12_best_89 : decode cX12_best 89 = .ok (.iload 7, 2) := by decide +kernel
theorem gdX12_best_91 : decode cX12_best 91 = .ok (.iload 5, 2) := by decide +kernel
theorem gdX12_best_93 : decode cX12_best 93 = .ok (.if_icmp .ge 11, 3) := by decide +kernel
theorem gdX12_best_39 : decode cX12_best 39 = .ok (.iload 6, 2) := by decide +kernel
theorem gdX12_best_41 : decode cX12_best 41 = .ok (.aload_n 0, 1) := by decide +kernel
theorem gdX12_best_42 : decode cX12_best 42 = .ok (.getfield 305, 3) := by decide +kernel
theorem gdX12_best_45 : decode cX12_best 45 = .ok (.if_icmp .ge 65, 3) := by decide +kernel
theorem gdX12_best_48 : decode cX12_best 48 = .ok (.aload_n 0, 1) := by decide +kernel
theorem gdX12_best_49 : decode cX12_best 49 = .ok (.getfield 83, 3) := by decide +kernel
theorem gdX12_best_52 : decode cX12_best 52 = .ok (.iload 6, 2) := by decide +kernel
theorem gdX12_best_54 : decode cX12_best 54 = .ok (.iaload, 1) := by decide +kernel
theorem gdX12_best_55 : decode cX12_best 55 = .ok (.iconst 1, 1) := by decide +kernel
theorem gdX12_best_56 : decode cX12_best 56 = .ok (.if_icmp .ne 14, 3) := by decide +kernel
theorem gdX12_best_70 : decode cX12_best 70 = .ok (.iconst 0, 1) := by decide +kernel
theorem gdX12_best_59 : decode cX12_best 59 = .ok (.aload_n 0, 1) := by decide +kernel
theorem gdX12_best_60 : decode cX12_best 60 = .ok (.iload 6, 2) := by decide +kernel
theorem gdX12_best_62 : decode cX12_best 62 = .ok (.iload_n 1, 1) := by decide +kernel
theorem gdX12_best_63 : decode cX12_best 63 = .ok (.iload_n 2, 1) := by decide +kernel
theorem gdX12_best_64 : decode cX12_best 64 = .ok (.invokevirtual 440, 3) := by decide +kernel
theorem gdX12_best_67 : decode cX12_best 67 = .ok (.goto 4, 3) := by decide +kernel
theorem gdX12_best_0 : decode cX12_best 0 = .ok (.iload_n 1, 1) := by decide +kernel
theorem gdX12_best_1 : decode cX12_best 1 = .ok (.invokestatic 212, 3) := by decide +kernel
theorem gdX12_best_4 : decode cX12_best 4 = .ok (.ifCond .eq 10, 3) := by decide +kernel
theorem gdX12_best_7 : decode cX12_best 7 = .ok (.iload_n 2, 1) := by decide +kernel
theorem gdX12_best_8 : decode cX12_best 8 = .ok (.invokestatic 212, 3) := by decide +kernel
theorem gdX12_best_11 : decode cX12_best 11 = .ok (.ifCond .ne 5, 3) := by decide +kernel
theorem gdX12_best_16 : decode cX12_best 16 = .ok (.aload_n 0, 1) := by decide +kernel
theorem gdX12_best_17 : decode cX12_best 17 = .ok (.iload_n 1, 1) := by decide +kernel
theorem gdX12_best_18 : decode cX12_best 18 = .ok (.iload_n 2, 1) := by decide +kernel
theorem gdX12_best_19 : decode cX12_best 19 = .ok (.invokevirtual 437, 3) := by decide +kernel
theorem gdX12_best_22 : decode cX12_best 22 = .ok (.istore_n 3, 1) := by decide +kernel
theorem gdX12_best_23 : decode cX12_best 23 = .ok (.iload_n 3, 1) := by decide +kernel
theorem gdX12_best_24 : decode cX12_best 24 = .ok (.ifCond .ge 5, 3) := by decide +kernel
theorem gdX12_best_29 : decode cX12_best 29 = .ok (.bipush (-9), 2) := by decide +kernel
theorem gdX12_best_31 : decode cX12_best 31 = .ok (.istore 4, 2) := by decide +kernel
theorem gdX12_best_33 : decode cX12_best 33 = .ok (.iconst 0, 1) := by decide +kernel
theorem gdX12_best_34 : decode cX12_best 34 = .ok (.istore 5, 2) := by decide +kernel
theorem gdX12_best_36 : decode cX12_best 36 = .ok (.iconst 0, 1) := by decide +kernel
theorem gdX12_best_37 : decode cX12_best 37 = .ok (.istore 6, 2) := by decide +kernel
theorem gdX12_best_27 : decode cX12_best 27 = .ok (.iload_n 3, 1) := by decide +kernel
theorem gdX12_best_28 : decode cX12_best 28 = .ok (.ireturn, 1) := by decide +kernel
theorem gdX12_isCell_0 : decode cX12_isCell 0 = .ok (.iload_n 0, 1) := by decide +kernel
theorem gdX12_isCell_1 : decode cX12_isCell 1 = .ok (.iconst 0, 1) := by decide +kernel
theorem gdX12_isCell_2 : decode cX12_isCell 2 = .ok (.bipush 63, 2) := by decide +kernel
theorem gdX12_isCell_4 : decode cX12_isCell 4 = .ok (.invokestatic 208, 3) := by decide +kernel
theorem gdX12_isCell_7 : decode cX12_isCell 7 = .ok (.ireturn, 1) := by decide +kernel
theorem gdX12_isWorth_0 : decode cX12_isWorth 0 = .ok (.iload_n 0, 1) := by decide +kernel
theorem gdX12_isWorth_1 : decode cX12_isWorth 1 = .ok (.iconst 1, 1) := by decide +kernel
theorem gdX12_isWorth_2 : decode cX12_isWorth 2 = .ok (.ldc_w 266, 3) := by decide +kernel
theorem gdX12_isWorth_5 : decode cX12_isWorth 5 = .ok (.invokestatic 208, 3) := by decide +kernel
theorem gdX12_isWorth_8 : decode cX12_isWorth 8 = .ok (.ireturn, 1) := by decide +kernel
theorem gdX12_on_44 : decode cX12_on 44 = .ok (.iload_n 2, 1) := by decide +kernel
theorem gdX12_on_45 : decode cX12_on 45 = .ok (.ireturn, 1) := by decide +kernel
theorem gdX12_on_37 : decode cX12_on 37 = .ok (.istore_n 2, 1) := by decide +kernel
theorem gdX12_on_38 : decode cX12_on 38 = .ok (.iinc 3 1, 3) := by decide +kernel
theorem gdX12_on_41 : decode cX12_on 41 = .ok (.goto (-36), 3) := by decide +kernel
theorem gdX12_on_36 : decode cX12_on 36 = .ok (.iload_n 2, 1) := by decide +kernel
theorem gdX12_on_5 : decode cX12_on 5 = .ok (.iload_n 3, 1) := by decide +kernel
theorem gdX12_on_6 : decode cX12_on 6 = .ok (.aload_n 0, 1) := by decide +kernel
theorem gdX12_on_7 : decode cX12_on 7 = .ok (.getfield 254, 3) := by decide +kernel
theorem gdX12_on_10 : decode cX12_on 10 = .ok (.if_icmp .ge 34, 3) := by decide +kernel
theorem gdX12_on_13 : decode cX12_on 13 = .ok (.aload_n 0, 1) := by decide +kernel
theorem gdX12_on_14 : decode cX12_on 14 = .ok (.getfield 46, 3) := by decide +kernel
theorem gdX12_on_17 : decode cX12_on 17 = .ok (.iload_n 3, 1) := by decide +kernel
theorem gdX12_on_18 : decode cX12_on 18 = .ok (.iaload, 1) := by decide +kernel
theorem gdX12_on_19 : decode cX12_on 19 = .ok (.iload_n 1, 1) := by decide +kernel
theorem gdX12_on_20 : decode cX12_on 20 = .ok (.if_icmp .ne 16, 3) := by decide +kernel
theorem gdX12_on_23 : decode cX12_on 23 = .ok (.aload_n 0, 1) := by decide +kernel
theorem gdX12_on_24 : decode cX12_on 24 = .ok (.getfield 55, 3) := by decide +kernel
theorem gdX12_on_27 : decode cX12_on 27 = .ok (.iload_n 3, 1) := by decide +kernel
theorem gdX12_on_28 : decode cX12_on 28 = .ok (.baload, 1) := by decide +kernel
theorem gdX12_on_29 : decode cX12_on 29 = .ok (.ifCond .ne 7, 3) := by decide +kernel
theorem gdX12_on_32 : decode cX12_on 32 = .ok (.iload_n 3, 1) := by decide +kernel
theorem gdX12_on_33 : decode cX12_on 33 = .ok (.goto 4, 3) := by decide +kernel
theorem gdX12_on_0 : decode cX12_on 0 = .ok (.bipush (-9), 2) := by decide +kernel
theorem gdX12_on_2 : decode cX12_on 2 = .ok (.istore_n 2, 1) := by decide +kernel
theorem gdX12_on_3 : decode cX12_on 3 = .ok (.iconst 0, 1) := by decide +kernel
theorem gdX12_on_4 : decode cX12_on 4 = .ok (.istore_n 3, 1) := by decide +kernel
theorem gdX12_tell_0 : decode cX12_tell 0 = .ok (.aload_n 0, 1) := by decide +kernel
theorem gdX12_tell_1 : decode cX12_tell 1 = .ok (.getfield 62, 3) := by decide +kernel
theorem gdX12_tell_4 : decode cX12_tell 4 = .ok (.aload_n 0, 1) := by decide +kernel
theorem gdX12_tell_5 : decode cX12_tell 5 = .ok (.getfield 263, 3) := by decide +kernel
theorem gdX12_tell_8 : decode cX12_tell 8 = .ok (.iload_n 1, 1) := by decide +kernel
theorem gdX12_tell_9 : decode cX12_tell 9 = .ok (.iastore, 1) := by decide +kernel
theorem gdX12_tell_10 : decode cX12_tell 10 = .ok (.aload_n 0, 1) := by decide +kernel
theorem gdX12_tell_11 : decode cX12_tell 11 = .ok (.getfield 65, 3) := by decide +kernel
theorem gdX12_tell_14 : decode cX12_tell 14 = .ok (.aload_n 0, 1) := by decide +kernel
theorem gdX12_tell_15 : decode cX12_tell 15 = .ok (.getfield 263, 3) := by decide +kernel
theorem gdX12_tell_18 : decode cX12_tell 18 = .ok (.aload_n 0, 1) := by decide +kernel
theorem gdX12_tell_19 : decode cX12_tell 19 = .ok (.getfield 229, 3) := by decide +kernel
theorem gdX12_tell_22 : decode cX12_tell 22 = .ok (.iastore, 1) := by decide +kernel
theorem gdX12_tell_23 : decode cX12_tell 23 = .ok (.aload_n 0, 1) := by decide +kernel
theorem gdX12_tell_24 : decode cX12_tell 24 = .ok (.getfield 68, 3) := by decide +kernel
theorem gdX12_tell_27 : decode cX12_tell 27 = .ok (.aload_n 0, 1) := by decide +kernel
theorem gdX12_tell_28 : decode cX12_tell 28 = .ok (.getfield 263, 3) := by decide +kernel
theorem gdX12_tell_31 : decode cX12_tell 31 = .ok (.iload_n 2, 1) := by decide +kernel
theorem gdX12_tell_32 : decode cX12_tell 32 = .ok (.iastore, 1) := by decide +kernel
theorem gdX12_tell_33 : decode cX12_tell 33 = .ok (.aload_n 0, 1) := by decide +kernel
theorem gdX12_tell_34 : decode cX12_tell 34 = .ok (.dup, 1) := by decide +kernel
theorem gdX12_tell_35 : decode cX12_tell 35 = .ok (.getfield 263, 3) := by decide +kernel
theorem gdX12_tell_38 : decode cX12_tell 38 = .ok (.iconst 1, 1) := by decide +kernel
theorem gdX12_tell_39 : decode cX12_tell 39 = .ok (.iadd, 1) := by decide +kernel
theorem gdX12_tell_40 : decode cX12_tell 40 = .ok (.putfield 263, 3) := by decide +kernel
theorem gdX12_tell_43 : decode cX12_tell 43 = .ok (.return_, 1) := by decide +kernel
theorem gdX12_building_34 : decode cX12_building 34 = .ok (.iconst (-1), 1) := by decide +kernel
theorem gdX12_building_35 : decode cX12_building 35 = .ok (.ireturn, 1) := by decide +kernel
theorem gdX12_building_54 : decode cX12_building 54 = .ok (.bipush (-2), 2) := by decide +kernel
theorem gdX12_building_56 : decode cX12_building 56 = .ok (.ireturn, 1) := by decide +kernel
theorem gdX12_building_75 : decode cX12_building 75 = .ok (.bipush (-4), 2) := by decide +kernel
theorem gdX12_building_77 : decode cX12_building 77 = .ok (.ireturn, 1) := by decide +kernel
theorem gdX12_building_0 : decode cX12_building 0 = .ok (.iload_n 1, 1) := by decide +kernel
theorem gdX12_building_1 : decode cX12_building 1 = .ok (.invokestatic 257, 3) := by decide +kernel
theorem gdX12_building_4 : decode cX12_building 4 = .ok (.ifCond .eq 30, 3) := by decide +kernel
theorem gdX12_building_7 : decode cX12_building 7 = .ok (.iload_n 2, 1) := by decide +kernel
theorem gdX12_building_8 : decode cX12_building 8 = .ok (.iconst 0, 1) := by decide +kernel
theorem gdX12_building_9 : decode cX12_building 9 = .ok (.iconst 2, 1) := by decide +kernel
theorem gdX12_building_10 : decode cX12_building 10 = .ok (.invokestatic 208, 3) := by decide +kernel
theorem gdX12_building_13 : decode cX12_building 13 = .ok (.ifCond .eq 21, 3) := by decide +kernel
theorem gdX12_building_16 : decode cX12_building 16 = .ok (.iload_n 3, 1) := by decide +kernel
theorem gdX12_building_17 : decode cX12_building 17 = .ok (.iconst 0, 1) := by decide +kernel
theorem gdX12_building_18 : decode cX12_building 18 = .ok (.bipush 20, 2) := by decide +kernel
theorem gdX12_building_20 : decode cX12_building 20 = .ok (.invokestatic 208, 3) := by decide +kernel
theorem gdX12_building_23 : decode cX12_building 23 = .ok (.ifCond .eq 11, 3) := by decide +kernel
theorem gdX12_building_26 : decode cX12_building 26 = .ok (.iload 4, 2) := by decide +kernel
theorem gdX12_building_28 : decode cX12_building 28 = .ok (.invokestatic 267, 3) := by decide +kernel
theorem gdX12_building_31 : decode cX12_building 31 = .ok (.ifCond .ne 5, 3) := by decide +kernel
theorem gdX12_building_36 : decode cX12_building 36 = .ok (.aload_n 0, 1) := by decide +kernel
theorem gdX12_building_37 : decode cX12_building 37 = .ok (.getfield 254, 3) := by decide +kernel
theorem gdX12_building_40 : decode cX12_building 40 = .ok (.bipush 32, 2) := by decide +kernel
theorem gdX12_building_42 : decode cX12_building 42 = .ok (.if_icmp .eq 12, 3) := by decide +kernel
theorem gdX12_building_45 : decode cX12_building 45 = .ok (.aload_n 0, 1) := by decide +kernel
theorem gdX12_building_46 : decode cX12_building 46 = .ok (.getfield 263, 3) := by decide +kernel
theorem gdX12_building_49 : decode cX12_building 49 = .ok (.bipush 100, 2) := by decide +kernel
theorem gdX12_building_51 : decode cX12_building 51 = .ok (.if_icmp .ne 6, 3) := by decide +kernel
theorem gdX12_building_57 : decode cX12_building 57 = .ok (.aload_n 0, 1) := by decide +kernel
theorem gdX12_building_58 : decode cX12_building 58 = .ok (.getfield 40, 3) := by decide +kernel
theorem gdX12_building_61 : decode cX12_building 61 = .ok (.iload_n 1, 1) := by decide +kernel
theorem gdX12_building_62 : decode cX12_building 62 = .ok (.iaload, 1) := by decide +kernel
theorem gdX12_building_63 : decode cX12_building 63 = .ok (.iconst 4, 1) := by decide +kernel
theorem gdX12_building_64 : decode cX12_building 64 = .ok (.if_icmp .eq 11, 3) := by decide +kernel
theorem gdX12_building_67 : decode cX12_building 67 = .ok (.aload_n 0, 1) := by decide +kernel
theorem gdX12_building_68 : decode cX12_building 68 = .ok (.iload_n 1, 1) := by decide +kernel
theorem gdX12_building_69 : decode cX12_building 69 = .ok (.invokevirtual 260, 3) := by decide +kernel
theorem gdX12_building_72 : decode cX12_building 72 = .ok (.ifCond .lt 6, 3) := by decide +kernel
theorem gdX12_building_78 : decode cX12_building 78 = .ok (.aload_n 0, 1) := by decide +kernel
theorem gdX12_building_79 : decode cX12_building 79 = .ok (.getfield 46, 3) := by decide +kernel
theorem gdX12_building_82 : decode cX12_building 82 = .ok (.aload_n 0, 1) := by decide +kernel
theorem gdX12_building_83 : decode cX12_building 83 = .ok (.getfield 254, 3) := by decide +kernel
theorem gdX12_building_86 : decode cX12_building 86 = .ok (.iload_n 1, 1) := by decide +kernel
theorem gdX12_building_87 : decode cX12_building 87 = .ok (.iastore, 1) := by decide +kernel
theorem gdX12_building_88 : decode cX12_building 88 = .ok (.aload_n 0, 1) := by decide +kernel
theorem gdX12_building_89 : decode cX12_building 89 = .ok (.getfield 49, 3) := by decide +kernel
theorem gdX12_building_92 : decode cX12_building 92 = .ok (.aload_n 0, 1) := by decide +kernel
theorem gdX12_building_93 : decode cX12_building 93 = .ok (.getfield 254, 3) := by decide +kernel
theorem gdX12_building_96 : decode cX12_building 96 = .ok (.iload_n 2, 1) := by decide +kernel
theorem gdX12_building_97 : decode cX12_building 97 = .ok (.iastore, 1) := by decide +kernel
theorem gdX12_building_98 : decode cX12_building 98 = .ok (.aload_n 0, 1) := by decide +kernel
theorem gdX12_building_99 : decode cX12_building 99 = .ok (.getfield 52, 3) := by decide +kernel
theorem gdX12_building_102 : decode cX12_building 102 = .ok (.aload_n 0, 1) := by decide +kernel
theorem gdX12_building_103 : decode cX12_building 103 = .ok (.getfield 254, 3) := by decide +kernel
theorem gdX12_building_106 : decode cX12_building 106 = .ok (.iload_n 3, 1) := by decide +kernel
theorem gdX12_building_107 : decode cX12_building 107 = .ok (.iastore, 1) := by decide +kernel
theorem gdX12_building_108 : decode cX12_building 108 = .ok (.aload_n 0, 1) := by decide +kernel
theorem gdX12_building_109 : decode cX12_building 109 = .ok (.getfield 59, 3) := by decide +kernel
theorem gdX12_building_112 : decode cX12_building 112 = .ok (.aload_n 0, 1) := by decide +kernel
theorem gdX12_building_113 : decode cX12_building 113 = .ok (.getfield 254, 3) := by decide +kernel
theorem gdX12_building_116 : decode cX12_building 116 = .ok (.bipush (-9), 2) := by decide +kernel
theorem gdX12_building_118 : decode cX12_building 118 = .ok (.iastore, 1) := by decide +kernel
theorem gdX12_building_119 : decode cX12_building 119 = .ok (.aload_n 0, 1) := by decide +kernel
theorem gdX12_building_120 : decode cX12_building 120 = .ok (.aload_n 0, 1) := by decide +kernel
theorem gdX12_building_121 : decode cX12_building 121 = .ok (.getfield 254, 3) := by decide +kernel
theorem gdX12_building_124 : decode cX12_building 124 = .ok (.iload 4, 2) := by decide +kernel
theorem gdX12_building_126 : decode cX12_building 126 = .ok (.invokevirtual 270, 3) := by decide +kernel
theorem gdX12_building_129 : decode cX12_building 129 = .ok (.aload_n 0, 1) := by decide +kernel
theorem gdX12_building_130 : decode cX12_building 130 = .ok (.dup, 1) := by decide +kernel
theorem gdX12_building_131 : decode cX12_building 131 = .ok (.getfield 254, 3) := by decide +kernel
theorem gdX12_building_134 : decode cX12_building 134 = .ok (.iconst 1, 1) := by decide +kernel
theorem gdX12_building_135 : decode cX12_building 135 = .ok (.iadd, 1) := by decide +kernel
theorem gdX12_building_136 : decode cX12_building 136 = .ok (.putfield 254, 3) := by decide +kernel
theorem gdX12_building_139 : decode cX12_building 139 = .ok (.aload_n 0, 1) := by decide +kernel
theorem gdX12_building_140 : decode cX12_building 140 = .ok (.getfield 254, 3) := by decide +kernel
theorem gdX12_building_143 : decode cX12_building 143 = .ok (.iconst 1, 1) := by decide +kernel
theorem gdX12_building_144 : decode cX12_building 144 = .ok (.isub, 1) := by decide +kernel
theorem gdX12_building_145 : decode cX12_building 145 = .ok (.ireturn, 1) := by decide +kernel
theorem gdX12_isBuilding_0 : decode cX12_isBuilding 0 = .ok (.iload_n 1, 1) := by decide +kernel
theorem gdX12_isBuilding_1 : decode cX12_isBuilding 1 = .ok (.iconst 0, 1) := by decide +kernel
theorem gdX12_isBuilding_2 : decode cX12_isBuilding 2 = .ok (.aload_n 0, 1) := by decide +kernel
theorem gdX12_isBuilding_3 : decode cX12_isBuilding 3 = .ok (.getfield 254, 3) := by decide +kernel
theorem gdX12_isBuilding_6 : decode cX12_isBuilding 6 = .ok (.iconst 1, 1) := by decide +kernel
theorem gdX12_isBuilding_7 : decode cX12_isBuilding 7 = .ok (.isub, 1) := by decide +kernel
theorem gdX12_isBuilding_8 : decode cX12_isBuilding 8 = .ok (.invokestatic 208, 3) := by decide +kernel
theorem gdX12_isBuilding_11 : decode cX12_isBuilding 11 = .ok (.ireturn, 1) := by decide +kernel
theorem gdX12_isPerson_0 : decode cX12_isPerson 0 = .ok (.iload_n 1, 1) := by decide +kernel
theorem gdX12_isPerson_1 : decode cX12_isPerson 1 = .ok (.iconst 0, 1) := by decide +kernel
theorem gdX12_isPerson_2 : decode cX12_isPerson 2 = .ok (.aload_n 0, 1) := by decide +kernel
theorem gdX12_isPerson_3 : decode cX12_isPerson 3 = .ok (.getfield 281, 3) := by decide +kernel
theorem gdX12_isPerson_6 : decode cX12_isPerson 6 = .ok (.iconst 1, 1) := by decide +kernel
theorem gdX12_isPerson_7 : decode cX12_isPerson 7 = .ok (.isub, 1) := by decide +kernel
theorem gdX12_isPerson_8 : decode cX12_isPerson 8 = .ok (.invokestatic 208, 3) := by decide +kernel
theorem gdX12_isPerson_11 : decode cX12_isPerson 11 = .ok (.ireturn, 1) := by decide +kernel
theorem gdX12_buy_16 : decode cX12_buy 16 = .ok (.iconst (-1), 1) := by decide +kernel
theorem gdX12_buy_17 : decode cX12_buy 17 = .ok (.ireturn, 1) := by decide +kernel
theorem gdX12_buy_0 : decode cX12_buy 0 = .ok (.aload_n 0, 1) := by decide +kernel
theorem gdX12_buy_1 : decode cX12_buy 1 = .ok (.iload_n 1, 1) := by decide +kernel
theorem gdX12_buy_2 : decode cX12_buy 2 = .ok (.invokevirtual 274, 3) := by decide +kernel
theorem gdX12_buy_5 : decode cX12_buy 5 = .ok (.ifCond .eq 11, 3) := by decide +kernel
theorem gdX12_buy_8 : decode cX12_buy 8 = .ok (.aload_n 0, 1) := by decide +kernel
theorem gdX12_buy_9 : decode cX12_buy 9 = .ok (.iload_n 2, 1) := by decide +kernel
theorem gdX12_buy_10 : decode cX12_buy 10 = .ok (.invokevirtual 296, 3) := by decide +kernel
theorem gdX12_buy_13 : decode cX12_buy 13 = .ok (.ifCond .ne 5, 3) := by decide +kernel
theorem gdX12_buy_18 : decode cX12_buy 18 = .ok (.aload_n 0, 1) := by decide +kernel
theorem gdX12_buy_19 : decode cX12_buy 19 = .ok (.getfield 368, 3) := by decide +kernel
theorem gdX12_buy_22 : decode cX12_buy 22 = .ok (.bipush 40, 2) := by decide +kernel
theorem gdX12_buy_24 : decode cX12_buy 24 = .ok (.if_icmp .ne 6, 3) := by decide +kernel
theorem gdX12_buy_30 : decode cX12_buy 30 = .ok (.aload_n 0, 1) := by decide +kernel
theorem gdX12_buy_31 : decode cX12_buy 31 = .ok (.getfield 55, 3) := by decide +kernel
theorem gdX12_buy_34 : decode cX12_buy 34 = .ok (.iload_n 1, 1) := by decide +kernel
theorem gdX12_buy_35 : decode cX12_buy 35 = .ok (.baload, 1) := by decide +kernel
theorem gdX12_buy_36 : decode cX12_buy 36 = .ok (.ifCond .eq 6, 3) := by decide +kernel
theorem gdX12_buy_42 : decode cX12_buy 42 = .ok (.aload_n 0, 1) := by decide +kernel
theorem gdX12_buy_43 : decode cX12_buy 43 = .ok (.getfield 129, 3) := by decide +kernel
theorem gdX12_buy_46 : decode cX12_buy 46 = .ok (.aload_n 0, 1) := by decide +kernel
theorem gdX12_buy_47 : decode cX12_buy 47 = .ok (.getfield 368, 3) := by decide +kernel
theorem gdX12_buy_50 : decode cX12_buy 50 = .ok (.iload_n 1, 1) := by decide +kernel
theorem gdX12_buy_51 : decode cX12_buy 51 = .ok (.iastore, 1) := by decide +kernel
theorem gdX12_buy_52 : decode cX12_buy 52 = .ok (.aload_n 0, 1) := by decide +kernel
theorem gdX12_buy_53 : decode cX12_buy 53 = .ok (.getfield 132, 3) := by decide +kernel
theorem gdX12_buy_56 : decode cX12_buy 56 = .ok (.aload_n 0, 1) := by decide +kernel
theorem gdX12_buy_57 : decode cX12_buy 57 = .ok (.getfield 368, 3) := by decide +kernel
theorem gdX12_buy_60 : decode cX12_buy 60 = .ok (.iload_n 2, 1) := by decide +kernel
theorem gdX12_buy_61 : decode cX12_buy 61 = .ok (.iastore, 1) := by decide +kernel
theorem gdX12_buy_62 : decode cX12_buy 62 = .ok (.aload_n 0, 1) := by decide +kernel
theorem gdX12_buy_63 : decode cX12_buy 63 = .ok (.getfield 135, 3) := by decide +kernel
theorem gdX12_buy_66 : decode cX12_buy 66 = .ok (.aload_n 0, 1) := by decide +kernel
theorem gdX12_buy_67 : decode cX12_buy 67 = .ok (.getfield 368, 3) := by decide +kernel
theorem gdX12_buy_70 : decode cX12_buy 70 = .ok (.aload_n 0, 1) := by decide +kernel
theorem gdX12_buy_71 : decode cX12_buy 71 = .ok (.getfield 229, 3) := by decide +kernel
theorem gdX12_buy_74 : decode cX12_buy 74 = .ok (.iastore, 1) := by decide +kernel
theorem gdX12_buy_75 : decode cX12_buy 75 = .ok (.aload_n 0, 1) := by decide +kernel
theorem gdX12_buy_76 : decode cX12_buy 76 = .ok (.dup, 1) := by decide +kernel
theorem gdX12_buy_77 : decode cX12_buy 77 = .ok (.getfield 368, 3) := by decide +kernel
theorem gdX12_buy_80 : decode cX12_buy 80 = .ok (.iconst 1, 1) := by decide +kernel
theorem gdX12_buy_81 : decode cX12_buy 81 = .ok (.iadd, 1) := by decide +kernel
theorem gdX12_buy_82 : decode cX12_buy 82 = .ok (.putfield 368, 3) := by decide +kernel
theorem gdX12_buy_85 : decode cX12_buy 85 = .ok (.aload_n 0, 1) := by decide +kernel
theorem gdX12_buy_86 : decode cX12_buy 86 = .ok (.getfield 59, 3) := by decide +kernel
theorem gdX12_buy_89 : decode cX12_buy 89 = .ok (.iload_n 1, 1) := by decide +kernel
theorem gdX12_buy_90 : decode cX12_buy 90 = .ok (.iload_n 2, 1) := by decide +kernel
theorem gdX12_buy_91 : decode cX12_buy 91 = .ok (.iastore, 1) := by decide +kernel
theorem gdX12_buy_92 : decode cX12_buy 92 = .ok (.aload_n 0, 1) := by decide +kernel
theorem gdX12_buy_93 : decode cX12_buy 93 = .ok (.getfield 368, 3) := by decide +kernel
theorem gdX12_buy_96 : decode cX12_buy 96 = .ok (.ireturn, 1) := by decide +kernel
theorem gdX12_buy_39 : decode cX12_buy 39 = .ok (.bipush (-4), 2) := by decide +kernel
theorem gdX12_buy_41 : decode cX12_buy 41 = .ok (.ireturn, 1) := by decide +kernel
theorem gdX12_buy_27 : decode cX12_buy 27 = .ok (.bipush (-2), 2) := by decide +kernel
theorem gdX12_buy_29 : decode cX12_buy 29 = .ok (.ireturn, 1) := by decide +kernel
theorem gdX12_cell_26 : decode cX12_cell 26 = .ok (.iconst (-1), 1) := by decide +kernel
theorem gdX12_cell_27 : decode cX12_cell 27 = .ok (.ireturn, 1) := by decide +kernel
theorem gdX12_cell_44 : decode cX12_cell 44 = .ok (.aload_n 0, 1) := by decide +kernel
theorem gdX12_cell_45 : decode cX12_cell 45 = .ok (.getfield 40, 3) := by decide +kernel
theorem gdX12_cell_48 : decode cX12_cell 48 = .ok (.iload_n 1, 1) := by decide +kernel
theorem gdX12_cell_49 : decode cX12_cell 49 = .ok (.iload_n 2, 1) := by decide +kernel
theorem gdX12_cell_50 : decode cX12_cell 50 = .ok (.iastore, 1) := by decide +kernel
theorem gdX12_cell_51 : decode cX12_cell 51 = .ok (.aload_n 0, 1) := by decide +kernel
theorem gdX12_cell_52 : decode cX12_cell 52 = .ok (.getfield 43, 3) := by decide +kernel
theorem gdX12_cell_55 : decode cX12_cell 55 = .ok (.iload_n 1, 1) := by decide +kernel
theorem gdX12_cell_56 : decode cX12_cell 56 = .ok (.iload_n 3, 1) := by decide +kernel
theorem gdX12_cell_57 : decode cX12_cell 57 = .ok (.iastore, 1) := by decide +kernel
theorem gdX12_cell_58 : decode cX12_cell 58 = .ok (.iconst 1, 1) := by decide +kernel
theorem gdX12_cell_59 : decode cX12_cell 59 = .ok (.ireturn, 1) := by decide +kernel
theorem gdX12_cell_0 : decode cX12_cell 0 = .ok (.iload_n 1, 1) := by decide +kernel
theorem gdX12_cell_1 : decode cX12_cell 1 = .ok (.invokestatic 257, 3) := by decide +kernel
theorem gdX12_cell_4 : decode cX12_cell 4 = .ok (.ifCond .eq 22, 3) := by decide +kernel
theorem gdX12_cell_7 : decode cX12_cell 7 = .ok (.iload_n 2, 1) := by decide +kernel
theorem gdX12_cell_8 : decode cX12_cell 8 = .ok (.iconst 0, 1) := by decide +kernel
theorem gdX12_cell_9 : decode cX12_cell 9 = .ok (.iconst 4, 1) := by decide +kernel
theorem gdX12_cell_10 : decode cX12_cell 10 = .ok (.invokestatic 208, 3) := by decide +kernel
theorem gdX12_cell_13 : decode cX12_cell 13 = .ok (.ifCond .eq 13, 3) := by decide +kernel
theorem gdX12_cell_16 : decode cX12_cell 16 = .ok (.iload_n 3, 1) := by decide +kernel
theorem gdX12_cell_17 : decode cX12_cell 17 = .ok (.iconst 0, 1) := by decide +kernel
theorem gdX12_cell_18 : decode cX12_cell 18 = .ok (.bipush 99, 2) := by decide +kernel
theorem gdX12_cell_20 : decode cX12_cell 20 = .ok (.invokestatic 208, 3) := by decide +kernel
theorem gdX12_cell_23 : decode cX12_cell 23 = .ok (.ifCond .ne 5, 3) := by decide +kernel
theorem gdX12_cell_28 : decode cX12_cell 28 = .ok (.iload_n 2, 1) := by decide +kernel
theorem gdX12_cell_29 : decode cX12_cell 29 = .ok (.iconst 4, 1) := by decide +kernel
theorem gdX12_cell_30 : decode cX12_cell 30 = .ok (.if_icmp .ne 14, 3) := by decide +kernel
theorem gdX12_cell_33 : decode cX12_cell 33 = .ok (.aload_n 0, 1) := by decide +kernel
theorem gdX12_cell_34 : decode cX12_cell 34 = .ok (.iload_n 1, 1) := by decide +kernel
theorem gdX12_cell_35 : decode cX12_cell 35 = .ok (.invokevirtual 260, 3) := by decide +kernel
theorem gdX12_cell_38 : decode cX12_cell 38 = .ok (.ifCond .lt 6, 3) := by decide +kernel
theorem gdX12_cell_41 : decode cX12_cell 41 = .ok (.bipush (-4), 2) := by decide +kernel
theorem gdX12_cell_43 : decode cX12_cell 43 = .ok (.ireturn, 1) := by decide +kernel
theorem gdX12_isMark_0 : decode cX12_isMark 0 = .ok (.iload_n 1, 1) := by decide +kernel
theorem gdX12_isMark_1 : decode cX12_isMark 1 = .ok (.iconst 0, 1) := by decide +kernel
theorem gdX12_isMark_2 : decode cX12_isMark 2 = .ok (.aload_n 0, 1) := by decide +kernel
theorem gdX12_isMark_3 : decode cX12_isMark 3 = .ok (.getfield 305, 3) := by decide +kernel
theorem gdX12_isMark_6 : decode cX12_isMark 6 = .ok (.iconst 1, 1) := by decide +kernel
theorem gdX12_isMark_7 : decode cX12_isMark 7 = .ok (.isub, 1) := by decide +kernel
theorem gdX12_isMark_8 : decode cX12_isMark 8 = .ok (.invokestatic 208, 3) := by decide +kernel
theorem gdX12_isMark_11 : decode cX12_isMark 11 = .ok (.ireturn, 1) := by decide +kernel
theorem gdX12_isLine_25 : decode cX12_isLine 25 = .ok (.ireturn, 1) := by decide +kernel
theorem gdX12_isLine_20 : decode cX12_isLine 20 = .ok (.iconst 1, 1) := by decide +kernel
theorem gdX12_isLine_21 : decode cX12_isLine 21 = .ok (.goto 4, 3) := by decide +kernel
theorem gdX12_isLine_0 : decode cX12_isLine 0 = .ok (.aload_n 0, 1) := by decide +kernel
theorem gdX12_isLine_1 : decode cX12_isLine 1 = .ok (.getfield 83, 3) := by decide +kernel
theorem gdX12_isLine_4 : decode cX12_isLine 4 = .ok (.iload_n 1, 1) := by decide +kernel
theorem gdX12_isLine_5 : decode cX12_isLine 5 = .ok (.iaload, 1) := by decide +kernel
theorem gdX12_isLine_6 : decode cX12_isLine 6 = .ok (.iconst 1, 1) := by decide +kernel
theorem gdX12_isLine_7 : decode cX12_isLine 7 = .ok (.if_icmp .eq 13, 3) := by decide +kernel
theorem gdX12_isLine_10 : decode cX12_isLine 10 = .ok (.aload_n 0, 1) := by decide +kernel
theorem gdX12_isLine_11 : decode cX12_isLine 11 = .ok (.getfield 83, 3) := by decide +kernel
theorem gdX12_isLine_14 : decode cX12_isLine 14 = .ok (.iload_n 1, 1) := by decide +kernel
theorem gdX12_isLine_15 : decode cX12_isLine 15 = .ok (.iaload, 1) := by decide +kernel
theorem gdX12_isLine_16 : decode cX12_isLine 16 = .ok (.iconst 2, 1) := by decide +kernel
theorem gdX12_isLine_17 : decode cX12_isLine 17 = .ok (.if_icmp .ne 7, 3) := by decide +kernel
theorem gdX12_isLine_24 : decode cX12_isLine 24 = .ok (.iconst 0, 1) := by decide +kernel
theorem gdX12_askedLine_29 : decode cX12_askedLine 29 = .ok (.ireturn, 1) := by decide +kernel
theorem gdX12_askedLine_0 : decode cX12_askedLine 0 = .ok (.aload_n 0, 1) := by decide +kernel
theorem gdX12_askedLine_1 : decode cX12_askedLine 1 = .ok (.iload_n 1, 1) := by decide +kernel
theorem gdX12_askedLine_2 : decode cX12_askedLine 2 = .ok (.invokevirtual 308, 3) := by decide +kernel
theorem gdX12_askedLine_5 : decode cX12_askedLine 5 = .ok (.ifCond .ne 7, 3) := by decide +kernel
theorem gdX12_askedLine_12 : decode cX12_askedLine 12 = .ok (.aload_n 0, 1) := by decide +kernel
theorem gdX12_askedLine_13 : decode cX12_askedLine 13 = .ok (.iload_n 1, 1) := by decide +kernel
theorem gdX12_askedLine_14 : decode cX12_askedLine 14 = .ok (.invokevirtual 311, 3) := by decide +kernel
theorem gdX12_askedLine_17 : decode cX12_askedLine 17 = .ok (.ifCond .eq 7, 3) := by decide +kernel
theorem gdX12_askedLine_24 : decode cX12_askedLine 24 = .ok (.aload_n 0, 1) := by decide +kernel
theorem gdX12_askedLine_25 : decode cX12_askedLine 25 = .ok (.iconst 3, 1) := by decide +kernel
theorem gdX12_askedLine_26 : decode cX12_askedLine 26 = .ok (.invokevirtual 216, 3) := by decide +kernel
theorem gdX12_askedLine_20 : decode cX12_askedLine 20 = .ok (.iconst 0, 1) := by decide +kernel
theorem gdX12_askedLine_21 : decode cX12_askedLine 21 = .ok (.goto 8, 3) := by decide +kernel
theorem gdX12_askedLine_8 : decode cX12_askedLine 8 = .ok (.iconst (-1), 1) := by decide +kernel
theorem gdX12_askedLine_9 : decode cX12_askedLine 9 = .ok (.goto 20, 3) := by decide +kernel
theorem gdX12_cellOf_46 : decode cX12_cellOf 46 = .ok (.ireturn, 1) := by decide +kernel
theorem gdX12_cellOf_0 : decode cX12_cellOf 0 = .ok (.aload_n 0, 1) := by decide +kernel
theorem gdX12_cellOf_1 : decode cX12_cellOf 1 = .ok (.iload_n 1, 1) := by decide +kernel
theorem gdX12_cellOf_2 : decode cX12_cellOf 2 = .ok (.invokevirtual 348, 3) := by decide +kernel
theorem gdX12_cellOf_5 : decode cX12_cellOf 5 = .ok (.istore_n 3, 1) := by decide +kernel
theorem gdX12_cellOf_6 : decode cX12_cellOf 6 = .ok (.iload_n 3, 1) := by decide +kernel
theorem gdX12_cellOf_7 : decode cX12_cellOf 7 = .ok (.ifCond .ge 7, 3) := by decide +kernel
theorem gdX12_cellOf_14 : decode cX12_cellOf 14 = .ok (.iload_n 2, 1) := by decide +kernel
theorem gdX12_cellOf_15 : decode cX12_cellOf 15 = .ok (.iconst 0, 1) := by decide +kernel
theorem gdX12_cellOf_16 : decode cX12_cellOf 16 = .ok (.aload_n 0, 1) := by decide +kernel
theorem gdX12_cellOf_17 : decode cX12_cellOf 17 = .ok (.getfield 98, 3) := by decide +kernel
theorem gdX12_cellOf_20 : decode cX12_cellOf 20 = .ok (.iload_n 1, 1) := by decide +kernel
theorem gdX12_cellOf_21 : decode cX12_cellOf 21 = .ok (.iaload, 1) := by decide +kernel
theorem gdX12_cellOf_22 : decode cX12_cellOf 22 = .ok (.iconst 1, 1) := by decide +kernel
theorem gdX12_cellOf_23 : decode cX12_cellOf 23 = .ok (.isub, 1) := by decide +kernel
theorem gdX12_cellOf_24 : decode cX12_cellOf 24 = .ok (.invokestatic 208, 3) := by decide +kernel
theorem gdX12_cellOf_27 : decode cX12_cellOf 27 = .ok (.ifCond .eq 17, 3) := by decide +kernel
theorem gdX12_cellOf_44 : decode cX12_cellOf 44 = .ok (.bipush (-9), 2) := by decide +kernel
theorem gdX12_cellOf_30 : decode cX12_cellOf 30 = .ok (.aload_n 0, 1) := by decide +kernel
theorem gdX12_cellOf_31 : decode cX12_cellOf 31 = .ok (.getfield 101, 3) := by decide +kernel
theorem gdX12_cellOf_34 : decode cX12_cellOf 34 = .ok (.bipush 64, 2) := by decide +kernel
theorem gdX12_cellOf_36 : decode cX12_cellOf 36 = .ok (.iload_n 1, 1) := by decide +kernel
theorem gdX12_cellOf_37 : decode cX12_cellOf 37 = .ok (.imul, 1) := by decide +kernel
theorem gdX12_cellOf_38 : decode cX12_cellOf 38 = .ok (.iload_n 2, 1) := by decide +kernel
theorem gdX12_cellOf_39 : decode cX12_cellOf 39 = .ok (.iadd, 1) := by decide +kernel
theorem gdX12_cellOf_40 : decode cX12_cellOf 40 = .ok (.iaload, 1) := by decide +kernel
theorem gdX12_cellOf_41 : decode cX12_cellOf 41 = .ok (.goto 5, 3) := by decide +kernel
theorem gdX12_cellOf_10 : decode cX12_cellOf 10 = .ok (.iload_n 3, 1) := by decide +kernel
theorem gdX12_cellOf_11 : decode cX12_cellOf 11 = .ok (.goto 35, 3) := by decide +kernel
theorem gdX12_coins_0 : decode cX12_coins 0 = .ok (.aload_n 0, 1) := by decide +kernel
theorem gdX12_coins_1 : decode cX12_coins 1 = .ok (.getfield 413, 3) := by decide +kernel
theorem gdX12_coins_4 : decode cX12_coins 4 = .ok (.lreturn, 1) := by decide +kernel
theorem gdX12_copy_14 : decode cX12_copy 14 = .ok (.iconst (-1), 1) := by decide +kernel
theorem gdX12_copy_15 : decode cX12_copy 15 = .ok (.ireturn, 1) := by decide +kernel
theorem gdX12_copy_45 : decode cX12_copy 45 = .ok (.aload_n 0, 1) := by decide +kernel
theorem gdX12_copy_46 : decode cX12_copy 46 = .ok (.iconst 1, 1) := by decide +kernel
theorem gdX12_copy_47 : decode cX12_copy 47 = .ok (.invokevirtual 216, 3) := by decide +kernel
theorem gdX12_copy_50 : decode cX12_copy 50 = .ok (.ireturn, 1) := by decide +kernel
theorem gdX12_copy_95 : decode cX12_copy 95 = .ok (.aload_n 0, 1) := by decide +kernel
theorem gdX12_copy_96 : decode cX12_copy 96 = .ok (.iconst 2, 1) := by decide +kernel
theorem gdX12_copy_97 : decode cX12_copy 97 = .ok (.invokevirtual 216, 3) := by decide +kernel
theorem gdX12_copy_100 : decode cX12_copy 100 = .ok (.ireturn, 1) := by decide +kernel
theorem gdX12_copy_176 : decode cX12_copy 176 = .ok (.iconst 1, 1) := by decide +kernel
theorem gdX12_copy_177 : decode cX12_copy 177 = .ok (.ireturn, 1) := by decide +kernel
theorem gdX12_copy_141 : decode cX12_copy 141 = .ok (.iload 6, 2) := by decide +kernel
theorem gdX12_copy_143 : decode cX12_copy 143 = .ok (.iload 5, 2) := by decide +kernel
theorem gdX12_copy_145 : decode cX12_copy 145 = .ok (.if_icmp .ge 31, 3) := by decide +kernel
theorem gdX12_copy_148 : decode cX12_copy 148 = .ok (.aload_n 0, 1) := by decide +kernel
theorem gdX12_copy_149 : decode cX12_copy 149 = .ok (.getfield 16, 3) := by decide +kernel
theorem gdX12_copy_152 : decode cX12_copy 152 = .ok (.bipush 40, 2) := by decide +kernel
theorem gdX12_copy_154 : decode cX12_copy 154 = .ok (.iload_n 3, 1) := by decide +kernel
theorem gdX12_copy_155 : decode cX12_copy 155 = .ok (.imul, 1) := by decide +kernel
theorem gdX12_copy_156 : decode cX12_copy 156 = .ok (.iload 4, 2) := by decide +kernel
theorem gdX12_copy_158 : decode cX12_copy 158 = .ok (.iadd, 1) := by decide +kernel
theorem gdX12_copy_159 : decode cX12_copy 159 = .ok (.iload 6, 2) := by decide +kernel
theorem gdX12_copy_161 : decode cX12_copy 161 = .ok (.iadd, 1) := by decide +kernel
theorem gdX12_copy_162 : decode cX12_copy 162 = .ok (.aload_n 0, 1) := by decide +kernel
theorem gdX12_copy_163 : decode cX12_copy 163 = .ok (.getfield 19, 3) := by decide +kernel
theorem gdX12_copy_166 : decode cX12_copy 166 = .ok (.iload 6, 2) := by decide +kernel
theorem gdX12_copy_168 : decode cX12_copy 168 = .ok (.iaload, 1) := by decide +kernel
theorem gdX12_copy_169 : decode cX12_copy 169 = .ok (.iastore, 1) := by decide +kernel
theorem gdX12_copy_170 : decode cX12_copy 170 = .ok (.iinc 6 1, 3) := by decide +kernel
theorem gdX12_copy_173 : decode cX12_copy 173 = .ok (.goto (-32), 3) := by decide +kernel
theorem gdX12_copy_138 : decode cX12_copy 138 = .ok (.iconst 0, 1) := by decide +kernel
theorem gdX12_copy_139 : decode cX12_copy 139 = .ok (.istore 6, 2) := by decide +kernel
theorem gdX12_copy_104 : decode cX12_copy 104 = .ok (.iload 6, 2) := by decide +kernel
theorem gdX12_copy_106 : decode cX12_copy 106 = .ok (.iload 5, 2) := by decide +kernel
theorem gdX12_copy_108 : decode cX12_copy 108 = .ok (.if_icmp .ge 30, 3) := by decide +kernel
theorem gdX12_copy_111 : decode cX12_copy 111 = .ok (.aload_n 0, 1) := by decide +kernel
theorem gdX12_copy_112 : decode cX12_copy 112 = .ok (.getfield 19, 3) := by decide +kernel
theorem gdX12_copy_115 : decode cX12_copy 115 = .ok (.iload 6, 2) := by decide +kernel
theorem gdX12_copy_117 : decode cX12_copy 117 = .ok (.aload_n 0, 1) := by decide +kernel
theorem gdX12_copy_118 : decode cX12_copy 118 = .ok (.getfield 16, 3) := by decide +kernel
theorem gdX12_copy_121 : decode cX12_copy 121 = .ok (.bipush 40, 2) := by decide +kernel
theorem gdX12_copy_123 : decode cX12_copy 123 = .ok (.iload_n 1, 1) := by decide +kernel
theorem gdX12_copy_124 : decode cX12_copy 124 = .ok (.imul, 1) := by decide +kernel
theorem gdX12_copy_125 : decode cX12_copy 125 = .ok (.iload_n 2, 1) := by decide +kernel
theorem gdX12_copy_126 : decode cX12_copy 126 = .ok (.iadd, 1) := by decide +kernel
theorem gdX12_copy_127 : decode cX12_copy 127 = .ok (.iload 6, 2) := by decide +kernel
theorem gdX12_copy_129 : decode cX12_copy 129 = .ok (.iadd, 1) := by decide +kernel
theorem gdX12_copy_130 : decode cX12_copy 130 = .ok (.iaload, 1) := by decide +kernel
theorem gdX12_copy_131 : decode cX12_copy 131 = .ok (.iastore, 1) := by decide +kernel
theorem gdX12_copy_132 : decode cX12_copy 132 = .ok (.iinc 6 1, 3) := by decide +kernel
theorem gdX12_copy_135 : decode cX12_copy 135 = .ok (.goto (-31), 3) := by decide +kernel
theorem gdX12_copy_0 : decode cX12_copy 0 = .ok (.iload_n 1, 1) := by decide +kernel
theorem gdX12_copy_1 : decode cX12_copy 1 = .ok (.invokestatic 212, 3) := by decide +kernel
theorem gdX12_copy_4 : decode cX12_copy 4 = .ok (.ifCond .eq 10, 3) := by decide +kernel
theorem gdX12_copy_7 : decode cX12_copy 7 = .ok (.iload_n 3, 1) := by decide +kernel
theorem gdX12_copy_8 : decode cX12_copy 8 = .ok (.invokestatic 212, 3) := by decide +kernel
theorem gdX12_copy_11 : decode cX12_copy 11 = .ok (.ifCond .ne 5, 3) := by decide +kernel
theorem gdX12_copy_16 : decode cX12_copy 16 = .ok (.iload 5, 2) := by decide +kernel
theorem gdX12_copy_18 : decode cX12_copy 18 = .ok (.ifCond .ge 9, 3) := by decide +kernel
theorem gdX12_copy_27 : decode cX12_copy 27 = .ok (.aload_n 0, 1) := by decide +kernel
theorem gdX12_copy_28 : decode cX12_copy 28 = .ok (.getfield 13, 3) := by decide +kernel
theorem gdX12_copy_31 : decode cX12_copy 31 = .ok (.iload_n 1, 1) := by decide +kernel
theorem gdX12_copy_32 : decode cX12_copy 32 = .ok (.iaload, 1) := by decide +kernel
theorem gdX12_copy_33 : decode cX12_copy 33 = .ok (.ifCond .lt 12, 3) := by decide +kernel
theorem gdX12_copy_36 : decode cX12_copy 36 = .ok (.aload_n 0, 1) := by decide +kernel
theorem gdX12_copy_37 : decode cX12_copy 37 = .ok (.getfield 13, 3) := by decide +kernel
theorem gdX12_copy_40 : decode cX12_copy 40 = .ok (.iload_n 3, 1) := by decide +kernel
theorem gdX12_copy_41 : decode cX12_copy 41 = .ok (.iaload, 1) := by decide +kernel
theorem gdX12_copy_42 : decode cX12_copy 42 = .ok (.ifCond .ge 9, 3) := by decide +kernel
theorem gdX12_copy_51 : decode cX12_copy 51 = .ok (.iload_n 2, 1) := by decide +kernel
theorem gdX12_copy_52 : decode cX12_copy 52 = .ok (.ifCond .lt 43, 3) := by decide +kernel
theorem gdX12_copy_55 : decode cX12_copy 55 = .ok (.iload 4, 2) := by decide +kernel
theorem gdX12_copy_57 : decode cX12_copy 57 = .ok (.ifCond .lt 38, 3) := by decide +kernel
theorem gdX12_copy_60 : decode cX12_copy 60 = .ok (.iload_n 2, 1) := by decide +kernel
theorem gdX12_copy_61 : decode cX12_copy 61 = .ok (.i2l, 1) := by decide +kernel
theorem gdX12_copy_62 : decode cX12_copy 62 = .ok (.iload 5, 2) := by decide +kernel
theorem gdX12_copy_64 : decode cX12_copy 64 = .ok (.i2l, 1) := by decide +kernel
theorem gdX12_copy_65 : decode cX12_copy 65 = .ok (.ladd, 1) := by decide +kernel
theorem gdX12_copy_66 : decode cX12_copy 66 = .ok (.aload_n 0, 1) := by decide +kernel
theorem gdX12_copy_67 : decode cX12_copy 67 = .ok (.getfield 13, 3) := by decide +kernel
theorem gdX12_copy_70 : decode cX12_copy 70 = .ok (.iload_n 1, 1) := by decide +kernel
theorem gdX12_copy_71 : decode cX12_copy 71 = .ok (.iaload, 1) := by decide +kernel
theorem gdX12_copy_72 : decode cX12_copy 72 = .ok (.i2l, 1) := by decide +kernel
theorem gdX12_copy_73 : decode cX12_copy 73 = .ok (.lcmp, 1) := by decide +kernel
theorem gdX12_copy_74 : decode cX12_copy 74 = .ok (.ifCond .gt 21, 3) := by decide +kernel
theorem gdX12_copy_77 : decode cX12_copy 77 = .ok (.iload 4, 2) := by decide +kernel
theorem gdX12_copy_79 : decode cX12_copy 79 = .ok (.i2l, 1) := by decide +kernel
theorem gdX12_copy_80 : decode cX12_copy 80 = .ok (.iload 5, 2) := by decide +kernel
theorem gdX12_copy_82 : decode cX12_copy 82 = .ok (.i2l, 1) := by decide +kernel
theorem gdX12_copy_83 : decode cX12_copy 83 = .ok (.ladd, 1) := by decide +kernel
theorem gdX12_copy_84 : decode cX12_copy 84 = .ok (.aload_n 0, 1) := by decide +kernel
theorem gdX12_copy_85 : decode cX12_copy 85 = .ok (.getfield 13, 3) := by decide +kernel
theorem gdX12_copy_88 : decode cX12_copy 88 = .ok (.iload_n 3, 1) := by decide +kernel
theorem gdX12_copy_89 : decode cX12_copy 89 = .ok (.iaload, 1) := by decide +kernel
theorem gdX12_copy_90 : decode cX12_copy 90 = .ok (.i2l, 1) := by decide +kernel
theorem gdX12_copy_91 : decode cX12_copy 91 = .ok (.lcmp, 1) := by decide +kernel
theorem gdX12_copy_92 : decode cX12_copy 92 = .ok (.ifCond .le 9, 3) := by decide +kernel
theorem gdX12_copy_101 : decode cX12_copy 101 = .ok (.iconst 0, 1) := by decide +kernel
theorem gdX12_copy_102 : decode cX12_copy 102 = .ok (.istore 6, 2) := by decide +kernel
theorem gdX12_copy_21 : decode cX12_copy 21 = .ok (.aload_n 0, 1) := by decide +kernel
theorem gdX12_copy_22 : decode cX12_copy 22 = .ok (.iconst 5, 1) := by decide +kernel
theorem gdX12_copy_23 : decode cX12_copy 23 = .ok (.invokevirtual 216, 3) := by decide +kernel
theorem gdX12_copy_26 : decode cX12_copy 26 = .ok (.ireturn, 1) := by decide +kernel
theorem gdX12_cost_20 : decode cX12_cost 20 = .ok (.ireturn, 1) := by decide +kernel
theorem gdX12_cost_0 : decode cX12_cost 0 = .ok (.aload_n 0, 1) := by decide +kernel
theorem gdX12_cost_1 : decode cX12_cost 1 = .ok (.iload_n 1, 1) := by decide +kernel
theorem gdX12_cost_2 : decode cX12_cost 2 = .ok (.invokevirtual 348, 3) := by decide +kernel
theorem gdX12_cost_5 : decode cX12_cost 5 = .ok (.istore_n 2, 1) := by decide +kernel
theorem gdX12_cost_6 : decode cX12_cost 6 = .ok (.iload_n 2, 1) := by decide +kernel
theorem gdX12_cost_7 : decode cX12_cost 7 = .ok (.ifCond .ge 7, 3) := by decide +kernel
theorem gdX12_cost_14 : decode cX12_cost 14 = .ok (.aload_n 0, 1) := by decide +kernel
theorem gdX12_cost_15 : decode cX12_cost 15 = .ok (.getfield 92, 3) := by decide +kernel
theorem gdX12_cost_18 : decode cX12_cost 18 = .ok (.iload_n 1, 1) := by decide +kernel
theorem gdX12_cost_19 : decode cX12_cost 19 = .ok (.iaload, 1) := by decide +kernel
theorem gdX12_cost_10 : decode cX12_cost 10 = .ok (.iload_n 2, 1) := by decide +kernel
theorem gdX12_cost_11 : decode cX12_cost 11 = .ok (.goto 9, 3) := by decide +kernel
theorem gdX12_counts_90 : decode cX12_counts 90 = .ok (.iload_n 2, 1) := by decide +kernel
theorem gdX12_counts_91 : decode cX12_counts 91 = .ok (.ireturn, 1) := by decide +kernel
theorem gdX12_counts_82 : decode cX12_counts 82 = .ok (.iadd, 1) := by decide +kernel
theorem gdX12_counts_83 : decode cX12_counts 83 = .ok (.istore_n 2, 1) := by decide +kernel
theorem gdX12_counts_84 : decode cX12_counts 84 = .ok (.iinc 3 1, 3) := by decide +kernel
theorem gdX12_counts_87 : decode cX12_counts 87 = .ok (.goto (-28), 3) := by decide +kernel
theorem gdX12_counts_59 : decode cX12_counts 59 = .ok (.iload_n 3, 1) := by decide +kernel
theorem gdX12_counts_60 : decode cX12_counts 60 = .ok (.aload_n 0, 1) := by decide +kernel
theorem gdX12_counts_61 : decode cX12_counts 61 = .ok (.getfield 254, 3) := by decide +kernel
theorem gdX12_counts_64 : decode cX12_counts 64 = .ok (.if_icmp .ge 26, 3) := by decide +kernel
theorem gdX12_counts_67 : decode cX12_counts 67 = .ok (.iload_n 2, 1) := by decide +kernel
theorem gdX12_counts_68 : decode cX12_counts 68 = .ok (.aload_n 0, 1) := by decide +kernel
theorem gdX12_counts_69 : decode cX12_counts 69 = .ok (.getfield 55, 3) := by decide +kernel
theorem gdX12_counts_72 : decode cX12_counts 72 = .ok (.iload_n 3, 1) := by decide +kernel
theorem gdX12_counts_73 : decode cX12_counts 73 = .ok (.baload, 1) := by decide +kernel
theorem gdX12_counts_74 : decode cX12_counts 74 = .ok (.ifCond .eq 7, 3) := by decide +kernel
theorem gdX12_counts_81 : decode cX12_counts 81 = .ok (.iconst 1, 1) := by decide +kernel
theorem gdX12_counts_77 : decode cX12_counts 77 = .ok (.iconst 0, 1) := by decide +kernel
theorem gdX12_counts_78 : decode cX12_counts 78 = .ok (.goto 4, 3) := by decide +kernel
theorem gdX12_counts_130 : decode cX12_counts 130 = .ok (.iload_n 2, 1) := by decide +kernel
theorem gdX12_counts_131 : decode cX12_counts 131 = .ok (.ireturn, 1) := by decide +kernel
theorem gdX12_counts_122 : decode cX12_counts 122 = .ok (.iadd, 1) := by decide +kernel
theorem gdX12_counts_123 : decode cX12_counts 123 = .ok (.istore_n 2, 1) := by decide +kernel
theorem gdX12_counts_124 : decode cX12_counts 124 = .ok (.iinc 3 1, 3) := by decide +kernel
theorem gdX12_counts_127 : decode cX12_counts 127 = .ok (.goto (-28), 3) := by decide +kernel
theorem gdX12_counts_99 : decode cX12_counts 99 = .ok (.iload_n 3, 1) := by decide +kernel
theorem gdX12_counts_100 : decode cX12_counts 100 = .ok (.aload_n 0, 1) := by decide +kernel
theorem gdX12_counts_101 : decode cX12_counts 101 = .ok (.getfield 281, 3) := by decide +kernel
theorem gdX12_counts_104 : decode cX12_counts 104 = .ok (.if_icmp .ge 26, 3) := by decide +kernel
theorem gdX12_counts_107 : decode cX12_counts 107 = .ok (.iload_n 2, 1) := by decide +kernel
theorem gdX12_counts_108 : decode cX12_counts 108 = .ok (.aload_n 0, 1) := by decide +kernel
theorem gdX12_counts_109 : decode cX12_counts 109 = .ok (.getfield 71, 3) := by decide +kernel
theorem gdX12_counts_112 : decode cX12_counts 112 = .ok (.iload_n 3, 1) := by decide +kernel
theorem gdX12_counts_113 : decode cX12_counts 113 = .ok (.iaload, 1) := by decide +kernel
theorem gdX12_counts_114 : decode cX12_counts 114 = .ok (.ifCond .ge 7, 3) := by decide +kernel
theorem gdX12_counts_121 : decode cX12_counts 121 = .ok (.iconst 0, 1) := by decide +kernel
theorem gdX12_counts_117 : decode cX12_counts 117 = .ok (.iconst 1, 1) := by decide +kernel
theorem gdX12_counts_118 : decode cX12_counts 118 = .ok (.goto 4, 3) := by decide +kernel
theorem gdX12_counts_183 : decode cX12_counts 183 = .ok (.iload_n 2, 1) := by decide +kernel
theorem gdX12_counts_184 : decode cX12_counts 184 = .ok (.ireturn, 1) := by decide +kernel
theorem gdX12_counts_175 : decode cX12_counts 175 = .ok (.iadd, 1) := by decide +kernel
theorem gdX12_counts_176 : decode cX12_counts 176 = .ok (.istore_n 2, 1) := by decide +kernel
theorem gdX12_counts_177 : decode cX12_counts 177 = .ok (.iinc 3 1, 3) := by decide +kernel
theorem gdX12_counts_180 : decode cX12_counts 180 = .ok (.goto (-26), 3) := by decide +kernel
theorem gdX12_counts_154 : decode cX12_counts 154 = .ok (.iload_n 3, 1) := by decide +kernel
theorem gdX12_counts_155 : decode cX12_counts 155 = .ok (.bipush 6, 2) := by decide +kernel
theorem gdX12_counts_157 : decode cX12_counts 157 = .ok (.if_icmp .ge 26, 3) := by decide +kernel
theorem gdX12_counts_160 : decode cX12_counts 160 = .ok (.iload_n 2, 1) := by decide +kernel
theorem gdX12_counts_161 : decode cX12_counts 161 = .ok (.aload_n 0, 1) := by decide +kernel
theorem gdX12_counts_162 : decode cX12_counts 162 = .ok (.getfield 13, 3) := by decide +kernel
theorem gdX12_counts_165 : decode cX12_counts 165 = .ok (.iload_n 3, 1) := by decide +kernel
theorem gdX12_counts_166 : decode cX12_counts 166 = .ok (.iaload, 1) := by decide +kernel
theorem gdX12_counts_167 : decode cX12_counts 167 = .ok (.ifCond .lt 7, 3) := by decide +kernel
theorem gdX12_counts_174 : decode cX12_counts 174 = .ok (.iconst 0, 1) := by decide +kernel
theorem gdX12_counts_170 : decode cX12_counts 170 = .ok (.iconst 1, 1) := by decide +kernel
theorem gdX12_counts_171 : decode cX12_counts 171 = .ok (.goto 4, 3) := by decide +kernel
theorem gdX12_counts_215 : decode cX12_counts 215 = .ok (.iload_n 2, 1) := by decide +kernel
theorem gdX12_counts_216 : decode cX12_counts 216 = .ok (.ireturn, 1) := by decide +kernel
theorem gdX12_counts_207 : decode cX12_counts 207 = .ok (.iadd, 1) := by decide +kernel
theorem gdX12_counts_208 : decode cX12_counts 208 = .ok (.istore_n 2, 1) := by decide +kernel
theorem gdX12_counts_209 : decode cX12_counts 209 = .ok (.iinc 3 1, 3) := by decide +kernel
theorem gdX12_counts_212 : decode cX12_counts 212 = .ok (.goto (-25), 3) := by decide +kernel
theorem gdX12_counts_187 : decode cX12_counts 187 = .ok (.iload_n 3, 1) := by decide +kernel
theorem gdX12_counts_188 : decode cX12_counts 188 = .ok (.iconst 4, 1) := by decide +kernel
theorem gdX12_counts_189 : decode cX12_counts 189 = .ok (.if_icmp .ge 26, 3) := by decide +kernel
theorem gdX12_counts_192 : decode cX12_counts 192 = .ok (.iload_n 2, 1) := by decide +kernel
theorem gdX12_counts_193 : decode cX12_counts 193 = .ok (.aload_n 0, 1) := by decide +kernel
theorem gdX12_counts_194 : decode cX12_counts 194 = .ok (.getfield 22, 3) := by decide +kernel
theorem gdX12_counts_197 : decode cX12_counts 197 = .ok (.iload_n 3, 1) := by decide +kernel
theorem gdX12_counts_198 : decode cX12_counts 198 = .ok (.iaload, 1) := by decide +kernel
theorem gdX12_counts_199 : decode cX12_counts 199 = .ok (.ifCond .lt 7, 3) := by decide +kernel
theorem gdX12_counts_206 : decode cX12_counts 206 = .ok (.iconst 0, 1) := by decide +kernel
theorem gdX12_counts_202 : decode cX12_counts 202 = .ok (.iconst 1, 1) := by decide +kernel
theorem gdX12_counts_203 : decode cX12_counts 203 = .ok (.goto 4, 3) := by decide +kernel
theorem gdX12_counts_0 : decode cX12_counts 0 = .ok (.iconst 0, 1) := by decide +kernel
theorem gdX12_counts_1 : decode cX12_counts 1 = .ok (.istore_n 2, 1) := by decide +kernel
theorem gdX12_counts_2 : decode cX12_counts 2 = .ok (.iload_n 1, 1) := by decide +kernel
theorem gdX12_counts_3 : decode cX12_counts 3 = .ok (.tableswitch 182 0 8 #[49, 54, 89, 94, 129, 134, 139, 144, 149], 49) := by decide +kernel
theorem gdX12_counts_52 : decode cX12_counts 52 = .ok (.aload_n 0, 1) := by decide +kernel
theorem gdX12_counts_53 : decode cX12_counts 53 = .ok (.getfield 229, 3) := by decide +kernel
theorem gdX12_counts_56 : decode cX12_counts 56 = .ok (.ireturn, 1) := by decide +kernel
theorem gdX12_counts_57 : decode cX12_counts 57 = .ok (.iconst 0, 1) := by decide +kernel
theorem gdX12_counts_58 : decode cX12_counts 58 = .ok (.istore_n 3, 1) := by decide +kernel
theorem gdX12_counts_92 : decode cX12_counts 92 = .ok (.aload_n 0, 1) := by decide +kernel
theorem gdX12_counts_93 : decode cX12_counts 93 = .ok (.getfield 281, 3) := by decide +kernel
theorem gdX12_counts_96 : decode cX12_counts 96 = .ok (.ireturn, 1) := by decide +kernel
theorem gdX12_counts_97 : decode cX12_counts 97 = .ok (.iconst 0, 1) := by decide +kernel
theorem gdX12_counts_98 : decode cX12_counts 98 = .ok (.istore_n 3, 1) := by decide +kernel
theorem gdX12_counts_132 : decode cX12_counts 132 = .ok (.aload_n 0, 1) := by decide +kernel
theorem gdX12_counts_133 : decode cX12_counts 133 = .ok (.getfield 241, 3) := by decide +kernel
theorem gdX12_counts_136 : decode cX12_counts 136 = .ok (.ireturn, 1) := by decide +kernel
theorem gdX12_counts_137 : decode cX12_counts 137 = .ok (.aload_n 0, 1) := by decide +kernel
theorem gdX12_counts_138 : decode cX12_counts 138 = .ok (.getfield 305, 3) := by decide +kernel
theorem gdX12_counts_141 : decode cX12_counts 141 = .ok (.ireturn, 1) := by decide +kernel
theorem gdX12_counts_142 : decode cX12_counts 142 = .ok (.aload_n 0, 1) := by decide +kernel
theorem gdX12_counts_143 : decode cX12_counts 143 = .ok (.getfield 368, 3) := by decide +kernel
theorem gdX12_counts_146 : decode cX12_counts 146 = .ok (.ireturn, 1) := by decide +kernel
theorem gdX12_counts_147 : decode cX12_counts 147 = .ok (.aload_n 0, 1) := by decide +kernel
theorem gdX12_counts_148 : decode cX12_counts 148 = .ok (.getfield 263, 3) := by decide +kernel
theorem gdX12_counts_151 : decode cX12_counts 151 = .ok (.ireturn, 1) := by decide +kernel
theorem gdX12_counts_152 : decode cX12_counts 152 = .ok (.iconst 0, 1) := by decide +kernel
theorem gdX12_counts_153 : decode cX12_counts 153 = .ok (.istore_n 3, 1) := by decide +kernel
theorem gdX12_counts_185 : decode cX12_counts 185 = .ok (.iconst 0, 1) := by decide +kernel
theorem gdX12_counts_186 : decode cX12_counts 186 = .ok (.istore_n 3, 1) := by decide +kernel
theorem gdX12_count_19 : decode cX12_count 19 = .ok (.ireturn, 1) := by decide +kernel
theorem gdX12_count_0 : decode cX12_count 0 = .ok (.iload_n 1, 1) := by decide +kernel
theorem gdX12_count_1 : decode cX12_count 1 = .ok (.iconst 0, 1) := by decide +kernel
theorem gdX12_count_2 : decode cX12_count 2 = .ok (.bipush 9, 2) := by decide +kernel
theorem gdX12_count_4 : decode cX12_count 4 = .ok (.invokestatic 208, 3) := by decide +kernel
theorem gdX12_count_7 : decode cX12_count 7 = .ok (.ifCond .eq 11, 3) := by decide +kernel
theorem gdX12_count_18 : decode cX12_count 18 = .ok (.iconst (-1), 1) := by decide +kernel
theorem gdX12_count_10 : decode cX12_count 10 = .ok (.aload_n 0, 1) := by decide +kernel
theorem gdX12_count_11 : decode cX12_count 11 = .ok (.iload_n 1, 1) := by decide +kernel
theorem gdX12_count_12 : decode cX12_count 12 = .ok (.invokevirtual 443, 3) := by decide +kernel
theorem gdX12_count_15 : decode cX12_count 15 = .ok (.goto 4, 3) := by decide +kernel
theorem gdX12_mix_0 : decode cX12_mix 0 = .ok (.aload_n 0, 1) := by decide +kernel
theorem gdX12_mix_1 : decode cX12_mix 1 = .ok (.ldc2_w 446, 3) := by decide +kernel
theorem gdX12_mix_4 : decode cX12_mix 4 = .ok (.aload_n 0, 1) := by decide +kernel
theorem gdX12_mix_5 : decode cX12_mix 5 = .ok (.getfield 448, 3) := by decide +kernel
theorem gdX12_mix_8 : decode cX12_mix 8 = .ok (.lmul, 1) := by decide +kernel
theorem gdX12_mix_9 : decode cX12_mix 9 = .ok (.iload_n 1, 1) := by decide +kernel
theorem gdX12_mix_10 : decode cX12_mix 10 = .ok (.i2l, 1) := by decide +kernel
theorem gdX12_mix_11 : decode cX12_mix 11 = .ok (.ladd, 1) := by decide +kernel
theorem gdX12_mix_12 : decode cX12_mix 12 = .ok (.putfield 448, 3) := by decide +kernel
theorem gdX12_mix_15 : decode cX12_mix 15 = .ok (.return_, 1) := by decide +kernel
theorem gdX12_houseTells_77 : decode cX12_houseTells 77 = .ok (.ireturn, 1) := by decide +kernel
theorem gdX12_houseTells_0 : decode cX12_houseTells 0 = .ok (.iload_n 2, 1) := by decide +kernel
theorem gdX12_houseTells_1 : decode cX12_houseTells 1 = .ok (.tableswitch 77 0 4 #[35, 42, 49, 56, 62], 35) := by decide +kernel
theorem gdX12_houseTells_36 : decode cX12_houseTells 36 = .ok (.aload_n 0, 1) := by decide +kernel
theorem gdX12_houseTells_37 : decode cX12_houseTells 37 = .ok (.getfield 46, 3) := by decide +kernel
theorem gdX12_houseTells_40 : decode cX12_houseTells 40 = .ok (.iload_n 1, 1) := by decide +kernel
theorem gdX12_houseTells_41 : decode cX12_houseTells 41 = .ok (.iaload, 1) := by decide +kernel
theorem gdX12_houseTells_42 : decode cX12_houseTells 42 = .ok (.ireturn, 1) := by decide +kernel
theorem gdX12_houseTells_43 : decode cX12_houseTells 43 = .ok (.aload_n 0, 1) := by decide +kernel
theorem gdX12_houseTells_44 : decode cX12_houseTells 44 = .ok (.getfield 49, 3) := by decide +kernel
theorem gdX12_houseTells_47 : decode cX12_houseTells 47 = .ok (.iload_n 1, 1) := by decide +kernel
theorem gdX12_houseTells_48 : decode cX12_houseTells 48 = .ok (.iaload, 1) := by decide +kernel
theorem gdX12_houseTells_49 : decode cX12_houseTells 49 = .ok (.ireturn, 1) := by decide +kernel
theorem gdX12_houseTells_50 : decode cX12_houseTells 50 = .ok (.aload_n 0, 1) := by decide +kernel
theorem gdX12_houseTells_51 : decode cX12_houseTells 51 = .ok (.getfield 52, 3) := by decide +kernel
theorem gdX12_houseTells_54 : decode cX12_houseTells 54 = .ok (.iload_n 1, 1) := by decide +kernel
theorem gdX12_houseTells_55 : decode cX12_houseTells 55 = .ok (.iaload, 1) := by decide +kernel
theorem gdX12_houseTells_56 : decode cX12_houseTells 56 = .ok (.ireturn, 1) := by decide +kernel
theorem gdX12_houseTells_57 : decode cX12_houseTells 57 = .ok (.aload_n 0, 1) := by decide +kernel
theorem gdX12_houseTells_58 : decode cX12_houseTells 58 = .ok (.iload_n 1, 1) := by decide +kernel
theorem gdX12_houseTells_59 : decode cX12_houseTells 59 = .ok (.invokevirtual 284, 3) := by decide +kernel
theorem gdX12_houseTells_62 : decode cX12_houseTells 62 = .ok (.ireturn, 1) := by decide +kernel
theorem gdX12_houseTells_63 : decode cX12_houseTells 63 = .ok (.aload_n 0, 1) := by decide +kernel
theorem gdX12_houseTells_64 : decode cX12_houseTells 64 = .ok (.getfield 55, 3) := by decide +kernel
theorem gdX12_houseTells_67 : decode cX12_houseTells 67 = .ok (.iload_n 1, 1) := by decide +kernel
theorem gdX12_houseTells_68 : decode cX12_houseTells 68 = .ok (.baload, 1) := by decide +kernel
theorem gdX12_houseTells_69 : decode cX12_houseTells 69 = .ok (.ifCond .eq 7, 3) := by decide +kernel
theorem gdX12_houseTells_76 : decode cX12_houseTells 76 = .ok (.iconst 0, 1) := by decide +kernel
theorem gdX12_houseTells_72 : decode cX12_houseTells 72 = .ok (.iconst 1, 1) := by decide +kernel
theorem gdX12_houseTells_73 : decode cX12_houseTells 73 = .ok (.goto 4, 3) := by decide +kernel
theorem gdX12_houseTells_78 : decode cX12_houseTells 78 = .ok (.aload_n 0, 1) := by decide +kernel
theorem gdX12_houseTells_79 : decode cX12_houseTells 79 = .ok (.getfield 59, 3) := by decide +kernel
theorem gdX12_houseTells_82 : decode cX12_houseTells 82 = .ok (.iload_n 1, 1) := by decide +kernel
theorem gdX12_houseTells_83 : decode cX12_houseTells 83 = .ok (.iaload, 1) := by decide +kernel
theorem gdX12_houseTells_84 : decode cX12_houseTells 84 = .ok (.ireturn, 1) := by decide +kernel
theorem gdX12_valueOf_55 : decode cX12_valueOf 55 = .ok (.iload_n 3, 1) := by decide +kernel
theorem gdX12_valueOf_56 : decode cX12_valueOf 56 = .ok (.ireturn, 1) := by decide +kernel
theorem gdX12_valueOf_48 : decode cX12_valueOf 48 = .ok (.istore_n 3, 1) := by decide +kernel
theorem gdX12_valueOf_49 : decode cX12_valueOf 49 = .ok (.iinc 4 1, 3) := by decide +kernel
theorem gdX12_valueOf_52 : decode cX12_valueOf 52 = .ok (.goto (-46), 3) := by decide +kernel
theorem gdX12_valueOf_47 : decode cX12_valueOf 47 = .ok (.iload_n 3, 1) := by decide +kernel
theorem gdX12_valueOf_6 : decode cX12_valueOf 6 = .ok (.iload 4, 2) := by decide +kernel
theorem gdX12_valueOf_8 : decode cX12_valueOf 8 = .ok (.aload_n 0, 1) := by decide +kernel
theorem gdX12_valueOf_9 : decode cX12_valueOf 9 = .ok (.getfield 263, 3) := by decide +kernel
theorem gdX12_valueOf_12 : decode cX12_valueOf 12 = .ok (.if_icmp .ge 43, 3) := by decide +kernel
theorem gdX12_valueOf_15 : decode cX12_valueOf 15 = .ok (.aload_n 0, 1) := by decide +kernel
theorem gdX12_valueOf_16 : decode cX12_valueOf 16 = .ok (.getfield 62, 3) := by decide +kernel
theorem gdX12_valueOf_19 : decode cX12_valueOf 19 = .ok (.iload 4, 2) := by decide +kernel
theorem gdX12_valueOf_21 : decode cX12_valueOf 21 = .ok (.iaload, 1) := by decide +kernel
theorem gdX12_valueOf_22 : decode cX12_valueOf 22 = .ok (.iload_n 1, 1) := by decide +kernel
theorem gdX12_valueOf_23 : decode cX12_valueOf 23 = .ok (.if_icmp .ne 24, 3) := by decide +kernel
theorem gdX12_valueOf_26 : decode cX12_valueOf 26 = .ok (.aload_n 0, 1) := by decide +kernel
theorem gdX12_valueOf_27 : decode cX12_valueOf 27 = .ok (.getfield 65, 3) := by decide +kernel
theorem gdX12_valueOf_30 : decode cX12_valueOf 30 = .ok (.iload 4, 2) := by decide +kernel
theorem gdX12_valueOf_32 : decode cX12_valueOf 32 = .ok (.iaload, 1) := by decide +kernel
theorem gdX12_valueOf_33 : decode cX12_valueOf 33 = .ok (.iload_n 2, 1) := by decide +kernel
theorem gdX12_valueOf_34 : decode cX12_valueOf 34 = .ok (.if_icmp .gt 13, 3) := by decide +kernel
theorem gdX12_valueOf_37 : decode cX12_valueOf 37 = .ok (.aload_n 0, 1) := by decide +kernel
theorem gdX12_valueOf_38 : decode cX12_valueOf 38 = .ok (.getfield 68, 3) := by decide +kernel
theorem gdX12_valueOf_41 : decode cX12_valueOf 41 = .ok (.iload 4, 2) := by decide +kernel
theorem gdX12_valueOf_43 : decode cX12_valueOf 43 = .ok (.iaload, 1) := by decide +kernel
theorem gdX12_valueOf_44 : decode cX12_valueOf 44 = .ok (.goto 4, 3) := by decide +kernel
theorem gdX12_valueOf_0 : decode cX12_valueOf 0 = .ok (.bipush (-9), 2) := by decide +kernel
theorem gdX12_valueOf_2 : decode cX12_valueOf 2 = .ok (.istore_n 3, 1) := by decide +kernel
theorem gdX12_valueOf_3 : decode cX12_valueOf 3 = .ok (.iconst 0, 1) := by decide +kernel
theorem gdX12_valueOf_4 : decode cX12_valueOf 4 = .ok (.istore 4, 2) := by decide +kernel
theorem gdX12_personTells_55 : decode cX12_personTells 55 = .ok (.ireturn, 1) := by decide +kernel
theorem gdX12_personTells_0 : decode cX12_personTells 0 = .ok (.iload_n 2, 1) := by decide +kernel
theorem gdX12_personTells_1 : decode cX12_personTells 1 = .ok (.ifCond .ne 12, 3) := by decide +kernel
theorem gdX12_personTells_13 : decode cX12_personTells 13 = .ok (.iload_n 2, 1) := by decide +kernel
theorem gdX12_personTells_14 : decode cX12_personTells 14 = .ok (.iconst 1, 1) := by decide +kernel
theorem gdX12_personTells_15 : decode cX12_personTells 15 = .ok (.if_icmp .ne 12, 3) := by decide +kernel
theorem gdX12_personTells_27 : decode cX12_personTells 27 = .ok (.iload_n 2, 1) := by decide +kernel
theorem gdX12_personTells_28 : decode cX12_personTells 28 = .ok (.iconst 2, 1) := by decide +kernel
theorem gdX12_personTells_29 : decode cX12_personTells 29 = .ok (.if_icmp .ne 20, 3) := by decide +kernel
theorem gdX12_personTells_49 : decode cX12_personTells 49 = .ok (.aload_n 0, 1) := by decide +kernel
theorem gdX12_personTells_50 : decode cX12_personTells 50 = .ok (.getfield 80, 3) := by decide +kernel
theorem gdX12_personTells_53 : decode cX12_personTells 53 = .ok (.iload_n 1, 1) := by decide +kernel
theorem gdX12_personTells_54 : decode cX12_personTells 54 = .ok (.iaload, 1) := by decide +kernel
theorem gdX12_personTells_32 : decode cX12_personTells 32 = .ok (.aload_n 0, 1) := by decide +kernel
theorem gdX12_personTells_33 : decode cX12_personTells 33 = .ok (.getfield 77, 3) := by decide +kernel
theorem gdX12_personTells_36 : decode cX12_personTells 36 = .ok (.iload_n 1, 1) := by decide +kernel
theorem gdX12_personTells_37 : decode cX12_personTells 37 = .ok (.baload, 1) := by decide +kernel
theorem gdX12_personTells_38 : decode cX12_personTells 38 = .ok (.ifCond .eq 7, 3) := by decide +kernel
theorem gdX12_personTells_45 : decode cX12_personTells 45 = .ok (.iconst 0, 1) := by decide +kernel
theorem gdX12_personTells_46 : decode cX12_personTells 46 = .ok (.goto 9, 3) := by decide +kernel
theorem gdX12_personTells_41 : decode cX12_personTells 41 = .ok (.iconst 1, 1) := by decide +kernel
theorem gdX12_personTells_42 : decode cX12_personTells 42 = .ok (.goto 13, 3) := by decide +kernel
theorem gdX12_personTells_18 : decode cX12_personTells 18 = .ok (.aload_n 0, 1) := by decide +kernel
theorem gdX12_personTells_19 : decode cX12_personTells 19 = .ok (.getfield 74, 3) := by decide +kernel
theorem gdX12_personTells_22 : decode cX12_personTells 22 = .ok (.iload_n 1, 1) := by decide +kernel
theorem gdX12_personTells_23 : decode cX12_personTells 23 = .ok (.iaload, 1) := by decide +kernel
theorem gdX12_personTells_24 : decode cX12_personTells 24 = .ok (.goto 31, 3) := by decide +kernel
theorem gdX12_personTells_4 : decode cX12_personTells 4 = .ok (.aload_n 0, 1) := by decide +kernel
theorem gdX12_personTells_5 : decode cX12_personTells 5 = .ok (.getfield 71, 3) := by decide +kernel
theorem gdX12_personTells_8 : decode cX12_personTells 8 = .ok (.iload_n 1, 1) := by decide +kernel
theorem gdX12_personTells_9 : decode cX12_personTells 9 = .ok (.iaload, 1) := by decide +kernel
theorem gdX12_personTells_10 : decode cX12_personTells 10 = .ok (.goto 45, 3) := by decide +kernel
theorem gdX12_markTells_33 : decode cX12_markTells 33 = .ok (.ireturn, 1) := by decide +kernel
theorem gdX12_markTells_0 : decode cX12_markTells 0 = .ok (.iload_n 2, 1) := by decide +kernel
theorem gdX12_markTells_1 : decode cX12_markTells 1 = .ok (.ifCond .ne 12, 3) := by decide +kernel
theorem gdX12_markTells_13 : decode cX12_markTells 13 = .ok (.iload_n 2, 1) := by decide +kernel
theorem gdX12_markTells_14 : decode cX12_markTells 14 = .ok (.iconst 1, 1) := by decide +kernel
theorem gdX12_markTells_15 : decode cX12_markTells 15 = .ok (.if_icmp .ne 12, 3) := by decide +kernel
theorem gdX12_markTells_27 : decode cX12_markTells 27 = .ok (.aload_n 0, 1) := by decide +kernel
theorem gdX12_markTells_28 : decode cX12_markTells 28 = .ok (.getfield 89, 3) := by decide +kernel
theorem gdX12_markTells_31 : decode cX12_markTells 31 = .ok (.iload_n 1, 1) := by decide +kernel
theorem gdX12_markTells_32 : decode cX12_markTells 32 = .ok (.iaload, 1) := by decide +kernel
theorem gdX12_markTells_18 : decode cX12_markTells 18 = .ok (.aload_n 0, 1) := by decide +kernel
theorem gdX12_markTells_19 : decode cX12_markTells 19 = .ok (.getfield 86, 3) := by decide +kernel
theorem gdX12_markTells_22 : decode cX12_markTells 22 = .ok (.iload_n 1, 1) := by decide +kernel
theorem gdX12_markTells_23 : decode cX12_markTells 23 = .ok (.iaload, 1) := by decide +kernel
theorem gdX12_markTells_24 : decode cX12_markTells 24 = .ok (.goto 9, 3) := by decide +kernel
theorem gdX12_markTells_4 : decode cX12_markTells 4 = .ok (.aload_n 0, 1) := by decide +kernel
theorem gdX12_markTells_5 : decode cX12_markTells 5 = .ok (.getfield 83, 3) := by decide +kernel
theorem gdX12_markTells_8 : decode cX12_markTells 8 = .ok (.iload_n 1, 1) := by decide +kernel
theorem gdX12_markTells_9 : decode cX12_markTells 9 = .ok (.iaload, 1) := by decide +kernel
theorem gdX12_markTells_10 : decode cX12_markTells 10 = .ok (.goto 23, 3) := by decide +kernel
theorem gdX12_mixMark_84 : decode cX12_mixMark 84 = .ok (.return_, 1) := by decide +kernel
theorem gdX12_mixMark_53 : decode cX12_mixMark 53 = .ok (.iload_n 2, 1) := by decide +kernel
theorem gdX12_mixMark_54 : decode cX12_mixMark 54 = .ok (.aload_n 0, 1) := by decide +kernel
theorem gdX12_mixMark_55 : decode cX12_mixMark 55 = .ok (.getfield 98, 3) := by decide +kernel
theorem gdX12_mixMark_58 : decode cX12_mixMark 58 = .ok (.iload_n 1, 1) := by decide +kernel
theorem gdX12_mixMark_59 : decode cX12_mixMark 59 = .ok (.iaload, 1) := by decide +kernel
theorem gdX12_mixMark_60 : decode cX12_mixMark 60 = .ok (.if_icmp .ge 24, 3) := by decide +kernel
theorem gdX12_mixMark_63 : decode cX12_mixMark 63 = .ok (.aload_n 0, 1) := by decide +kernel
theorem gdX12_mixMark_64 : decode cX12_mixMark 64 = .ok (.aload_n 0, 1) := by decide +kernel
theorem gdX12_mixMark_65 : decode cX12_mixMark 65 = .ok (.getfield 101, 3) := by decide +kernel
theorem gdX12_mixMark_68 : decode cX12_mixMark 68 = .ok (.bipush 64, 2) := by decide +kernel
theorem gdX12_mixMark_70 : decode cX12_mixMark 70 = .ok (.iload_n 1, 1) := by decide +kernel
theorem gdX12_mixMark_71 : decode cX12_mixMark 71 = .ok (.imul, 1) := by decide +kernel
theorem gdX12_mixMark_72 : decode cX12_mixMark 72 = .ok (.iload_n 2, 1) := by decide +kernel
theorem gdX12_mixMark_73 : decode cX12_mixMark 73 = .ok (.iadd, 1) := by decide +kernel
theorem gdX12_mixMark_74 : decode cX12_mixMark 74 = .ok (.iaload, 1) := by decide +kernel
theorem gdX12_mixMark_75 : decode cX12_mixMark 75 = .ok (.invokevirtual 451, 3) := by decide +kernel
theorem gdX12_mixMark_78 : decode cX12_mixMark 78 = .ok (.iinc 2 1, 3) := by decide +kernel
theorem gdX12_mixMark_81 : decode cX12_mixMark 81 = .ok (.goto (-28), 3) := by decide +kernel
theorem gdX12_mixMark_23 : decode cX12_mixMark 23 = .ok (.aload_n 0, 1) := by decide +kernel
theorem gdX12_mixMark_24 : decode cX12_mixMark 24 = .ok (.iload_n 1, 1) := by decide +kernel
theorem gdX12_mixMark_25 : decode cX12_mixMark 25 = .ok (.invokevirtual 311, 3) := by decide +kernel
theorem gdX12_mixMark_28 : decode cX12_mixMark 28 = .ok (.ifCond .eq 56, 3) := by decide +kernel
theorem gdX12_mixMark_31 : decode cX12_mixMark 31 = .ok (.aload_n 0, 1) := by decide +kernel
theorem gdX12_mixMark_32 : decode cX12_mixMark 32 = .ok (.aload_n 0, 1) := by decide +kernel
theorem gdX12_mixMark_33 : decode cX12_mixMark 33 = .ok (.getfield 92, 3) := by decide +kernel
theorem gdX12_mixMark_36 : decode cX12_mixMark 36 = .ok (.iload_n 1, 1) := by decide +kernel
theorem gdX12_mixMark_37 : decode cX12_mixMark 37 = .ok (.iaload, 1) := by decide +kernel
theorem gdX12_mixMark_38 : decode cX12_mixMark 38 = .ok (.invokevirtual 451, 3) := by decide +kernel
theorem gdX12_mixMark_41 : decode cX12_mixMark 41 = .ok (.aload_n 0, 1) := by decide +kernel
theorem gdX12_mixMark_42 : decode cX12_mixMark 42 = .ok (.aload_n 0, 1) := by decide +kernel
theorem gdX12_mixMark_43 : decode cX12_mixMark 43 = .ok (.getfield 95, 3) := by decide +kernel
theorem gdX12_mixMark_46 : decode cX12_mixMark 46 = .ok (.iload_n 1, 1) := by decide +kernel
theorem gdX12_mixMark_47 : decode cX12_mixMark 47 = .ok (.iaload, 1) := by decide +kernel
theorem gdX12_mixMark_48 : decode cX12_mixMark 48 = .ok (.invokevirtual 451, 3) := by decide +kernel
theorem gdX12_mixMark_51 : decode cX12_mixMark 51 = .ok (.iconst 0, 1) := by decide +kernel
theorem gdX12_mixMark_52 : decode cX12_mixMark 52 = .ok (.istore_n 2, 1) := by decide +kernel
theorem gdX12_mixMark_2 : decode cX12_mixMark 2 = .ok (.iload_n 2, 1) := by decide +kernel
theorem gdX12_mixMark_3 : decode cX12_mixMark 3 = .ok (.iconst 2, 1) := by decide +kernel
theorem gdX12_mixMark_4 : decode cX12_mixMark 4 = .ok (.if_icmp .gt 19, 3) := by decide +kernel
theorem gdX12_mixMark_7 : decode cX12_mixMark 7 = .ok (.aload_n 0, 1) := by decide +kernel
theorem gdX12_mixMark_8 : decode cX12_mixMark 8 = .ok (.aload_n 0, 1) := by decide +kernel
theorem gdX12_mixMark_9 : decode cX12_mixMark 9 = .ok (.iload_n 1, 1) := by decide +kernel
theorem gdX12_mixMark_10 : decode cX12_mixMark 10 = .ok (.iload_n 2, 1) := by decide +kernel
theorem gdX12_mixMark_11 : decode cX12_mixMark 11 = .ok (.invokevirtual 358, 3) := by decide +kernel
theorem gdX12_mixMark_14 : decode cX12_mixMark 14 = .ok (.invokevirtual 451, 3) := by decide +kernel
theorem gdX12_mixMark_17 : decode cX12_mixMark 17 = .ok (.iinc 2 1, 3) := by decide +kernel
theorem gdX12_mixMark_20 : decode cX12_mixMark 20 = .ok (.goto (-18), 3) := by decide +kernel
theorem gdX12_mixMark_0 : decode cX12_mixMark 0 = .ok (.iconst 0, 1) := by decide +kernel
theorem gdX12_mixMark_1 : decode cX12_mixMark 1 = .ok (.istore_n 2, 1) := by decide +kernel
theorem okm_X12_parks : okM yX12_parks cX12_parks 4 (some .int) 1 := ⟨w_2049, w_103, by decide +kernel, by decide +kernel, by decide +kernel⟩
theorem okw_X12_parks : okV yX12_parks := ⟨w_2048, w_76⟩
theorem okm_X12_loud : okM yX12_loud cX12_loud 8 (some .int) 3 := ⟨w_2037, w_103, by decide +kernel, by decide +kernel, by decide +kernel⟩
theorem okw_X12_loud : okV yX12_loud := ⟨w_2036, w_74⟩
theorem okm_X12_has : okM yX12_has cX12_has 3 (some .boolean) 2 := ⟨w_1920, w_103, by decide +kernel, by decide +kernel, by decide +kernel⟩
theorem okm_X12_cellsOf : okM yX12_cellsOf cX12_cellsOf 5 (some .long) 1 := ⟨w_1917, w_103, by decide +kernel, by decide +kernel, by decide +kernel⟩
theorem okw_X12_cellsOf : okV yX12_cellsOf := ⟨w_1916, w_62⟩
theorem okm_X12_judged : okM yX12_judged cX12_judged 8 (some .int) 3 := ⟨w_2117, w_103, by decide +kernel, by decide +kernel, by decide +kernel⟩
theorem okw_X12_judged : okV yX12_judged := ⟨w_2116, w_84⟩
theorem okm_X12_askedWeights : okM yX12_askedWeights cX12_askedWeights 5 (some .int) 2 := ⟨w_2113, w_103, by decide +kernel, by decide +kernel, by decide +kernel⟩
theorem okw_X12_askedWeights : okV yX12_askedWeights := ⟨w_2112, w_83⟩
theorem okm_X12_isCell : okM yX12_isCell cX12_isCell 1 (some .boolean) 1 := ⟨w_1790, w_103, by decide +kernel, by decide +kernel, by decide +kernel⟩
theorem okm_X12_isWorth : okM yX12_isWorth cX12_isWorth 1 (some .boolean) 1 := ⟨w_1801, w_103, by decide +kernel, by decide +kernel, by decide +kernel⟩
theorem okm_X12_on : okM yX12_on cX12_on 4 (some .int) 1 := ⟨w_1794, w_103, by decide +kernel, by decide +kernel, by decide +kernel⟩
theorem okw_X12_on : okV yX12_on := ⟨w_1793, w_43⟩
theorem okm_X12_tell : okM yX12_tell cX12_tell 3 none 2 := ⟨w_1806, w_103, by decide +kernel, by decide +kernel, by decide +kernel⟩
theorem okw_X12_tell : okV yX12_tell := ⟨w_1805, w_44⟩
theorem okm_X12_isBuilding : okM yX12_isBuilding cX12_isBuilding 2 (some .boolean) 1 := ⟨w_1814, w_103, by decide +kernel, by decide +kernel, by decide +kernel⟩
theorem okw_X12_isBuilding : okV yX12_isBuilding := ⟨w_1813, w_45⟩
theorem okm_X12_isPerson : okM yX12_isPerson cX12_isPerson 2 (some .boolean) 1 := ⟨w_1854, w_103, by decide +kernel, by decide +kernel, by decide +kernel⟩
theorem okw_X12_isPerson : okV yX12_isPerson := ⟨w_1853, w_51⟩
theorem okm_X12_isMark : okM yX12_isMark cX12_isMark 2 (some .boolean) 1 := ⟨w_1906, w_103, by decide +kernel, by decide +kernel, by decide +kernel⟩
theorem okw_X12_isMark : okV yX12_isMark := ⟨w_1905, w_60⟩
theorem okm_X12_isLine : okM yX12_isLine cX12_isLine 2 (some .boolean) 1 := ⟨w_1910, w_103, by decide +kernel, by decide +kernel, by decide +kernel⟩
theorem okw_X12_isLine : okV yX12_isLine := ⟨w_1909, w_61⟩
theorem okm_X12_askedLine : okM yX12_askedLine cX12_askedLine 2 (some .int) 1 := ⟨w_1928, w_103, by decide +kernel, by decide +kernel, by decide +kernel⟩
theorem okw_X12_askedLine : okV yX12_askedLine := ⟨w_1927, w_63⟩
theorem okm_X12_counts : okM yX12_counts cX12_counts 4 (some .int) 1 := ⟨w_2137, w_103, by decide +kernel, by decide +kernel, by decide +kernel⟩
theorem okw_X12_counts : okV yX12_counts := ⟨w_2136, w_85⟩
theorem okm_X12_mix : okM yX12_mix cX12_mix 2 none 1 := ⟨w_2154, w_103, by decide +kernel, by decide +kernel, by decide +kernel⟩
theorem okw_X12_mix : okV yX12_mix := ⟨w_2153, w_86⟩
theorem okm_X12_markTells : okM yX12_markTells cX12_markTells 3 (some .int) 2 := ⟨w_1964, w_103, by decide +kernel, by decide +kernel, by decide +kernel⟩
theorem okw_X12_markTells : okV yX12_markTells := ⟨w_1963, w_66⟩
noncomputable def b_X12_judged_68 (o : OO) (x1 : Int) (x2 : Int) (x3 : Int) (x4 : Int) : Option (Int) := qNm (40 * x2) (fun n1 => qIn n1 240 (qNm (o.1 3 n1.toNat) (fun n3 => qIn x1 24 (qNm (o.1 28 x1.toNat) (fun n5 => qIn (n1 + 1) 240 (qNm (o.1 3 (n1 + 1).toNat) (fun n7 => qIn (n1 + 2) 240 (qNm (o.1 3 (n1 + 2).toNat) (fun n9 => qB (s_X12_parks o x1) (fun r10 => qIn (n1 + 3) 240 (qNm (o.1 3 (n1 + 3).toNat) (fun n13 => qB (s_X12_loud o x1 x3 0) (fun r14 => some ((((n3 * n5) + (n7 * x4)) + (n9 * r10)) + (n13 * r14)))))))))))))))
noncomputable def b_X12_judged_59 (o : OO) (x1 : Int) (x2 : Int) (x3 : Int) (z5 : Int64) (x7 : Int) (y0 : Int) (y1 : Int) : Option ((Int × Int) ⊕ ((Int))) := qNm (y0 + y1) (fun n16 => some (.inl (n16, x7 + 1)))
noncomputable def b_X12_judged_58 (o : OO) (x1 : Int) (x2 : Int) (x3 : Int) (z5 : Int64) (x7 : Int) (y0 : Int) : Option ((Int × Int) ⊕ ((Int))) := b_X12_judged_59 o x1 x2 x3 z5 x7 y0 0
noncomputable def l_X12_judged_13 (o : OO) (x1 : Int) (x2 : Int) (x3 : Int) (z5 : Int64) (x4 : Int) (x7 : Int) : Option ((Int × Int) ⊕ ((Int))) := qLt x7 (o.1 0 27) (qIn x7 40 (qNm (o.1 21 x7.toNat) (fun n18 => qLt n18 0 (b_X12_judged_58 o x1 x2 x3 z5 x7 x4) (qIn x7 40 (qNm (o.1 21 x7.toNat) (fun n20 => qIn n20 32 (qNm (o.1 13 n20.toNat) (fun n22 => qB (s_X12_has z5 n22) (fun r23 => qEq r23 0 (b_X12_judged_58 o x1 x2 x3 z5 x7 x4) (b_X12_judged_59 o x1 x2 x3 z5 x7 x4 1)))))))))) (some (.inr (x4)))
noncomputable def e_X12_judged_13 (o : OO) (x1 : Int) (x2 : Int) (x3 : Int) (x4 : Int) (z5 : Int64) (x7 : Int) : Option (Int) := qB (loopW (fun s => l_X12_judged_13 o x1 x2 x3 z5 s.1 s.2) (x4, x7)) (fun r => b_X12_judged_68 o x1 x2 x3 r)
noncomputable def s_X12_judged (o : OO) (x1 : Int) (x2 : Int) (x3 : Int) : Option (Int) := qB (s_X12_cellsOf o x1) (fun p25 => e_X12_judged_13 o x1 x2 x3 0 p25 0)
set_option maxHeartbeats 4000000 in
set_option maxRecDepth 100000 in
theorem c_X12_judged (l : Launch) (g : GG) (ad : Nat → Nat) (o : OO) (x1 : Int) (x2 : Int) (x3 : Int) (v : Int) (h : s_X12_judged o x1 x2 x3 = some v) : CI l g yX12_judged cX12_judged 8 (some .int) 4 98 (wM g ad o) [.ref (ad 0), iv x1, iv x2, iv x3] v (wM g ad o) := by
  refine met_I (by decide) (Nat.le_of_ble_eq_true rfl) ?_
  intro X E hQ
  show Go X 0 (wM g ad o) [(0, .ref (ad 0)), (1, iv x1), (2, iv x2), (3, iv x3)] []
  have j68 : ∀ (x1 : Int) (x2 : Int) (x3 : Int) (x4 : Int), b_X12_judged_68 o x1 x2 x3 x4 = some v → Go X 68 (wM g ad o) [(0, .ref (ad 0)), (1, iv x1), (2, iv x2), (3, iv x3), (4, iv x4)] [] := by
    intro x1 x2 x3 x4 h
    unfold b_X12_judged_68 at h
    refine g_bipush E gdX12_judged_68 (by decide) ?_
    refine g_iload_n E gdX12_judged_70 rfl 2 rfl ?_
    refine g_imul E gdX12_judged_71 ?_
    obtain ⟨n1, e_n1, h⟩ := qNm_of h
    refine g_nmi e_n1 ?_
    refine g_istore E [(7, iv n1), (0, .ref (ad 0)), (1, iv x1), (2, iv x2), (3, iv x3), (4, iv x4)] gdX12_judged_72 (by decide) rfl ?_
    refine g_aload_n E gdX12_judged_74 rfl 1 rfl ?_
    refine g_get (T := TX12) E fw_X12 0 (wM_0 g ad o) rfl 6 (by decide) w_1472 rfl rfl gdX12_judged_75 ?_
    refine g_iload E gdX12_judged_78 0 rfl ?_
    obtain ⟨hi2, h⟩ := qIn_of h
    refine g_iald E 3 (wM_3 g ad o) (by decide) hi2 gdX12_judged_80 ?_
    obtain ⟨n3, e_n3, h⟩ := qNm_of h
    refine g_nmi e_n3 ?_
    refine g_aload_n E gdX12_judged_81 rfl 1 rfl ?_
    refine g_get (T := TX12) E fw_X12 0 (wM_0 g ad o) rfl 36 (by decide) w_1502 rfl rfl gdX12_judged_82 ?_
    refine g_iload_n E gdX12_judged_85 rfl 2 rfl ?_
    obtain ⟨hi4, h⟩ := qIn_of h
    refine g_iald E 28 (wM_28 g ad o) (by decide) hi4 gdX12_judged_86 ?_
    obtain ⟨n5, e_n5, h⟩ := qNm_of h
    refine g_nmi e_n5 ?_
    refine g_imul E gdX12_judged_87 ?_
    refine g_aload_n E gdX12_judged_88 rfl 1 rfl ?_
    refine g_get (T := TX12) E fw_X12 0 (wM_0 g ad o) rfl 6 (by decide) w_1472 rfl rfl gdX12_judged_89 ?_
    refine g_iload E gdX12_judged_92 0 rfl ?_
    refine g_iconst E gdX12_judged_94 ?_
    refine g_iadd E gdX12_judged_95 ?_
    obtain ⟨hi6, h⟩ := qIn_of h
    refine g_iald E 3 (wM_3 g ad o) (by decide) hi6 gdX12_judged_96 ?_
    obtain ⟨n7, e_n7, h⟩ := qNm_of h
    refine g_nmi e_n7 ?_
    refine g_iload E gdX12_judged_97 5 rfl ?_
    refine g_imul E gdX12_judged_99 ?_
    refine g_iadd E gdX12_judged_100 ?_
    refine g_aload_n E gdX12_judged_101 rfl 1 rfl ?_
    refine g_get (T := TX12) E fw_X12 0 (wM_0 g ad o) rfl 6 (by decide) w_1472 rfl rfl gdX12_judged_102 ?_
    refine g_iload E gdX12_judged_105 0 rfl ?_
    refine g_iconst E gdX12_judged_107 ?_
    refine g_iadd E gdX12_judged_108 ?_
    obtain ⟨hi8, h⟩ := qIn_of h
    refine g_iald E 3 (wM_3 g ad o) (by decide) hi8 gdX12_judged_109 ?_
    obtain ⟨n9, e_n9, h⟩ := qNm_of h
    refine g_nmi e_n9 ?_
    refine g_aload_n E gdX12_judged_110 rfl 1 rfl ?_
    refine g_iload_n E gdX12_judged_111 rfl 2 rfl ?_
    obtain ⟨r10, hc11, h⟩ := qB_of h
    refine g_Vi (r := r10) (As := [iv x1]) (rest := [iv n9, iv ((n3 * n5) + (n7 * x4))]) (w := wM g ad o) E (c_X12_parks l g ad o x1 r10 hc11) okm_X12_parks okw_X12_parks w_2046 rfl (wM_0 g ad o) rfl rfl (Nat.le_of_ble_eq_true rfl) ⟨Nat.le_of_ble_eq_true rfl, Nat.le_of_ble_eq_true rfl⟩ gdX12_judged_112 ?_
    refine g_imul E gdX12_judged_115 ?_
    refine g_iadd E gdX12_judged_116 ?_
    refine g_aload_n E gdX12_judged_117 rfl 1 rfl ?_
    refine g_get (T := TX12) E fw_X12 0 (wM_0 g ad o) rfl 6 (by decide) w_1472 rfl rfl gdX12_judged_118 ?_
    refine g_iload E gdX12_judged_121 0 rfl ?_
    refine g_iconst E gdX12_judged_123 ?_
    refine g_iadd E gdX12_judged_124 ?_
    obtain ⟨hi12, h⟩ := qIn_of h
    refine g_iald E 3 (wM_3 g ad o) (by decide) hi12 gdX12_judged_125 ?_
    obtain ⟨n13, e_n13, h⟩ := qNm_of h
    refine g_nmi e_n13 ?_
    refine g_aload_n E gdX12_judged_126 rfl 1 rfl ?_
    refine g_iload_n E gdX12_judged_127 rfl 2 rfl ?_
    refine g_iload_n E gdX12_judged_128 rfl 4 rfl ?_
    refine g_iconst E gdX12_judged_129 ?_
    obtain ⟨r14, hc15, h⟩ := qB_of h
    refine g_Vi (r := r14) (As := [iv x1, iv x3, iv 0]) (rest := [iv n13, iv (((n3 * n5) + (n7 * x4)) + (n9 * r10))]) (w := wM g ad o) E (c_X12_loud l g ad o x1 x3 0 r14 hc15) okm_X12_loud okw_X12_loud w_2034 rfl (wM_0 g ad o) rfl rfl (Nat.le_of_ble_eq_true rfl) ⟨Nat.le_of_ble_eq_true rfl, Nat.le_of_ble_eq_true rfl⟩ gdX12_judged_130 ?_
    refine g_imul E gdX12_judged_133 ?_
    refine g_iadd E gdX12_judged_134 ?_
    exact g_iret E hQ (Option.some.inj h) rfl gdX12_judged_135
  have j59 : ∀ (x1 : Int) (x2 : Int) (x3 : Int) (z5 : Int64) (x7 : Int) (y0 : Int) (y1 : Int) (v : (Int × Int) ⊕ ((Int))), b_X12_judged_59 o x1 x2 x3 z5 x7 y0 y1 = some v → (∀ (x4 : Int) (x7 : Int), v = .inl (x4, x7) → Go X 13 (wM g ad o) [(0, .ref (ad 0)), (1, iv x1), (2, iv x2), (3, iv x3), (4, iv x4), (5, .long z5), (7, iv x7)] []) → (∀ (x4 : Int), v = .inr (x4) → Go X 68 (wM g ad o) [(0, .ref (ad 0)), (1, iv x1), (2, iv x2), (3, iv x3), (4, iv x4)] []) → Go X 59 (wM g ad o) [(0, .ref (ad 0)), (1, iv x1), (2, iv x2), (3, iv x3), (5, .long z5), (7, iv x7)] [iv y1, iv y0] := by
    intro x1 x2 x3 z5 x7 y0 y1 v h k0 k1
    unfold b_X12_judged_59 at h
    refine g_iadd E gdX12_judged_59 ?_
    obtain ⟨n16, e_n16, h⟩ := qNm_of h
    refine g_nmi e_n16 ?_
    refine g_istore E [(4, iv n16), (0, .ref (ad 0)), (1, iv x1), (2, iv x2), (3, iv x3), (5, .long z5), (7, iv x7)] gdX12_judged_60 (by decide) rfl ?_
    refine g_iinc E [(7, iv (x7 + 1)), (4, iv n16), (0, .ref (ad 0)), (1, iv x1), (2, iv x2), (3, iv x3), (5, .long z5)] gdX12_judged_62 6 rfl (by decide) rfl ?_
    refine g_goto E 13 gdX12_judged_65 (by decide) ?_
    refine g_sub E [2, 3, 4, 5, 1, 6, 0] rfl ?_
    exact k0 n16 (x7 + 1) (Option.some.inj h).symm
  have j58 : ∀ (x1 : Int) (x2 : Int) (x3 : Int) (z5 : Int64) (x7 : Int) (y0 : Int) (v : (Int × Int) ⊕ ((Int))), b_X12_judged_58 o x1 x2 x3 z5 x7 y0 = some v → (∀ (x4 : Int) (x7 : Int), v = .inl (x4, x7) → Go X 13 (wM g ad o) [(0, .ref (ad 0)), (1, iv x1), (2, iv x2), (3, iv x3), (4, iv x4), (5, .long z5), (7, iv x7)] []) → (∀ (x4 : Int), v = .inr (x4) → Go X 68 (wM g ad o) [(0, .ref (ad 0)), (1, iv x1), (2, iv x2), (3, iv x3), (4, iv x4)] []) → Go X 58 (wM g ad o) [(0, .ref (ad 0)), (1, iv x1), (2, iv x2), (3, iv x3), (5, .long z5), (7, iv x7)] [iv y0] := by
    intro x1 x2 x3 z5 x7 y0 v h k0 k1
    unfold b_X12_judged_58 at h
    refine g_iconst E gdX12_judged_58 ?_
    exact j59 x1 x2 x3 z5 x7 y0 0 v h k0 k1
  have l13 : ∀ (x1 : Int) (x2 : Int) (x3 : Int) (z5 : Int64) (r : (Int)) (s0 : Int × Int), loopW (fun s => l_X12_judged_13 o x1 x2 x3 z5 s.1 s.2) s0 = some r → (∀ (x4 : Int), r = (x4) → Go X 68 (wM g ad o) [(0, .ref (ad 0)), (1, iv x1), (2, iv x2), (3, iv x3), (4, iv x4)] []) → Go X 13 (wM g ad o) [(0, .ref (ad 0)), (1, iv x1), (2, iv x2), (3, iv x3), (4, iv s0.1), (5, .long z5), (7, iv s0.2)] [] := by
    intro x1 x2 x3 z5 r s0 h k1
    refine loop_rule (Head := fun s0 => Go X 13 (wM g ad o) [(0, .ref (ad 0)), (1, iv x1), (2, iv x2), (3, iv x3), (4, iv s0.1), (5, .long z5), (7, iv s0.2)] []) h ?_
    intro s v h kk kx
    obtain ⟨x4, x7⟩ := s
    have h : l_X12_judged_13 o x1 x2 x3 z5 x4 x7 = some v := h
    have k0 : ∀ (x4 : Int) (x7 : Int), v = .inl (x4, x7) → Go X 13 (wM g ad o) [(0, .ref (ad 0)), (1, iv x1), (2, iv x2), (3, iv x3), (4, iv x4), (5, .long z5), (7, iv x7)] [] := fun x4 x7 e => kk (x4, x7) e
    have k1 : ∀ (x4 : Int), v = .inr (x4) → Go X 68 (wM g ad o) [(0, .ref (ad 0)), (1, iv x1), (2, iv x2), (3, iv x3), (4, iv x4)] [] := fun x4 e => k1 x4 (kx _ e).symm
    unfold l_X12_judged_13 at h
    refine g_iload E gdX12_judged_13 6 rfl ?_
    refine g_aload_n E gdX12_judged_15 rfl 0 rfl ?_
    refine g_get (T := TX12) E fw_X12 0 (wM_0 g ad o) rfl 27 (by decide) w_1493 rfl rfl gdX12_judged_16 ?_
    refine g_icmp_ge E 68 gdX12_judged_19 (by decide) h (fun h => ?_) (fun h => ?_)
    ·
      refine g_sub E [0, 1, 2, 3, 4] rfl ?_
      exact k1 x4 (Option.some.inj h).symm
    ·
      refine g_iload E gdX12_judged_22 4 rfl ?_
      refine g_aload_n E gdX12_judged_24 rfl 0 rfl ?_
      refine g_get (T := TX12) E fw_X12 0 (wM_0 g ad o) rfl 28 (by decide) w_1494 rfl rfl gdX12_judged_25 ?_
      refine g_iload E gdX12_judged_28 6 rfl ?_
      obtain ⟨hi17, h⟩ := qIn_of h
      refine g_iald E 21 (wM_21 g ad o) (by decide) hi17 gdX12_judged_30 ?_
      obtain ⟨n18, e_n18, h⟩ := qNm_of h
      refine g_nmi e_n18 ?_
      refine g_if_lt E 58 gdX12_judged_31 (by decide) h (fun h => ?_) (fun h => ?_)
      ·
        refine g_sub E [0, 1, 2, 3, 5, 6] rfl ?_
        exact j58 x1 x2 x3 z5 x7 x4 v h k0 k1
      ·
        refine g_lload E gdX12_judged_34 5 rfl ?_
        refine g_aload_n E gdX12_judged_36 rfl 0 rfl ?_
        refine g_get (T := TX12) E fw_X12 0 (wM_0 g ad o) rfl 18 (by decide) w_1484 rfl rfl gdX12_judged_37 ?_
        refine g_aload_n E gdX12_judged_40 rfl 0 rfl ?_
        refine g_get (T := TX12) E fw_X12 0 (wM_0 g ad o) rfl 28 (by decide) w_1494 rfl rfl gdX12_judged_41 ?_
        refine g_iload E gdX12_judged_44 6 rfl ?_
        obtain ⟨hi19, h⟩ := qIn_of h
        refine g_iald E 21 (wM_21 g ad o) (by decide) hi19 gdX12_judged_46 ?_
        obtain ⟨n20, e_n20, h⟩ := qNm_of h
        refine g_nmi e_n20 ?_
        obtain ⟨hi21, h⟩ := qIn_of h
        refine g_iald E 13 (wM_13 g ad o) (by decide) hi21 gdX12_judged_47 ?_
        obtain ⟨n22, e_n22, h⟩ := qNm_of h
        refine g_nmi e_n22 ?_
        obtain ⟨r23, hc24, h⟩ := qB_of h
        refine g_Si (r := r23) (As := [.long z5, iv n22]) (rest := [iv x4]) (w := wM g ad o) E (c_X12_has l g (wM g ad o) z5 n22 r23 hc24) okm_X12_has w_1919 w_1918 rfl rfl (Nat.le_of_ble_eq_true rfl) ⟨Nat.le_of_ble_eq_true rfl, Nat.le_of_ble_eq_true rfl⟩ gdX12_judged_48 ?_
        refine g_if_eq E 58 gdX12_judged_51 (by decide) h (fun h => ?_) (fun h => ?_)
        ·
          refine g_sub E [0, 1, 2, 3, 5, 6] rfl ?_
          exact j58 x1 x2 x3 z5 x7 x4 v h k0 k1
        ·
          refine g_iconst E gdX12_judged_54 ?_
          refine g_goto E 59 gdX12_judged_55 (by decide) ?_
          refine g_sub E [0, 1, 2, 3, 5, 6] rfl ?_
          exact j59 x1 x2 x3 z5 x7 x4 1 v h k0 k1
  have j13 : ∀ (x1 : Int) (x2 : Int) (x3 : Int) (x4 : Int) (z5 : Int64) (x7 : Int), e_X12_judged_13 o x1 x2 x3 x4 z5 x7 = some v → Go X 13 (wM g ad o) [(0, .ref (ad 0)), (1, iv x1), (2, iv x2), (3, iv x3), (4, iv x4), (5, .long z5), (7, iv x7)] [] := by
    intro x1 x2 x3 x4 z5 x7 h
    unfold e_X12_judged_13 at h
    obtain ⟨r, hr, h⟩ := qB_of h
    refine l13 x1 x2 x3 z5 r _ hr ?_
    ·
      intro u0 e
      have e := e.symm
      subst e
      have h : b_X12_judged_68 o x1 x2 x3 u0 = some v := h
      exact j68 x1 x2 x3 u0 h
  unfold s_X12_judged at h
  refine g_iconst E gdX12_judged_0 ?_
  refine g_istore E [(4, iv 0), (0, .ref (ad 0)), (1, iv x1), (2, iv x2), (3, iv x3)] gdX12_judged_1 (by decide) rfl ?_
  refine g_aload_n E gdX12_judged_3 rfl 1 rfl ?_
  refine g_iload_n E gdX12_judged_4 rfl 2 rfl ?_
  obtain ⟨p25, hc26, h⟩ := qB_of h
  refine g_Vl (r := p25) (As := [iv x1]) (rest := []) (w := wM g ad o) E (c_X12_cellsOf l g ad o x1 p25 hc26) okm_X12_cellsOf okw_X12_cellsOf w_1914 rfl (wM_0 g ad o) rfl rfl (Nat.le_of_ble_eq_true rfl) ⟨Nat.le_of_ble_eq_true rfl, Nat.le_of_ble_eq_true rfl⟩ gdX12_judged_5 ?_
  refine g_lstore E [(5, .long p25), (4, iv 0), (0, .ref (ad 0)), (1, iv x1), (2, iv x2), (3, iv x3)] gdX12_judged_8 (by decide) rfl ?_
  refine g_iconst E gdX12_judged_10 ?_
  refine g_istore E [(7, iv 0), (5, .long p25), (4, iv 0), (0, .ref (ad 0)), (1, iv x1), (2, iv x2), (3, iv x3)] gdX12_judged_11 (by decide) rfl ?_
  refine g_sub E [3, 4, 5, 6, 2, 1, 0] rfl ?_
  exact j13 x1 x2 x3 0 p25 0 h
noncomputable def b_X12_best_14 (o : OO) : Option (Int × OO) := some ((-1), o)
noncomputable def b_X12_best_128 (o : OO) (y0 : Int) : Option (Int × OO) := some (y0, o)
noncomputable def b_X12_best_110 (o : OO) (x4 : Int) (x5 : Int) : Option (Int × OO) := qLt x4 0 (b_X12_best_128 o (-9)) (qB2 (s_X12_ask o x5 x4) (fun r1 o3 => b_X12_best_128 o3 r1))
noncomputable def b_X12_best_104 (o : OO) (x1 : Int) (x2 : Int) (x4 : Int) (x5 : Int) (x6 : Int) : Option ((Int × Int × Int) ⊕ ((Int × Int))) := some (.inl (x4, x5, x6 + 1))
noncomputable def b_X12_best_96 (o : OO) (x1 : Int) (x2 : Int) (x6 : Int) (x7 : Int) : Option ((Int × Int × Int) ⊕ ((Int × Int))) := b_X12_best_104 o x1 x2 x6 x7 x6
noncomputable def b_X12_best_71 (o : OO) (x1 : Int) (x2 : Int) (x4 : Int) (x5 : Int) (x6 : Int) (y0 : Int) : Option ((Int × Int × Int) ⊕ ((Int × Int))) := qIn x6 24 (qNm (o.1 25 x6.toNat) (fun n5 => qEq n5 1 (qLt x4 0 (b_X12_best_96 o x1 x2 x6 y0) (qLt y0 x5 (b_X12_best_96 o x1 x2 x6 y0) (b_X12_best_104 o x1 x2 x4 x5 x6))) (b_X12_best_104 o x1 x2 x4 x5 x6)))
noncomputable def l_X12_best_39 (o : OO) (x1 : Int) (x2 : Int) (x4 : Int) (x5 : Int) (x6 : Int) : Option ((Int × Int × Int) ⊕ ((Int × Int))) := qLt x6 (o.1 0 32) (qIn x6 24 (qNm (o.1 25 x6.toNat) (fun n7 => qEq n7 1 (qB (s_X12_judged o x6 x1 x2) (fun r8 => b_X12_best_71 o x1 x2 x4 x5 x6 r8)) (b_X12_best_71 o x1 x2 x4 x5 x6 0)))) (some (.inr ((x4, x5))))
noncomputable def e_X12_best_39 (o : OO) (x1 : Int) (x2 : Int) (x4 : Int) (x5 : Int) (x6 : Int) : Option (Int × OO) := qB (loopW (fun s => l_X12_best_39 o x1 x2 s.1 s.2.1 s.2.2) (x4, x5, x6)) (fun r => b_X12_best_110 o r.1 r.2)
noncomputable def s_X12_best (o : OO) (x1 : Int) (x2 : Int) : Option (Int × OO) := qB (s_X12_isRow x1) (fun r10 => qEq r10 0 (b_X12_best_14 o) (qB (s_X12_isRow x2) (fun r12 => qEq r12 0 (b_X12_best_14 o) (qB2 (s_X12_askedWeights o x1 x2) (fun r14 o16 => qLt r14 0 (some (r14, o16)) (e_X12_best_39 o16 x1 x2 (-9) 0 0))))))
set_option maxHeartbeats 4000000 in
set_option maxRecDepth 100000 in
theorem c_X12_best (l : Launch) (g : GG) (ad : Nat → Nat) (o : OO) (x1 : Int) (x2 : Int) (v : Int × OO) (h : s_X12_best o x1 x2 = some v) : CI l g yX12_best cX12_best 8 (some .int) 5 125 (wM g ad o) [.ref (ad 0), iv x1, iv x2] v.1 (wM g ad v.2) := by
  refine met_I (by decide) (Nat.le_of_ble_eq_true rfl) ?_
  intro X E hQ
  show Go X 0 (wM g ad o) [(0, .ref (ad 0)), (1, iv x1), (2, iv x2)] []
  have j14 : ∀ (o : OO), b_X12_best_14 o = some v → Go X 14 (wM g ad o) [] [] := by
    intro o h
    unfold b_X12_best_14 at h
    refine g_iconst E gdX12_best_14 ?_
    exact g_iret E hQ (by rw [← Option.some.inj h]) (by rw [← Option.some.inj h]) gdX12_best_15
  have j128 : ∀ (o : OO) (y0 : Int), b_X12_best_128 o y0 = some v → Go X 128 (wM g ad o) [] [iv y0] := by
    intro o y0 h
    unfold b_X12_best_128 at h
    exact g_iret E hQ (by rw [← Option.some.inj h]) (by rw [← Option.some.inj h]) gdX12_best_128
  have j110 : ∀ (o : OO) (x4 : Int) (x5 : Int), b_X12_best_110 o x4 x5 = some v → Go X 110 (wM g ad o) [(0, .ref (ad 0)), (4, iv x4), (5, iv x5)] [] := by
    intro o x4 x5 h
    unfold b_X12_best_110 at h
    refine g_iload E gdX12_best_110 1 rfl ?_
    refine g_if_ge E 120 gdX12_best_112 (by decide) h (fun h => ?_) (fun h => ?_)
    ·
      refine g_aload_n E gdX12_best_120 rfl 0 rfl ?_
      refine g_iload E gdX12_best_121 2 rfl ?_
      refine g_iload E gdX12_best_123 1 rfl ?_
      obtain ⟨r1, o3, hc2, h⟩ := qB2_of h
      refine g_Vi (r := r1) (As := [iv x5, iv x4]) (rest := []) (w := wM g ad o3) E (c_X12_ask l g ad o x5 x4 (r1, o3) hc2) okm_X12_ask okw_X12_ask w_1835 rfl (wM_0 g ad o) rfl rfl (Nat.le_of_ble_eq_true rfl) ⟨Nat.le_of_ble_eq_true rfl, Nat.le_of_ble_eq_true rfl⟩ gdX12_best_125 ?_
      refine g_sub E [] rfl ?_
      exact j128 o3 r1 h
    ·
      refine g_bipush E gdX12_best_115 (by decide) ?_
      refine g_goto E 128 gdX12_best_117 (by decide) ?_
      refine g_sub E [] rfl ?_
      exact j128 o (-9) h
  have j104 : ∀ (o : OO) (x1 : Int) (x2 : Int) (x4 : Int) (x5 : Int) (x6 : Int) (v : (Int × Int × Int) ⊕ ((Int × Int))), b_X12_best_104 o x1 x2 x4 x5 x6 = some v → (∀ (x4 : Int) (x5 : Int) (x6 : Int), v = .inl (x4, x5, x6) → Go X 39 (wM g ad o) [(0, .ref (ad 0)), (1, iv x1), (2, iv x2), (4, iv x4), (5, iv x5), (6, iv x6)] []) → (∀ (x4 : Int) (x5 : Int), v = .inr ((x4, x5)) → Go X 110 (wM g ad o) [(0, .ref (ad 0)), (4, iv x4), (5, iv x5)] []) → Go X 104 (wM g ad o) [(0, .ref (ad 0)), (1, iv x1), (2, iv x2), (4, iv x4), (5, iv x5), (6, iv x6)] [] := by
    intro o x1 x2 x4 x5 x6 v h k0 k1
    unfold b_X12_best_104 at h
    refine g_iinc E [(6, iv (x6 + 1)), (0, .ref (ad 0)), (1, iv x1), (2, iv x2), (4, iv x4), (5, iv x5)] gdX12_best_104 5 rfl (by decide) rfl ?_
    refine g_goto E 39 gdX12_best_107 (by decide) ?_
    refine g_sub E [1, 2, 3, 4, 5, 0] rfl ?_
    exact k0 x4 x5 (x6 + 1) (Option.some.inj h).symm
  have j96 : ∀ (o : OO) (x1 : Int) (x2 : Int) (x6 : Int) (x7 : Int) (v : (Int × Int × Int) ⊕ ((Int × Int))), b_X12_best_96 o x1 x2 x6 x7 = some v → (∀ (x4 : Int) (x5 : Int) (x6 : Int), v = .inl (x4, x5, x6) → Go X 39 (wM g ad o) [(0, .ref (ad 0)), (1, iv x1), (2, iv x2), (4, iv x4), (5, iv x5), (6, iv x6)] []) → (∀ (x4 : Int) (x5 : Int), v = .inr ((x4, x5)) → Go X 110 (wM g ad o) [(0, .ref (ad 0)), (4, iv x4), (5, iv x5)] []) → Go X 96 (wM g ad o) [(0, .ref (ad 0)), (1, iv x1), (2, iv x2), (6, iv x6), (7, iv x7)] [] := by
    intro o x1 x2 x6 x7 v h k0 k1
    unfold b_X12_best_96 at h
    refine g_iload E gdX12_best_96 3 rfl ?_
    refine g_istore E [(4, iv x6), (0, .ref (ad 0)), (1, iv x1), (2, iv x2), (6, iv x6), (7, iv x7)] gdX12_best_98 (by decide) rfl ?_
    refine g_iload E gdX12_best_100 5 rfl ?_
    refine g_istore E [(5, iv x7), (4, iv x6), (0, .ref (ad 0)), (1, iv x1), (2, iv x2), (6, iv x6), (7, iv x7)] gdX12_best_102 (by decide) rfl ?_
    refine g_sub E [2, 3, 4, 1, 0, 5] rfl ?_
    exact j104 o x1 x2 x6 x7 x6 v h k0 k1
  have j71 : ∀ (o : OO) (x1 : Int) (x2 : Int) (x4 : Int) (x5 : Int) (x6 : Int) (y0 : Int) (v : (Int × Int × Int) ⊕ ((Int × Int))), b_X12_best_71 o x1 x2 x4 x5 x6 y0 = some v → (∀ (x4 : Int) (x5 : Int) (x6 : Int), v = .inl (x4, x5, x6) → Go X 39 (wM g ad o) [(0, .ref (ad 0)), (1, iv x1), (2, iv x2), (4, iv x4), (5, iv x5), (6, iv x6)] []) → (∀ (x4 : Int) (x5 : Int), v = .inr ((x4, x5)) → Go X 110 (wM g ad o) [(0, .ref (ad 0)), (4, iv x4), (5, iv x5)] []) → Go X 71 (wM g ad o) [(0, .ref (ad 0)), (1, iv x1), (2, iv x2), (4, iv x4), (5, iv x5), (6, iv x6)] [iv y0] := by
    intro o x1 x2 x4 x5 x6 y0 v h k0 k1
    unfold b_X12_best_71 at h
    refine g_istore E [(7, iv y0), (0, .ref (ad 0)), (1, iv x1), (2, iv x2), (4, iv x4), (5, iv x5), (6, iv x6)] gdX12_best_71 (by decide) rfl ?_
    refine g_aload_n E gdX12_best_73 rfl 1 rfl ?_
    refine g_get (T := TX12) E fw_X12 0 (wM_0 g ad o) rfl 33 (by decide) w_1499 rfl rfl gdX12_best_74 ?_
    refine g_iload E gdX12_best_77 6 rfl ?_
    obtain ⟨hi4, h⟩ := qIn_of h
    refine g_iald E 25 (wM_25 g ad o) (by decide) hi4 gdX12_best_79 ?_
    obtain ⟨n5, e_n5, h⟩ := qNm_of h
    refine g_nmi e_n5 ?_
    refine g_iconst E gdX12_best_80 ?_
    refine g_icmp_ne E 104 gdX12_best_81 (by decide) h (fun h => ?_) (fun h => ?_)
    ·
      refine g_sub E [1, 2, 3, 4, 5, 6] rfl ?_
      exact j104 o x1 x2 x4 x5 x6 v h k0 k1
    ·
      refine g_iload E gdX12_best_84 4 rfl ?_
      refine g_if_lt E 96 gdX12_best_86 (by decide) h (fun h => ?_) (fun h => ?_)
      ·
        refine g_sub E [1, 2, 3, 6, 0] rfl ?_
        exact j96 o x1 x2 x6 y0 v h k0 k1
      ·
        refine g_iload E gdX12_best_89 0 rfl ?_
        refine g_iload E gdX12_best_91 5 rfl ?_
        refine g_icmp_ge E 104 gdX12_best_93 (by decide) h (fun h => ?_) (fun h => ?_)
        ·
          refine g_sub E [1, 2, 3, 4, 5, 6] rfl ?_
          exact j104 o x1 x2 x4 x5 x6 v h k0 k1
        ·
          refine g_sub E [1, 2, 3, 6, 0] rfl ?_
          exact j96 o x1 x2 x6 y0 v h k0 k1
  have l39 : ∀ (o : OO) (x1 : Int) (x2 : Int) (r : (Int × Int)) (s0 : Int × Int × Int), loopW (fun s => l_X12_best_39 o x1 x2 s.1 s.2.1 s.2.2) s0 = some r → (∀ (x4 : Int) (x5 : Int), r = ((x4, x5)) → Go X 110 (wM g ad o) [(0, .ref (ad 0)), (4, iv x4), (5, iv x5)] []) → Go X 39 (wM g ad o) [(0, .ref (ad 0)), (1, iv x1), (2, iv x2), (4, iv s0.1), (5, iv s0.2.1), (6, iv s0.2.2)] [] := by
    intro o x1 x2 r s0 h k1
    refine loop_rule (Head := fun s0 => Go X 39 (wM g ad o) [(0, .ref (ad 0)), (1, iv x1), (2, iv x2), (4, iv s0.1), (5, iv s0.2.1), (6, iv s0.2.2)] []) h ?_
    intro s v h kk kx
    obtain ⟨x4, x5, x6⟩ := s
    have h : l_X12_best_39 o x1 x2 x4 x5 x6 = some v := h
    have k0 : ∀ (x4 : Int) (x5 : Int) (x6 : Int), v = .inl (x4, x5, x6) → Go X 39 (wM g ad o) [(0, .ref (ad 0)), (1, iv x1), (2, iv x2), (4, iv x4), (5, iv x5), (6, iv x6)] [] := fun x4 x5 x6 e => kk (x4, x5, x6) e
    have k1 : ∀ (x4 : Int) (x5 : Int), v = .inr ((x4, x5)) → Go X 110 (wM g ad o) [(0, .ref (ad 0)), (4, iv x4), (5, iv x5)] [] := fun x4 x5 e => k1 x4 x5 (kx _ e).symm
    unfold l_X12_best_39 at h
    refine g_iload E gdX12_best_39 5 rfl ?_
    refine g_aload_n E gdX12_best_41 rfl 0 rfl ?_
    refine g_get (T := TX12) E fw_X12 0 (wM_0 g ad o) rfl 32 (by decide) w_1498 rfl rfl gdX12_best_42 ?_
    refine g_icmp_ge E 110 gdX12_best_45 (by decide) h (fun h => ?_) (fun h => ?_)
    ·
      refine g_sub E [0, 3, 4] rfl ?_
      exact k1 x4 x5 (Option.some.inj h).symm
    ·
      refine g_aload_n E gdX12_best_48 rfl 0 rfl ?_
      refine g_get (T := TX12) E fw_X12 0 (wM_0 g ad o) rfl 33 (by decide) w_1499 rfl rfl gdX12_best_49 ?_
      refine g_iload E gdX12_best_52 5 rfl ?_
      obtain ⟨hi6, h⟩ := qIn_of h
      refine g_iald E 25 (wM_25 g ad o) (by decide) hi6 gdX12_best_54 ?_
      obtain ⟨n7, e_n7, h⟩ := qNm_of h
      refine g_nmi e_n7 ?_
      refine g_iconst E gdX12_best_55 ?_
      refine g_icmp_ne E 70 gdX12_best_56 (by decide) h (fun h => ?_) (fun h => ?_)
      ·
        refine g_iconst E gdX12_best_70 ?_
        exact j71 o x1 x2 x4 x5 x6 0 v h k0 k1
      ·
        refine g_aload_n E gdX12_best_59 rfl 0 rfl ?_
        refine g_iload E gdX12_best_60 5 rfl ?_
        refine g_iload_n E gdX12_best_62 rfl 1 rfl ?_
        refine g_iload_n E gdX12_best_63 rfl 2 rfl ?_
        obtain ⟨r8, hc9, h⟩ := qB_of h
        refine g_Vi (r := r8) (As := [iv x6, iv x1, iv x2]) (rest := []) (w := wM g ad o) E (c_X12_judged l g ad o x6 x1 x2 r8 hc9) okm_X12_judged okw_X12_judged w_2114 rfl (wM_0 g ad o) rfl rfl (Nat.le_of_ble_eq_true rfl) ⟨Nat.le_of_ble_eq_true rfl, Nat.le_of_ble_eq_true rfl⟩ gdX12_best_64 ?_
        refine g_goto E 71 gdX12_best_67 (by decide) ?_
        exact j71 o x1 x2 x4 x5 x6 r8 v h k0 k1
  have j39 : ∀ (o : OO) (x1 : Int) (x2 : Int) (x4 : Int) (x5 : Int) (x6 : Int), e_X12_best_39 o x1 x2 x4 x5 x6 = some v → Go X 39 (wM g ad o) [(0, .ref (ad 0)), (1, iv x1), (2, iv x2), (4, iv x4), (5, iv x5), (6, iv x6)] [] := by
    intro o x1 x2 x4 x5 x6 h
    unfold e_X12_best_39 at h
    obtain ⟨r, hr, h⟩ := qB_of h
    refine l39 o x1 x2 r _ hr ?_
    ·
      intro u0 u1 e
      subst e
      have h : b_X12_best_110 o u0 u1 = some v := h
      exact j110 o u0 u1 h
  unfold s_X12_best at h
  refine g_iload_n E gdX12_best_0 rfl 1 rfl ?_
  obtain ⟨r10, hc11, h⟩ := qB_of h
  refine g_Si (r := r10) (As := [iv x1]) (rest := []) (w := wM g ad o) E (c_X12_isRow l g (wM g ad o) x1 r10 hc11) okm_X12_isRow w_1703 w_1702 rfl rfl (Nat.le_of_ble_eq_true rfl) ⟨Nat.le_of_ble_eq_true rfl, Nat.le_of_ble_eq_true rfl⟩ gdX12_best_1 ?_
  refine g_if_eq E 14 gdX12_best_4 (by decide) h (fun h => ?_) (fun h => ?_)
  ·
    refine g_sub E [] rfl ?_
    exact j14 o h
  ·
    refine g_iload_n E gdX12_best_7 rfl 2 rfl ?_
    obtain ⟨r12, hc13, h⟩ := qB_of h
    refine g_Si (r := r12) (As := [iv x2]) (rest := []) (w := wM g ad o) E (c_X12_isRow l g (wM g ad o) x2 r12 hc13) okm_X12_isRow w_1703 w_1702 rfl rfl (Nat.le_of_ble_eq_true rfl) ⟨Nat.le_of_ble_eq_true rfl, Nat.le_of_ble_eq_true rfl⟩ gdX12_best_8 ?_
    refine g_if_ne E 16 gdX12_best_11 (by decide) h (fun h => ?_) (fun h => ?_)
    ·
      refine g_aload_n E gdX12_best_16 rfl 0 rfl ?_
      refine g_iload_n E gdX12_best_17 rfl 1 rfl ?_
      refine g_iload_n E gdX12_best_18 rfl 2 rfl ?_
      obtain ⟨r14, o16, hc15, h⟩ := qB2_of h
      refine g_Vi (r := r14) (As := [iv x1, iv x2]) (rest := []) (w := wM g ad o16) E (c_X12_askedWeights l g ad o x1 x2 (r14, o16) hc15) okm_X12_askedWeights okw_X12_askedWeights w_2110 rfl (wM_0 g ad o) rfl rfl (Nat.le_of_ble_eq_true rfl) ⟨Nat.le_of_ble_eq_true rfl, Nat.le_of_ble_eq_true rfl⟩ gdX12_best_19 ?_
      refine g_istore_n E [(3, iv r14), (0, .ref (ad 0)), (1, iv x1), (2, iv x2)] gdX12_best_22 rfl (by decide) rfl ?_
      refine g_iload_n E gdX12_best_23 rfl 0 rfl ?_
      refine g_if_ge E 29 gdX12_best_24 (by decide) h (fun h => ?_) (fun h => ?_)
      ·
        refine g_bipush E gdX12_best_29 (by decide) ?_
        refine g_istore E [(4, iv (-9)), (3, iv r14), (0, .ref (ad 0)), (1, iv x1), (2, iv x2)] gdX12_best_31 (by decide) rfl ?_
        refine g_iconst E gdX12_best_33 ?_
        refine g_istore E [(5, iv 0), (4, iv (-9)), (3, iv r14), (0, .ref (ad 0)), (1, iv x1), (2, iv x2)] gdX12_best_34 (by decide) rfl ?_
        refine g_iconst E gdX12_best_36 ?_
        refine g_istore E [(6, iv 0), (5, iv 0), (4, iv (-9)), (3, iv r14), (0, .ref (ad 0)), (1, iv x1), (2, iv x2)] gdX12_best_37 (by decide) rfl ?_
        refine g_sub E [4, 5, 6, 2, 1, 0] rfl ?_
        exact j39 o16 x1 x2 (-9) 0 0 h
      ·
        refine g_iload_n E gdX12_best_27 rfl 0 rfl ?_
        exact g_iret E hQ (by rw [← Option.some.inj h]) (by rw [← Option.some.inj h]) gdX12_best_28
    ·
      refine g_sub E [] rfl ?_
      exact j14 o h
noncomputable def s_X12_isCell (x0 : Int) : Option (Int) := qB (s_X12_in x0 0 63) (fun r1 => qZ r1 (some r1))
set_option maxHeartbeats 4000000 in
set_option maxRecDepth 100000 in
theorem c_X12_isCell (l : Launch) (g : GG) (ws : va_W) (x0 : Int) (v : Int) (h : s_X12_isCell x0 = some v) : CI l g yX12_isCell cX12_isCell 1 (some .boolean) 1 22 ws [iv x0] v ws := by
  refine met_I (by decide) (Nat.le_of_ble_eq_true rfl) ?_
  intro X E hQ
  show Go X 0 ws [(0, iv x0)] []
  unfold s_X12_isCell at h
  refine g_iload_n E gdX12_isCell_0 rfl 0 rfl ?_
  refine g_iconst E gdX12_isCell_1 ?_
  refine g_bipush E gdX12_isCell_2 (by decide) ?_
  obtain ⟨r1, hc2, h⟩ := qB_of h
  refine g_Si (r := r1) (As := [iv x0, iv 0, iv 63]) (rest := []) (w := ws) E (c_X12_in l g ws x0 0 63 r1 hc2) okm_X12_in w_1706 w_1705 rfl rfl (Nat.le_of_ble_eq_true rfl) ⟨Nat.le_of_ble_eq_true rfl, Nat.le_of_ble_eq_true rfl⟩ gdX12_isCell_4 ?_
  obtain ⟨hz, h⟩ := qZ_of h
  exact g_zret E hQ hz (Option.some.inj h) rfl gdX12_isCell_7
noncomputable def s_X12_isWorth (x0 : Int) : Option (Int) := qB (s_X12_in x0 1 100000) (fun r1 => qZ r1 (some r1))
set_option maxHeartbeats 4000000 in
set_option maxRecDepth 100000 in
theorem c_X12_isWorth (l : Launch) (g : GG) (ws : va_W) (x0 : Int) (v : Int) (h : s_X12_isWorth x0 = some v) : CI l g yX12_isWorth cX12_isWorth 1 (some .boolean) 1 22 ws [iv x0] v ws := by
  refine met_I (by decide) (Nat.le_of_ble_eq_true rfl) ?_
  intro X E hQ
  show Go X 0 ws [(0, iv x0)] []
  unfold s_X12_isWorth at h
  refine g_iload_n E gdX12_isWorth_0 rfl 0 rfl ?_
  refine g_iconst E gdX12_isWorth_1 ?_
  refine g_ldcw (k := 100000) E gdX12_isWorth_2 w_1802 (by decide) ?_
  obtain ⟨r1, hc2, h⟩ := qB_of h
  refine g_Si (r := r1) (As := [iv x0, iv 1, iv 100000]) (rest := []) (w := ws) E (c_X12_in l g ws x0 1 100000 r1 hc2) okm_X12_in w_1706 w_1705 rfl rfl (Nat.le_of_ble_eq_true rfl) ⟨Nat.le_of_ble_eq_true rfl, Nat.le_of_ble_eq_true rfl⟩ gdX12_isWorth_5 ?_
  obtain ⟨hz, h⟩ := qZ_of h
  exact g_zret E hQ hz (Option.some.inj h) rfl gdX12_isWorth_8
noncomputable def b_X12_on_44 (o : OO) (x2 : Int) : Option (Int) := some x2
noncomputable def b_X12_on_37 (o : OO) (x1 : Int) (x3 : Int) (y0 : Int) : Option ((Int × Int) ⊕ ((Int))) := some (.inl (y0, x3 + 1))
noncomputable def b_X12_on_36 (o : OO) (x1 : Int) (x2 : Int) (x3 : Int) : Option ((Int × Int) ⊕ ((Int))) := b_X12_on_37 o x1 x3 x2
noncomputable def l_X12_on_5 (o : OO) (x1 : Int) (x2 : Int) (x3 : Int) : Option ((Int × Int) ⊕ ((Int))) := qLt x3 (o.1 0 17) (qIn x3 32 (qNm (o.1 13 x3.toNat) (fun n2 => qEq n2 x1 (qIn x3 32 (qNm (o.1 16 x3.toNat) (fun n4 => qEq n4 0 (b_X12_on_37 o x1 x3 x3) (b_X12_on_36 o x1 x2 x3)))) (b_X12_on_36 o x1 x2 x3)))) (some (.inr (x2)))
noncomputable def e_X12_on_5 (o : OO) (x1 : Int) (x2 : Int) (x3 : Int) : Option (Int) := qB (loopW (fun s => l_X12_on_5 o x1 s.1 s.2) (x2, x3)) (fun r => b_X12_on_44 o r)
noncomputable def s_X12_on (o : OO) (x1 : Int) : Option (Int) := e_X12_on_5 o x1 (-9) 0
set_option maxHeartbeats 4000000 in
set_option maxRecDepth 100000 in
theorem c_X12_on (l : Launch) (g : GG) (ad : Nat → Nat) (o : OO) (x1 : Int) (v : Int) (h : s_X12_on o x1 = some v) : CI l g yX12_on cX12_on 4 (some .int) 0 0 (wM g ad o) [.ref (ad 0), iv x1] v (wM g ad o) := by
  refine met_I (by decide) (Nat.le_of_ble_eq_true rfl) ?_
  intro X E hQ
  show Go X 0 (wM g ad o) [(0, .ref (ad 0)), (1, iv x1)] []
  have j44 : ∀ (x2 : Int), b_X12_on_44 o x2 = some v → Go X 44 (wM g ad o) [(2, iv x2)] [] := by
    intro x2 h
    unfold b_X12_on_44 at h
    refine g_iload_n E gdX12_on_44 rfl 0 rfl ?_
    exact g_iret E hQ (Option.some.inj h) rfl gdX12_on_45
  have j37 : ∀ (x1 : Int) (x3 : Int) (y0 : Int) (v : (Int × Int) ⊕ ((Int))), b_X12_on_37 o x1 x3 y0 = some v → (∀ (x2 : Int) (x3 : Int), v = .inl (x2, x3) → Go X 5 (wM g ad o) [(0, .ref (ad 0)), (1, iv x1), (2, iv x2), (3, iv x3)] []) → (∀ (x2 : Int), v = .inr (x2) → Go X 44 (wM g ad o) [(2, iv x2)] []) → Go X 37 (wM g ad o) [(0, .ref (ad 0)), (1, iv x1), (3, iv x3)] [iv y0] := by
    intro x1 x3 y0 v h k0 k1
    unfold b_X12_on_37 at h
    refine g_istore_n E [(2, iv y0), (0, .ref (ad 0)), (1, iv x1), (3, iv x3)] gdX12_on_37 rfl (by decide) rfl ?_
    refine g_iinc E [(3, iv (x3 + 1)), (2, iv y0), (0, .ref (ad 0)), (1, iv x1)] gdX12_on_38 3 rfl (by decide) rfl ?_
    refine g_goto E 5 gdX12_on_41 (by decide) ?_
    refine g_sub E [2, 3, 1, 0] rfl ?_
    exact k0 y0 (x3 + 1) (Option.some.inj h).symm
  have j36 : ∀ (x1 : Int) (x2 : Int) (x3 : Int) (v : (Int × Int) ⊕ ((Int))), b_X12_on_36 o x1 x2 x3 = some v → (∀ (x2 : Int) (x3 : Int), v = .inl (x2, x3) → Go X 5 (wM g ad o) [(0, .ref (ad 0)), (1, iv x1), (2, iv x2), (3, iv x3)] []) → (∀ (x2 : Int), v = .inr (x2) → Go X 44 (wM g ad o) [(2, iv x2)] []) → Go X 36 (wM g ad o) [(0, .ref (ad 0)), (1, iv x1), (2, iv x2), (3, iv x3)] [] := by
    intro x1 x2 x3 v h k0 k1
    unfold b_X12_on_36 at h
    refine g_iload_n E gdX12_on_36 rfl 2 rfl ?_
    refine g_sub E [0, 1, 3] rfl ?_
    exact j37 x1 x3 x2 v h k0 k1
  have l5 : ∀ (x1 : Int) (r : (Int)) (s0 : Int × Int), loopW (fun s => l_X12_on_5 o x1 s.1 s.2) s0 = some r → (∀ (x2 : Int), r = (x2) → Go X 44 (wM g ad o) [(2, iv x2)] []) → Go X 5 (wM g ad o) [(0, .ref (ad 0)), (1, iv x1), (2, iv s0.1), (3, iv s0.2)] [] := by
    intro x1 r s0 h k1
    refine loop_rule (Head := fun s0 => Go X 5 (wM g ad o) [(0, .ref (ad 0)), (1, iv x1), (2, iv s0.1), (3, iv s0.2)] []) h ?_
    intro s v h kk kx
    obtain ⟨x2, x3⟩ := s
    have h : l_X12_on_5 o x1 x2 x3 = some v := h
    have k0 : ∀ (x2 : Int) (x3 : Int), v = .inl (x2, x3) → Go X 5 (wM g ad o) [(0, .ref (ad 0)), (1, iv x1), (2, iv x2), (3, iv x3)] [] := fun x2 x3 e => kk (x2, x3) e
    have k1 : ∀ (x2 : Int), v = .inr (x2) → Go X 44 (wM g ad o) [(2, iv x2)] [] := fun x2 e => k1 x2 (kx _ e).symm
    unfold l_X12_on_5 at h
    refine g_iload_n E gdX12_on_5 rfl 3 rfl ?_
    refine g_aload_n E gdX12_on_6 rfl 0 rfl ?_
    refine g_get (T := TX12) E fw_X12 0 (wM_0 g ad o) rfl 17 (by decide) w_1483 rfl rfl gdX12_on_7 ?_
    refine g_icmp_ge E 44 gdX12_on_10 (by decide) h (fun h => ?_) (fun h => ?_)
    ·
      refine g_sub E [2] rfl ?_
      exact k1 x2 (Option.some.inj h).symm
    ·
      refine g_aload_n E gdX12_on_13 rfl 0 rfl ?_
      refine g_get (T := TX12) E fw_X12 0 (wM_0 g ad o) rfl 18 (by decide) w_1484 rfl rfl gdX12_on_14 ?_
      refine g_iload_n E gdX12_on_17 rfl 3 rfl ?_
      obtain ⟨hi1, h⟩ := qIn_of h
      refine g_iald E 13 (wM_13 g ad o) (by decide) hi1 gdX12_on_18 ?_
      obtain ⟨n2, e_n2, h⟩ := qNm_of h
      refine g_nmi e_n2 ?_
      refine g_iload_n E gdX12_on_19 rfl 1 rfl ?_
      refine g_icmp_ne E 36 gdX12_on_20 (by decide) h (fun h => ?_) (fun h => ?_)
      ·
        exact j36 x1 x2 x3 v h k0 k1
      ·
        refine g_aload_n E gdX12_on_23 rfl 0 rfl ?_
        refine g_get (T := TX12) E fw_X12 0 (wM_0 g ad o) rfl 21 (by decide) w_1487 rfl rfl gdX12_on_24 ?_
        refine g_iload_n E gdX12_on_27 rfl 3 rfl ?_
        obtain ⟨hi3, h⟩ := qIn_of h
        refine g_zald E 16 (wM_16 g ad o) (by decide) hi3 gdX12_on_28 ?_
        obtain ⟨n4, e_n4, h⟩ := qNm_of h
        refine g_nmi e_n4 ?_
        refine g_if_ne E 36 gdX12_on_29 (by decide) h (fun h => ?_) (fun h => ?_)
        ·
          exact j36 x1 x2 x3 v h k0 k1
        ·
          refine g_iload_n E gdX12_on_32 rfl 3 rfl ?_
          refine g_goto E 37 gdX12_on_33 (by decide) ?_
          refine g_sub E [0, 1, 3] rfl ?_
          exact j37 x1 x3 x3 v h k0 k1
  have j5 : ∀ (x1 : Int) (x2 : Int) (x3 : Int), e_X12_on_5 o x1 x2 x3 = some v → Go X 5 (wM g ad o) [(0, .ref (ad 0)), (1, iv x1), (2, iv x2), (3, iv x3)] [] := by
    intro x1 x2 x3 h
    unfold e_X12_on_5 at h
    obtain ⟨r, hr, h⟩ := qB_of h
    refine l5 x1 r _ hr ?_
    ·
      intro u0 e
      have e := e.symm
      subst e
      have h : b_X12_on_44 o u0 = some v := h
      exact j44 u0 h
  unfold s_X12_on at h
  refine g_bipush E gdX12_on_0 (by decide) ?_
  refine g_istore_n E [(2, iv (-9)), (0, .ref (ad 0)), (1, iv x1)] gdX12_on_2 rfl (by decide) rfl ?_
  refine g_iconst E gdX12_on_3 ?_
  refine g_istore_n E [(3, iv 0), (2, iv (-9)), (0, .ref (ad 0)), (1, iv x1)] gdX12_on_4 rfl (by decide) rfl ?_
  refine g_sub E [2, 3, 1, 0] rfl ?_
  exact j5 x1 (-9) 0 h
noncomputable def s_X12_tell (o : OO) (x1 : Int) (x2 : Int) : Option (OO) := qIn (o.1 0 23) 100 (qNm (st1 o 18 ((o.1 0 23).toNat) x1) (fun o2 => qIn (o2.1 0 23) 100 (qNm (st1 o2 19 ((o2.1 0 23).toNat) (o2.1 0 4)) (fun o4 => qIn (o4.1 0 23) 100 (qNm (st1 o4 20 ((o4.1 0 23).toNat) x2) (fun o6 => qNm (st1 o6 0 23 ((o6.1 0 23) + 1)) (fun o7 => some o7)))))))
set_option maxHeartbeats 4000000 in
set_option maxRecDepth 100000 in
theorem c_X12_tell (l : Launch) (g : GG) (ad : Nat → Nat) (o : OO) (x1 : Int) (x2 : Int) (v : OO) (h : s_X12_tell o x1 x2 = some v) : CV l g yX12_tell cX12_tell 3 0 0 (wM g ad o) [.ref (ad 0), iv x1, iv x2] (wM g ad v) := by
  refine met_V (by decide) (Nat.le_of_ble_eq_true rfl) ?_
  intro X E hQ
  show Go X 0 (wM g ad o) [(0, .ref (ad 0)), (1, iv x1), (2, iv x2)] []
  unfold s_X12_tell at h
  refine g_aload_n E gdX12_tell_0 rfl 0 rfl ?_
  refine g_get (T := TX12) E fw_X12 0 (wM_0 g ad o) rfl 24 (by decide) w_1490 rfl rfl gdX12_tell_1 ?_
  refine g_aload_n E gdX12_tell_4 rfl 0 rfl ?_
  refine g_get (T := TX12) E fw_X12 0 (wM_0 g ad o) rfl 23 (by decide) w_1489 rfl rfl gdX12_tell_5 ?_
  refine g_iload_n E gdX12_tell_8 rfl 1 rfl ?_
  obtain ⟨hi1, h⟩ := qIn_of h
  obtain ⟨o2, e_o2, h⟩ := qNm_of h
  refine g_iast (ws' := wM g ad o2) E 18 (wM_18 g ad o) (by decide) hi1 (by rw [e_o2]; exact wM_s18 g ad o _ _) gdX12_tell_9 ?_
  refine g_aload_n E gdX12_tell_10 rfl 0 rfl ?_
  refine g_get (T := TX12) E fw_X12 0 (wM_0 g ad o2) rfl 25 (by decide) w_1491 rfl rfl gdX12_tell_11 ?_
  refine g_aload_n E gdX12_tell_14 rfl 0 rfl ?_
  refine g_get (T := TX12) E fw_X12 0 (wM_0 g ad o2) rfl 23 (by decide) w_1489 rfl rfl gdX12_tell_15 ?_
  refine g_aload_n E gdX12_tell_18 rfl 0 rfl ?_
  refine g_get (T := TX12) E fw_X12 0 (wM_0 g ad o2) rfl 4 (by decide) w_1470 rfl rfl gdX12_tell_19 ?_
  obtain ⟨hi3, h⟩ := qIn_of h
  obtain ⟨o4, e_o4, h⟩ := qNm_of h
  refine g_iast (ws' := wM g ad o4) E 19 (wM_19 g ad o2) (by decide) hi3 (by rw [e_o4]; exact wM_s19 g ad o2 _ _) gdX12_tell_22 ?_
  refine g_aload_n E gdX12_tell_23 rfl 0 rfl ?_
  refine g_get (T := TX12) E fw_X12 0 (wM_0 g ad o4) rfl 26 (by decide) w_1492 rfl rfl gdX12_tell_24 ?_
  refine g_aload_n E gdX12_tell_27 rfl 0 rfl ?_
  refine g_get (T := TX12) E fw_X12 0 (wM_0 g ad o4) rfl 23 (by decide) w_1489 rfl rfl gdX12_tell_28 ?_
  refine g_iload_n E gdX12_tell_31 rfl 2 rfl ?_
  obtain ⟨hi5, h⟩ := qIn_of h
  obtain ⟨o6, e_o6, h⟩ := qNm_of h
  refine g_iast (ws' := wM g ad o6) E 20 (wM_20 g ad o4) (by decide) hi5 (by rw [e_o6]; exact wM_s20 g ad o4 _ _) gdX12_tell_32 ?_
  refine g_aload_n E gdX12_tell_33 rfl 0 rfl ?_
  refine g_dup E gdX12_tell_34 rfl ?_
  refine g_get (T := TX12) E fw_X12 0 (wM_0 g ad o6) rfl 23 (by decide) w_1489 rfl rfl gdX12_tell_35 ?_
  refine g_iconst E gdX12_tell_38 ?_
  refine g_iadd E gdX12_tell_39 ?_
  obtain ⟨o7, e_o7, h⟩ := qNm_of h
  refine g_puti (T := TX12) (ws' := wM g ad o7) E fw_X12 tyX12 tyX12_ok nmX12 0 (wM_0 g ad o6) rfl 23 (by decide) w_1489 rfl rfl (by decide +kernel) (Nat.le_of_ble_eq_true rfl) (by rw [e_o7]; exact wM_p0_23 g ad o6 _) gdX12_tell_40 ?_
  exact g_vret E hQ (by rw [← Option.some.inj h]) gdX12_tell_43
noncomputable def b_X12_building_34 (o : OO) : Option (Int × OO) := some ((-1), o)
noncomputable def b_X12_building_54 (o : OO) : Option (Int × OO) := some ((-2), o)
noncomputable def b_X12_building_75 (o : OO) : Option (Int × OO) := some ((-4), o)
noncomputable def s_X12_building (o : OO) (x1 : Int) (x2 : Int) (x3 : Int) (x4 : Int) : Option (Int × OO) := qB (s_X12_isCell x1) (fun r1 => qEq r1 0 (b_X12_building_34 o) (qB (s_X12_in x2 0 2) (fun r3 => qEq r3 0 (b_X12_building_34 o) (qB (s_X12_in x3 0 20) (fun r5 => qEq r5 0 (b_X12_building_34 o) (qB (s_X12_isWorth x4) (fun r7 => qEq r7 0 (b_X12_building_34 o) (qEq (o.1 0 17) 32 (b_X12_building_54 o) (qEq (o.1 0 23) 100 (b_X12_building_54 o) (qIn x1 64 (qNm (o.1 11 x1.toNat) (fun n10 => qEq n10 4 (b_X12_building_75 o) (qB (s_X12_on o x1) (fun r11 => qLt r11 0 (qIn (o.1 0 17) 32 (qNm (st1 o 13 ((o.1 0 17).toNat) x1) (fun o14 => qIn (o14.1 0 17) 32 (qNm (st1 o14 14 ((o14.1 0 17).toNat) x2) (fun o16 => qIn (o16.1 0 17) 32 (qNm (st1 o16 15 ((o16.1 0 17).toNat) x3) (fun o18 => qIn (o18.1 0 17) 32 (qNm (st1 o18 17 ((o18.1 0 17).toNat) (-9)) (fun o20 => qB (s_X12_tell o20 (o20.1 0 17) x4) (fun o23 => qNm (st1 o23 0 17 ((o23.1 0 17) + 1)) (fun o24 => some ((o24.1 0 17) - 1, o24)))))))))))) (b_X12_building_75 o)))))))))))))))
set_option maxHeartbeats 4000000 in
set_option maxRecDepth 100000 in
theorem c_X12_building (l : Launch) (g : GG) (ad : Nat → Nat) (o : OO) (x1 : Int) (x2 : Int) (x3 : Int) (x4 : Int) (v : Int × OO) (h : s_X12_building o x1 x2 x3 x4 = some v) : CI l g yX12_building cX12_building 5 (some .int) 2 42 (wM g ad o) [.ref (ad 0), iv x1, iv x2, iv x3, iv x4] v.1 (wM g ad v.2) := by
  refine met_I (by decide) (Nat.le_of_ble_eq_true rfl) ?_
  intro X E hQ
  show Go X 0 (wM g ad o) [(0, .ref (ad 0)), (1, iv x1), (2, iv x2), (3, iv x3), (4, iv x4)] []
  have j34 : ∀ (o : OO), b_X12_building_34 o = some v → Go X 34 (wM g ad o) [] [] := by
    intro o h
    unfold b_X12_building_34 at h
    refine g_iconst E gdX12_building_34 ?_
    exact g_iret E hQ (by rw [← Option.some.inj h]) (by rw [← Option.some.inj h]) gdX12_building_35
  have j54 : ∀ (o : OO), b_X12_building_54 o = some v → Go X 54 (wM g ad o) [] [] := by
    intro o h
    unfold b_X12_building_54 at h
    refine g_bipush E gdX12_building_54 (by decide) ?_
    exact g_iret E hQ (by rw [← Option.some.inj h]) (by rw [← Option.some.inj h]) gdX12_building_56
  have j75 : ∀ (o : OO), b_X12_building_75 o = some v → Go X 75 (wM g ad o) [] [] := by
    intro o h
    unfold b_X12_building_75 at h
    refine g_bipush E gdX12_building_75 (by decide) ?_
    exact g_iret E hQ (by rw [← Option.some.inj h]) (by rw [← Option.some.inj h]) gdX12_building_77
  unfold s_X12_building at h
  refine g_iload_n E gdX12_building_0 rfl 1 rfl ?_
  obtain ⟨r1, hc2, h⟩ := qB_of h
  refine g_Si (r := r1) (As := [iv x1]) (rest := []) (w := wM g ad o) E (c_X12_isCell l g (wM g ad o) x1 r1 hc2) okm_X12_isCell w_1789 w_1788 rfl rfl (Nat.le_of_ble_eq_true rfl) ⟨Nat.le_of_ble_eq_true rfl, Nat.le_of_ble_eq_true rfl⟩ gdX12_building_1 ?_
  refine g_if_eq E 34 gdX12_building_4 (by decide) h (fun h => ?_) (fun h => ?_)
  ·
    refine g_sub E [] rfl ?_
    exact j34 o h
  ·
    refine g_iload_n E gdX12_building_7 rfl 2 rfl ?_
    refine g_iconst E gdX12_building_8 ?_
    refine g_iconst E gdX12_building_9 ?_
    obtain ⟨r3, hc4, h⟩ := qB_of h
    refine g_Si (r := r3) (As := [iv x2, iv 0, iv 2]) (rest := []) (w := wM g ad o) E (c_X12_in l g (wM g ad o) x2 0 2 r3 hc4) okm_X12_in w_1706 w_1705 rfl rfl (Nat.le_of_ble_eq_true rfl) ⟨Nat.le_of_ble_eq_true rfl, Nat.le_of_ble_eq_true rfl⟩ gdX12_building_10 ?_
    refine g_if_eq E 34 gdX12_building_13 (by decide) h (fun h => ?_) (fun h => ?_)
    ·
      refine g_sub E [] rfl ?_
      exact j34 o h
    ·
      refine g_iload_n E gdX12_building_16 rfl 3 rfl ?_
      refine g_iconst E gdX12_building_17 ?_
      refine g_bipush E gdX12_building_18 (by decide) ?_
      obtain ⟨r5, hc6, h⟩ := qB_of h
      refine g_Si (r := r5) (As := [iv x3, iv 0, iv 20]) (rest := []) (w := wM g ad o) E (c_X12_in l g (wM g ad o) x3 0 20 r5 hc6) okm_X12_in w_1706 w_1705 rfl rfl (Nat.le_of_ble_eq_true rfl) ⟨Nat.le_of_ble_eq_true rfl, Nat.le_of_ble_eq_true rfl⟩ gdX12_building_20 ?_
      refine g_if_eq E 34 gdX12_building_23 (by decide) h (fun h => ?_) (fun h => ?_)
      ·
        refine g_sub E [] rfl ?_
        exact j34 o h
      ·
        refine g_iload E gdX12_building_26 4 rfl ?_
        obtain ⟨r7, hc8, h⟩ := qB_of h
        refine g_Si (r := r7) (As := [iv x4]) (rest := []) (w := wM g ad o) E (c_X12_isWorth l g (wM g ad o) x4 r7 hc8) okm_X12_isWorth w_1800 w_1799 rfl rfl (Nat.le_of_ble_eq_true rfl) ⟨Nat.le_of_ble_eq_true rfl, Nat.le_of_ble_eq_true rfl⟩ gdX12_building_28 ?_
        refine g_if_ne E 36 gdX12_building_31 (by decide) h (fun h => ?_) (fun h => ?_)
        ·
          refine g_aload_n E gdX12_building_36 rfl 0 rfl ?_
          refine g_get (T := TX12) E fw_X12 0 (wM_0 g ad o) rfl 17 (by decide) w_1483 rfl rfl gdX12_building_37 ?_
          refine g_bipush E gdX12_building_40 (by decide) ?_
          refine g_icmp_eq E 54 gdX12_building_42 (by decide) h (fun h => ?_) (fun h => ?_)
          ·
            refine g_sub E [] rfl ?_
            exact j54 o h
          ·
            refine g_aload_n E gdX12_building_45 rfl 0 rfl ?_
            refine g_get (T := TX12) E fw_X12 0 (wM_0 g ad o) rfl 23 (by decide) w_1489 rfl rfl gdX12_building_46 ?_
            refine g_bipush E gdX12_building_49 (by decide) ?_
            refine g_icmp_ne E 57 gdX12_building_51 (by decide) h (fun h => ?_) (fun h => ?_)
            ·
              refine g_aload_n E gdX12_building_57 rfl 0 rfl ?_
              refine g_get (T := TX12) E fw_X12 0 (wM_0 g ad o) rfl 15 (by decide) w_1481 rfl rfl gdX12_building_58 ?_
              refine g_iload_n E gdX12_building_61 rfl 1 rfl ?_
              obtain ⟨hi9, h⟩ := qIn_of h
              refine g_iald E 11 (wM_11 g ad o) (by decide) hi9 gdX12_building_62 ?_
              obtain ⟨n10, e_n10, h⟩ := qNm_of h
              refine g_nmi e_n10 ?_
              refine g_iconst E gdX12_building_63 ?_
              refine g_icmp_eq E 75 gdX12_building_64 (by decide) h (fun h => ?_) (fun h => ?_)
              ·
                refine g_sub E [] rfl ?_
                exact j75 o h
              ·
                refine g_aload_n E gdX12_building_67 rfl 0 rfl ?_
                refine g_iload_n E gdX12_building_68 rfl 1 rfl ?_
                obtain ⟨r11, hc12, h⟩ := qB_of h
                refine g_Vi (r := r11) (As := [iv x1]) (rest := []) (w := wM g ad o) E (c_X12_on l g ad o x1 r11 hc12) okm_X12_on okw_X12_on w_1791 rfl (wM_0 g ad o) rfl rfl (Nat.le_of_ble_eq_true rfl) ⟨Nat.le_of_ble_eq_true rfl, Nat.le_of_ble_eq_true rfl⟩ gdX12_building_69 ?_
                refine g_if_lt E 78 gdX12_building_72 (by decide) h (fun h => ?_) (fun h => ?_)
                ·
                  refine g_aload_n E gdX12_building_78 rfl 0 rfl ?_
                  refine g_get (T := TX12) E fw_X12 0 (wM_0 g ad o) rfl 18 (by decide) w_1484 rfl rfl gdX12_building_79 ?_
                  refine g_aload_n E gdX12_building_82 rfl 0 rfl ?_
                  refine g_get (T := TX12) E fw_X12 0 (wM_0 g ad o) rfl 17 (by decide) w_1483 rfl rfl gdX12_building_83 ?_
                  refine g_iload_n E gdX12_building_86 rfl 1 rfl ?_
                  obtain ⟨hi13, h⟩ := qIn_of h
                  obtain ⟨o14, e_o14, h⟩ := qNm_of h
                  refine g_iast (ws' := wM g ad o14) E 13 (wM_13 g ad o) (by decide) hi13 (by rw [e_o14]; exact wM_s13 g ad o _ _) gdX12_building_87 ?_
                  refine g_aload_n E gdX12_building_88 rfl 0 rfl ?_
                  refine g_get (T := TX12) E fw_X12 0 (wM_0 g ad o14) rfl 19 (by decide) w_1485 rfl rfl gdX12_building_89 ?_
                  refine g_aload_n E gdX12_building_92 rfl 0 rfl ?_
                  refine g_get (T := TX12) E fw_X12 0 (wM_0 g ad o14) rfl 17 (by decide) w_1483 rfl rfl gdX12_building_93 ?_
                  refine g_iload_n E gdX12_building_96 rfl 2 rfl ?_
                  obtain ⟨hi15, h⟩ := qIn_of h
                  obtain ⟨o16, e_o16, h⟩ := qNm_of h
                  refine g_iast (ws' := wM g ad o16) E 14 (wM_14 g ad o14) (by decide) hi15 (by rw [e_o16]; exact wM_s14 g ad o14 _ _) gdX12_building_97 ?_
                  refine g_aload_n E gdX12_building_98 rfl 0 rfl ?_
                  refine g_get (T := TX12) E fw_X12 0 (wM_0 g ad o16) rfl 20 (by decide) w_1486 rfl rfl gdX12_building_99 ?_
                  refine g_aload_n E gdX12_building_102 rfl 0 rfl ?_
                  refine g_get (T := TX12) E fw_X12 0 (wM_0 g ad o16) rfl 17 (by decide) w_1483 rfl rfl gdX12_building_103 ?_
                  refine g_iload_n E gdX12_building_106 rfl 3 rfl ?_
                  obtain ⟨hi17, h⟩ := qIn_of h
                  obtain ⟨o18, e_o18, h⟩ := qNm_of h
                  refine g_iast (ws' := wM g ad o18) E 15 (wM_15 g ad o16) (by decide) hi17 (by rw [e_o18]; exact wM_s15 g ad o16 _ _) gdX12_building_107 ?_
                  refine g_aload_n E gdX12_building_108 rfl 0 rfl ?_
                  refine g_get (T := TX12) E fw_X12 0 (wM_0 g ad o18) rfl 22 (by decide) w_1488 rfl rfl gdX12_building_109 ?_
                  refine g_aload_n E gdX12_building_112 rfl 0 rfl ?_
                  refine g_get (T := TX12) E fw_X12 0 (wM_0 g ad o18) rfl 17 (by decide) w_1483 rfl rfl gdX12_building_113 ?_
                  refine g_bipush E gdX12_building_116 (by decide) ?_
                  obtain ⟨hi19, h⟩ := qIn_of h
                  obtain ⟨o20, e_o20, h⟩ := qNm_of h
                  refine g_iast (ws' := wM g ad o20) E 17 (wM_17 g ad o18) (by decide) hi19 (by rw [e_o20]; exact wM_s17 g ad o18 _ _) gdX12_building_118 ?_
                  refine g_aload_n E gdX12_building_119 rfl 0 rfl ?_
                  refine g_aload_n E gdX12_building_120 rfl 0 rfl ?_
                  refine g_get (T := TX12) E fw_X12 0 (wM_0 g ad o20) rfl 17 (by decide) w_1483 rfl rfl gdX12_building_121 ?_
                  refine g_iload E gdX12_building_124 4 rfl ?_
                  obtain ⟨o23, hc22, h⟩ := qB_of h
                  refine g_Vv (As := [iv (o20.1 0 17), iv x4]) (rest := []) (w := wM g ad o23) E (c_X12_tell l g ad o20 (o20.1 0 17) x4 o23 hc22) okm_X12_tell okw_X12_tell w_1803 rfl (wM_0 g ad o20) rfl rfl (Nat.le_of_ble_eq_true rfl) ⟨Nat.le_of_ble_eq_true rfl, Nat.le_of_ble_eq_true rfl⟩ gdX12_building_126 ?_
                  refine g_aload_n E gdX12_building_129 rfl 0 rfl ?_
                  refine g_dup E gdX12_building_130 rfl ?_
                  refine g_get (T := TX12) E fw_X12 0 (wM_0 g ad o23) rfl 17 (by decide) w_1483 rfl rfl gdX12_building_131 ?_
                  refine g_iconst E gdX12_building_134 ?_
                  refine g_iadd E gdX12_building_135 ?_
                  obtain ⟨o24, e_o24, h⟩ := qNm_of h
                  refine g_puti (T := TX12) (ws' := wM g ad o24) E fw_X12 tyX12 tyX12_ok nmX12 0 (wM_0 g ad o23) rfl 17 (by decide) w_1483 rfl rfl (by decide +kernel) (Nat.le_of_ble_eq_true rfl) (by rw [e_o24]; exact wM_p0_17 g ad o23 _) gdX12_building_136 ?_
                  refine g_aload_n E gdX12_building_139 rfl 0 rfl ?_
                  refine g_get (T := TX12) E fw_X12 0 (wM_0 g ad o24) rfl 17 (by decide) w_1483 rfl rfl gdX12_building_140 ?_
                  refine g_iconst E gdX12_building_143 ?_
                  refine g_isub E gdX12_building_144 ?_
                  exact g_iret E hQ (by rw [← Option.some.inj h]) (by rw [← Option.some.inj h]) gdX12_building_145
                ·
                  refine g_sub E [] rfl ?_
                  exact j75 o h
            ·
              refine g_sub E [] rfl ?_
              exact j54 o h
        ·
          refine g_sub E [] rfl ?_
          exact j34 o h
noncomputable def s_X12_isBuilding (o : OO) (x1 : Int) : Option (Int) := qB (s_X12_in x1 0 ((o.1 0 17) - 1)) (fun r1 => qZ r1 (some r1))
set_option maxHeartbeats 4000000 in
set_option maxRecDepth 100000 in
theorem c_X12_isBuilding (l : Launch) (g : GG) (ad : Nat → Nat) (o : OO) (x1 : Int) (v : Int) (h : s_X12_isBuilding o x1 = some v) : CI l g yX12_isBuilding cX12_isBuilding 2 (some .boolean) 1 22 (wM g ad o) [.ref (ad 0), iv x1] v (wM g ad o) := by
  refine met_I (by decide) (Nat.le_of_ble_eq_true rfl) ?_
  intro X E hQ
  show Go X 0 (wM g ad o) [(0, .ref (ad 0)), (1, iv x1)] []
  unfold s_X12_isBuilding at h
  refine g_iload_n E gdX12_isBuilding_0 rfl 1 rfl ?_
  refine g_iconst E gdX12_isBuilding_1 ?_
  refine g_aload_n E gdX12_isBuilding_2 rfl 0 rfl ?_
  refine g_get (T := TX12) E fw_X12 0 (wM_0 g ad o) rfl 17 (by decide) w_1483 rfl rfl gdX12_isBuilding_3 ?_
  refine g_iconst E gdX12_isBuilding_6 ?_
  refine g_isub E gdX12_isBuilding_7 ?_
  obtain ⟨r1, hc2, h⟩ := qB_of h
  refine g_Si (r := r1) (As := [iv x1, iv 0, iv ((o.1 0 17) - 1)]) (rest := []) (w := wM g ad o) E (c_X12_in l g (wM g ad o) x1 0 ((o.1 0 17) - 1) r1 hc2) okm_X12_in w_1706 w_1705 rfl rfl (Nat.le_of_ble_eq_true rfl) ⟨Nat.le_of_ble_eq_true rfl, Nat.le_of_ble_eq_true rfl⟩ gdX12_isBuilding_8 ?_
  obtain ⟨hz, h⟩ := qZ_of h
  exact g_zret E hQ hz (Option.some.inj h) rfl gdX12_isBuilding_11
noncomputable def s_X12_isPerson (o : OO) (x1 : Int) : Option (Int) := qB (s_X12_in x1 0 ((o.1 0 27) - 1)) (fun r1 => qZ r1 (some r1))
set_option maxHeartbeats 4000000 in
set_option maxRecDepth 100000 in
theorem c_X12_isPerson (l : Launch) (g : GG) (ad : Nat → Nat) (o : OO) (x1 : Int) (v : Int) (h : s_X12_isPerson o x1 = some v) : CI l g yX12_isPerson cX12_isPerson 2 (some .boolean) 1 22 (wM g ad o) [.ref (ad 0), iv x1] v (wM g ad o) := by
  refine met_I (by decide) (Nat.le_of_ble_eq_true rfl) ?_
  intro X E hQ
  show Go X 0 (wM g ad o) [(0, .ref (ad 0)), (1, iv x1)] []
  unfold s_X12_isPerson at h
  refine g_iload_n E gdX12_isPerson_0 rfl 1 rfl ?_
  refine g_iconst E gdX12_isPerson_1 ?_
  refine g_aload_n E gdX12_isPerson_2 rfl 0 rfl ?_
  refine g_get (T := TX12) E fw_X12 0 (wM_0 g ad o) rfl 27 (by decide) w_1493 rfl rfl gdX12_isPerson_3 ?_
  refine g_iconst E gdX12_isPerson_6 ?_
  refine g_isub E gdX12_isPerson_7 ?_
  obtain ⟨r1, hc2, h⟩ := qB_of h
  refine g_Si (r := r1) (As := [iv x1, iv 0, iv ((o.1 0 27) - 1)]) (rest := []) (w := wM g ad o) E (c_X12_in l g (wM g ad o) x1 0 ((o.1 0 27) - 1) r1 hc2) okm_X12_in w_1706 w_1705 rfl rfl (Nat.le_of_ble_eq_true rfl) ⟨Nat.le_of_ble_eq_true rfl, Nat.le_of_ble_eq_true rfl⟩ gdX12_isPerson_8 ?_
  obtain ⟨hz, h⟩ := qZ_of h
  exact g_zret E hQ hz (Option.some.inj h) rfl gdX12_isPerson_11
noncomputable def b_X12_buy_16 (o : OO) : Option (Int × OO) := some ((-1), o)
noncomputable def s_X12_buy (o : OO) (x1 : Int) (x2 : Int) : Option (Int × OO) := qB (s_X12_isBuilding o x1) (fun r1 => qEq r1 0 (b_X12_buy_16 o) (qB (s_X12_isPerson o x2) (fun r3 => qEq r3 0 (b_X12_buy_16 o) (qEq (o.1 0 48) 40 (some ((-2), o)) (qIn x1 32 (qNm (o.1 16 x1.toNat) (fun n6 => qEq n6 0 (qIn (o.1 0 48) 40 (qNm (st1 o 40 ((o.1 0 48).toNat) x1) (fun o8 => qIn (o8.1 0 48) 40 (qNm (st1 o8 41 ((o8.1 0 48).toNat) x2) (fun o10 => qIn (o10.1 0 48) 40 (qNm (st1 o10 42 ((o10.1 0 48).toNat) (o10.1 0 4)) (fun o12 => qNm (st1 o12 0 48 ((o12.1 0 48) + 1)) (fun o13 => qIn x1 32 (qNm (st1 o13 17 x1.toNat x2) (fun o15 => some (o15.1 0 48, o15))))))))))) (some ((-4), o)))))))))
set_option maxHeartbeats 4000000 in
set_option maxRecDepth 100000 in
theorem c_X12_buy (l : Launch) (g : GG) (ad : Nat → Nat) (o : OO) (x1 : Int) (x2 : Int) (v : Int × OO) (h : s_X12_buy o x1 x2 = some v) : CI l g yX12_buy cX12_buy 3 (some .int) 2 43 (wM g ad o) [.ref (ad 0), iv x1, iv x2] v.1 (wM g ad v.2) := by
  refine met_I (by decide) (Nat.le_of_ble_eq_true rfl) ?_
  intro X E hQ
  show Go X 0 (wM g ad o) [(0, .ref (ad 0)), (1, iv x1), (2, iv x2)] []
  have j16 : ∀ (o : OO), b_X12_buy_16 o = some v → Go X 16 (wM g ad o) [] [] := by
    intro o h
    unfold b_X12_buy_16 at h
    refine g_iconst E gdX12_buy_16 ?_
    exact g_iret E hQ (by rw [← Option.some.inj h]) (by rw [← Option.some.inj h]) gdX12_buy_17
  unfold s_X12_buy at h
  refine g_aload_n E gdX12_buy_0 rfl 0 rfl ?_
  refine g_iload_n E gdX12_buy_1 rfl 1 rfl ?_
  obtain ⟨r1, hc2, h⟩ := qB_of h
  refine g_Vi (r := r1) (As := [iv x1]) (rest := []) (w := wM g ad o) E (c_X12_isBuilding l g ad o x1 r1 hc2) okm_X12_isBuilding okw_X12_isBuilding w_1811 rfl (wM_0 g ad o) rfl rfl (Nat.le_of_ble_eq_true rfl) ⟨Nat.le_of_ble_eq_true rfl, Nat.le_of_ble_eq_true rfl⟩ gdX12_buy_2 ?_
  refine g_if_eq E 16 gdX12_buy_5 (by decide) h (fun h => ?_) (fun h => ?_)
  ·
    refine g_sub E [] rfl ?_
    exact j16 o h
  ·
    refine g_aload_n E gdX12_buy_8 rfl 0 rfl ?_
    refine g_iload_n E gdX12_buy_9 rfl 2 rfl ?_
    obtain ⟨r3, hc4, h⟩ := qB_of h
    refine g_Vi (r := r3) (As := [iv x2]) (rest := []) (w := wM g ad o) E (c_X12_isPerson l g ad o x2 r3 hc4) okm_X12_isPerson okw_X12_isPerson w_1851 rfl (wM_0 g ad o) rfl rfl (Nat.le_of_ble_eq_true rfl) ⟨Nat.le_of_ble_eq_true rfl, Nat.le_of_ble_eq_true rfl⟩ gdX12_buy_10 ?_
    refine g_if_ne E 18 gdX12_buy_13 (by decide) h (fun h => ?_) (fun h => ?_)
    ·
      refine g_aload_n E gdX12_buy_18 rfl 0 rfl ?_
      refine g_get (T := TX12) E fw_X12 0 (wM_0 g ad o) rfl 48 (by decide) w_1514 rfl rfl gdX12_buy_19 ?_
      refine g_bipush E gdX12_buy_22 (by decide) ?_
      refine g_icmp_ne E 30 gdX12_buy_24 (by decide) h (fun h => ?_) (fun h => ?_)
      ·
        refine g_aload_n E gdX12_buy_30 rfl 0 rfl ?_
        refine g_get (T := TX12) E fw_X12 0 (wM_0 g ad o) rfl 21 (by decide) w_1487 rfl rfl gdX12_buy_31 ?_
        refine g_iload_n E gdX12_buy_34 rfl 1 rfl ?_
        obtain ⟨hi5, h⟩ := qIn_of h
        refine g_zald E 16 (wM_16 g ad o) (by decide) hi5 gdX12_buy_35 ?_
        obtain ⟨n6, e_n6, h⟩ := qNm_of h
        refine g_nmi e_n6 ?_
        refine g_if_eq E 42 gdX12_buy_36 (by decide) h (fun h => ?_) (fun h => ?_)
        ·
          refine g_aload_n E gdX12_buy_42 rfl 0 rfl ?_
          refine g_get (T := TX12) E fw_X12 0 (wM_0 g ad o) rfl 49 (by decide) w_1515 rfl rfl gdX12_buy_43 ?_
          refine g_aload_n E gdX12_buy_46 rfl 0 rfl ?_
          refine g_get (T := TX12) E fw_X12 0 (wM_0 g ad o) rfl 48 (by decide) w_1514 rfl rfl gdX12_buy_47 ?_
          refine g_iload_n E gdX12_buy_50 rfl 1 rfl ?_
          obtain ⟨hi7, h⟩ := qIn_of h
          obtain ⟨o8, e_o8, h⟩ := qNm_of h
          refine g_iast (ws' := wM g ad o8) E 40 (wM_40 g ad o) (by decide) hi7 (by rw [e_o8]; exact wM_s40 g ad o _ _) gdX12_buy_51 ?_
          refine g_aload_n E gdX12_buy_52 rfl 0 rfl ?_
          refine g_get (T := TX12) E fw_X12 0 (wM_0 g ad o8) rfl 50 (by decide) w_1516 rfl rfl gdX12_buy_53 ?_
          refine g_aload_n E gdX12_buy_56 rfl 0 rfl ?_
          refine g_get (T := TX12) E fw_X12 0 (wM_0 g ad o8) rfl 48 (by decide) w_1514 rfl rfl gdX12_buy_57 ?_
          refine g_iload_n E gdX12_buy_60 rfl 2 rfl ?_
          obtain ⟨hi9, h⟩ := qIn_of h
          obtain ⟨o10, e_o10, h⟩ := qNm_of h
          refine g_iast (ws' := wM g ad o10) E 41 (wM_41 g ad o8) (by decide) hi9 (by rw [e_o10]; exact wM_s41 g ad o8 _ _) gdX12_buy_61 ?_
          refine g_aload_n E gdX12_buy_62 rfl 0 rfl ?_
          refine g_get (T := TX12) E fw_X12 0 (wM_0 g ad o10) rfl 51 (by decide) w_1517 rfl rfl gdX12_buy_63 ?_
          refine g_aload_n E gdX12_buy_66 rfl 0 rfl ?_
          refine g_get (T := TX12) E fw_X12 0 (wM_0 g ad o10) rfl 48 (by decide) w_1514 rfl rfl gdX12_buy_67 ?_
          refine g_aload_n E gdX12_buy_70 rfl 0 rfl ?_
          refine g_get (T := TX12) E fw_X12 0 (wM_0 g ad o10) rfl 4 (by decide) w_1470 rfl rfl gdX12_buy_71 ?_
          obtain ⟨hi11, h⟩ := qIn_of h
          obtain ⟨o12, e_o12, h⟩ := qNm_of h
          refine g_iast (ws' := wM g ad o12) E 42 (wM_42 g ad o10) (by decide) hi11 (by rw [e_o12]; exact wM_s42 g ad o10 _ _) gdX12_buy_74 ?_
          refine g_aload_n E gdX12_buy_75 rfl 0 rfl ?_
          refine g_dup E gdX12_buy_76 rfl ?_
          refine g_get (T := TX12) E fw_X12 0 (wM_0 g ad o12) rfl 48 (by decide) w_1514 rfl rfl gdX12_buy_77 ?_
          refine g_iconst E gdX12_buy_80 ?_
          refine g_iadd E gdX12_buy_81 ?_
          obtain ⟨o13, e_o13, h⟩ := qNm_of h
          refine g_puti (T := TX12) (ws' := wM g ad o13) E fw_X12 tyX12 tyX12_ok nmX12 0 (wM_0 g ad o12) rfl 48 (by decide) w_1514 rfl rfl (by decide +kernel) (Nat.le_of_ble_eq_true rfl) (by rw [e_o13]; exact wM_p0_48 g ad o12 _) gdX12_buy_82 ?_
          refine g_aload_n E gdX12_buy_85 rfl 0 rfl ?_
          refine g_get (T := TX12) E fw_X12 0 (wM_0 g ad o13) rfl 22 (by decide) w_1488 rfl rfl gdX12_buy_86 ?_
          refine g_iload_n E gdX12_buy_89 rfl 1 rfl ?_
          refine g_iload_n E gdX12_buy_90 rfl 2 rfl ?_
          obtain ⟨hi14, h⟩ := qIn_of h
          obtain ⟨o15, e_o15, h⟩ := qNm_of h
          refine g_iast (ws' := wM g ad o15) E 17 (wM_17 g ad o13) (by decide) hi14 (by rw [e_o15]; exact wM_s17 g ad o13 _ _) gdX12_buy_91 ?_
          refine g_aload_n E gdX12_buy_92 rfl 0 rfl ?_
          refine g_get (T := TX12) E fw_X12 0 (wM_0 g ad o15) rfl 48 (by decide) w_1514 rfl rfl gdX12_buy_93 ?_
          exact g_iret E hQ (by rw [← Option.some.inj h]) (by rw [← Option.some.inj h]) gdX12_buy_96
        ·
          refine g_bipush E gdX12_buy_39 (by decide) ?_
          exact g_iret E hQ (by rw [← Option.some.inj h]) (by rw [← Option.some.inj h]) gdX12_buy_41
      ·
        refine g_bipush E gdX12_buy_27 (by decide) ?_
        exact g_iret E hQ (by rw [← Option.some.inj h]) (by rw [← Option.some.inj h]) gdX12_buy_29
    ·
      refine g_sub E [] rfl ?_
      exact j16 o h
noncomputable def b_X12_cell_26 (o : OO) : Option (Int × OO) := some ((-1), o)
noncomputable def b_X12_cell_44 (o : OO) (x1 : Int) (x2 : Int) (x3 : Int) : Option (Int × OO) := qIn x1 64 (qNm (st1 o 11 x1.toNat x2) (fun o2 => qIn x1 64 (qNm (st1 o2 12 x1.toNat x3) (fun o4 => some (1, o4)))))
noncomputable def s_X12_cell (o : OO) (x1 : Int) (x2 : Int) (x3 : Int) : Option (Int × OO) := qB (s_X12_isCell x1) (fun r5 => qEq r5 0 (b_X12_cell_26 o) (qB (s_X12_in x2 0 4) (fun r7 => qEq r7 0 (b_X12_cell_26 o) (qB (s_X12_in x3 0 99) (fun r9 => qEq r9 0 (b_X12_cell_26 o) (qEq x2 4 (qB (s_X12_on o x1) (fun r11 => qLt r11 0 (b_X12_cell_44 o x1 x2 x3) (some ((-4), o)))) (b_X12_cell_44 o x1 x2 x3)))))))
set_option maxHeartbeats 4000000 in
set_option maxRecDepth 100000 in
theorem c_X12_cell (l : Launch) (g : GG) (ad : Nat → Nat) (o : OO) (x1 : Int) (x2 : Int) (x3 : Int) (v : Int × OO) (h : s_X12_cell o x1 x2 x3 = some v) : CI l g yX12_cell cX12_cell 4 (some .int) 2 42 (wM g ad o) [.ref (ad 0), iv x1, iv x2, iv x3] v.1 (wM g ad v.2) := by
  refine met_I (by decide) (Nat.le_of_ble_eq_true rfl) ?_
  intro X E hQ
  show Go X 0 (wM g ad o) [(0, .ref (ad 0)), (1, iv x1), (2, iv x2), (3, iv x3)] []
  have j26 : ∀ (o : OO), b_X12_cell_26 o = some v → Go X 26 (wM g ad o) [] [] := by
    intro o h
    unfold b_X12_cell_26 at h
    refine g_iconst E gdX12_cell_26 ?_
    exact g_iret E hQ (by rw [← Option.some.inj h]) (by rw [← Option.some.inj h]) gdX12_cell_27
  have j44 : ∀ (o : OO) (x1 : Int) (x2 : Int) (x3 : Int), b_X12_cell_44 o x1 x2 x3 = some v → Go X 44 (wM g ad o) [(0, .ref (ad 0)), (1, iv x1), (2, iv x2), (3, iv x3)] [] := by
    intro o x1 x2 x3 h
    unfold b_X12_cell_44 at h
    refine g_aload_n E gdX12_cell_44 rfl 0 rfl ?_
    refine g_get (T := TX12) E fw_X12 0 (wM_0 g ad o) rfl 15 (by decide) w_1481 rfl rfl gdX12_cell_45 ?_
    refine g_iload_n E gdX12_cell_48 rfl 1 rfl ?_
    refine g_iload_n E gdX12_cell_49 rfl 2 rfl ?_
    obtain ⟨hi1, h⟩ := qIn_of h
    obtain ⟨o2, e_o2, h⟩ := qNm_of h
    refine g_iast (ws' := wM g ad o2) E 11 (wM_11 g ad o) (by decide) hi1 (by rw [e_o2]; exact wM_s11 g ad o _ _) gdX12_cell_50 ?_
    refine g_aload_n E gdX12_cell_51 rfl 0 rfl ?_
    refine g_get (T := TX12) E fw_X12 0 (wM_0 g ad o2) rfl 16 (by decide) w_1482 rfl rfl gdX12_cell_52 ?_
    refine g_iload_n E gdX12_cell_55 rfl 1 rfl ?_
    refine g_iload_n E gdX12_cell_56 rfl 3 rfl ?_
    obtain ⟨hi3, h⟩ := qIn_of h
    obtain ⟨o4, e_o4, h⟩ := qNm_of h
    refine g_iast (ws' := wM g ad o4) E 12 (wM_12 g ad o2) (by decide) hi3 (by rw [e_o4]; exact wM_s12 g ad o2 _ _) gdX12_cell_57 ?_
    refine g_iconst E gdX12_cell_58 ?_
    exact g_iret E hQ (by rw [← Option.some.inj h]) (by rw [← Option.some.inj h]) gdX12_cell_59
  unfold s_X12_cell at h
  refine g_iload_n E gdX12_cell_0 rfl 1 rfl ?_
  obtain ⟨r5, hc6, h⟩ := qB_of h
  refine g_Si (r := r5) (As := [iv x1]) (rest := []) (w := wM g ad o) E (c_X12_isCell l g (wM g ad o) x1 r5 hc6) okm_X12_isCell w_1789 w_1788 rfl rfl (Nat.le_of_ble_eq_true rfl) ⟨Nat.le_of_ble_eq_true rfl, Nat.le_of_ble_eq_true rfl⟩ gdX12_cell_1 ?_
  refine g_if_eq E 26 gdX12_cell_4 (by decide) h (fun h => ?_) (fun h => ?_)
  ·
    refine g_sub E [] rfl ?_
    exact j26 o h
  ·
    refine g_iload_n E gdX12_cell_7 rfl 2 rfl ?_
    refine g_iconst E gdX12_cell_8 ?_
    refine g_iconst E gdX12_cell_9 ?_
    obtain ⟨r7, hc8, h⟩ := qB_of h
    refine g_Si (r := r7) (As := [iv x2, iv 0, iv 4]) (rest := []) (w := wM g ad o) E (c_X12_in l g (wM g ad o) x2 0 4 r7 hc8) okm_X12_in w_1706 w_1705 rfl rfl (Nat.le_of_ble_eq_true rfl) ⟨Nat.le_of_ble_eq_true rfl, Nat.le_of_ble_eq_true rfl⟩ gdX12_cell_10 ?_
    refine g_if_eq E 26 gdX12_cell_13 (by decide) h (fun h => ?_) (fun h => ?_)
    ·
      refine g_sub E [] rfl ?_
      exact j26 o h
    ·
      refine g_iload_n E gdX12_cell_16 rfl 3 rfl ?_
      refine g_iconst E gdX12_cell_17 ?_
      refine g_bipush E gdX12_cell_18 (by decide) ?_
      obtain ⟨r9, hc10, h⟩ := qB_of h
      refine g_Si (r := r9) (As := [iv x3, iv 0, iv 99]) (rest := []) (w := wM g ad o) E (c_X12_in l g (wM g ad o) x3 0 99 r9 hc10) okm_X12_in w_1706 w_1705 rfl rfl (Nat.le_of_ble_eq_true rfl) ⟨Nat.le_of_ble_eq_true rfl, Nat.le_of_ble_eq_true rfl⟩ gdX12_cell_20 ?_
      refine g_if_ne E 28 gdX12_cell_23 (by decide) h (fun h => ?_) (fun h => ?_)
      ·
        refine g_iload_n E gdX12_cell_28 rfl 2 rfl ?_
        refine g_iconst E gdX12_cell_29 ?_
        refine g_icmp_ne E 44 gdX12_cell_30 (by decide) h (fun h => ?_) (fun h => ?_)
        ·
          exact j44 o x1 x2 x3 h
        ·
          refine g_aload_n E gdX12_cell_33 rfl 0 rfl ?_
          refine g_iload_n E gdX12_cell_34 rfl 1 rfl ?_
          obtain ⟨r11, hc12, h⟩ := qB_of h
          refine g_Vi (r := r11) (As := [iv x1]) (rest := []) (w := wM g ad o) E (c_X12_on l g ad o x1 r11 hc12) okm_X12_on okw_X12_on w_1791 rfl (wM_0 g ad o) rfl rfl (Nat.le_of_ble_eq_true rfl) ⟨Nat.le_of_ble_eq_true rfl, Nat.le_of_ble_eq_true rfl⟩ gdX12_cell_35 ?_
          refine g_if_lt E 44 gdX12_cell_38 (by decide) h (fun h => ?_) (fun h => ?_)
          ·
            exact j44 o x1 x2 x3 h
          ·
            refine g_bipush E gdX12_cell_41 (by decide) ?_
            exact g_iret E hQ (by rw [← Option.some.inj h]) (by rw [← Option.some.inj h]) gdX12_cell_43
      ·
        refine g_sub E [] rfl ?_
        exact j26 o h
noncomputable def s_X12_isMark (o : OO) (x1 : Int) : Option (Int) := qB (s_X12_in x1 0 ((o.1 0 32) - 1)) (fun r1 => qZ r1 (some r1))
set_option maxHeartbeats 4000000 in
set_option maxRecDepth 100000 in
theorem c_X12_isMark (l : Launch) (g : GG) (ad : Nat → Nat) (o : OO) (x1 : Int) (v : Int) (h : s_X12_isMark o x1 = some v) : CI l g yX12_isMark cX12_isMark 2 (some .boolean) 1 22 (wM g ad o) [.ref (ad 0), iv x1] v (wM g ad o) := by
  refine met_I (by decide) (Nat.le_of_ble_eq_true rfl) ?_
  intro X E hQ
  show Go X 0 (wM g ad o) [(0, .ref (ad 0)), (1, iv x1)] []
  unfold s_X12_isMark at h
  refine g_iload_n E gdX12_isMark_0 rfl 1 rfl ?_
  refine g_iconst E gdX12_isMark_1 ?_
  refine g_aload_n E gdX12_isMark_2 rfl 0 rfl ?_
  refine g_get (T := TX12) E fw_X12 0 (wM_0 g ad o) rfl 32 (by decide) w_1498 rfl rfl gdX12_isMark_3 ?_
  refine g_iconst E gdX12_isMark_6 ?_
  refine g_isub E gdX12_isMark_7 ?_
  obtain ⟨r1, hc2, h⟩ := qB_of h
  refine g_Si (r := r1) (As := [iv x1, iv 0, iv ((o.1 0 32) - 1)]) (rest := []) (w := wM g ad o) E (c_X12_in l g (wM g ad o) x1 0 ((o.1 0 32) - 1) r1 hc2) okm_X12_in w_1706 w_1705 rfl rfl (Nat.le_of_ble_eq_true rfl) ⟨Nat.le_of_ble_eq_true rfl, Nat.le_of_ble_eq_true rfl⟩ gdX12_isMark_8 ?_
  obtain ⟨hz, h⟩ := qZ_of h
  exact g_zret E hQ hz (Option.some.inj h) rfl gdX12_isMark_11
noncomputable def b_X12_isLine_25 (o : OO) (y0 : Int) : Option (Int) := qZ y0 (some y0)
noncomputable def b_X12_isLine_20 (o : OO) : Option (Int) := b_X12_isLine_25 o 1
noncomputable def s_X12_isLine (o : OO) (x1 : Int) : Option (Int) := qIn x1 24 (qNm (o.1 25 x1.toNat) (fun n2 => qEq n2 1 (b_X12_isLine_20 o) (qIn x1 24 (qNm (o.1 25 x1.toNat) (fun n4 => qEq n4 2 (b_X12_isLine_20 o) (b_X12_isLine_25 o 0))))))
set_option maxHeartbeats 4000000 in
set_option maxRecDepth 100000 in
theorem c_X12_isLine (l : Launch) (g : GG) (ad : Nat → Nat) (o : OO) (x1 : Int) (v : Int) (h : s_X12_isLine o x1 = some v) : CI l g yX12_isLine cX12_isLine 2 (some .boolean) 0 0 (wM g ad o) [.ref (ad 0), iv x1] v (wM g ad o) := by
  refine met_I (by decide) (Nat.le_of_ble_eq_true rfl) ?_
  intro X E hQ
  show Go X 0 (wM g ad o) [(0, .ref (ad 0)), (1, iv x1)] []
  have j25 : ∀ (y0 : Int), b_X12_isLine_25 o y0 = some v → Go X 25 (wM g ad o) [] [iv y0] := by
    intro y0 h
    unfold b_X12_isLine_25 at h
    obtain ⟨hz, h⟩ := qZ_of h
    exact g_zret E hQ hz (Option.some.inj h) rfl gdX12_isLine_25
  have j20 : b_X12_isLine_20 o = some v → Go X 20 (wM g ad o) [] [] := by
    intro h
    unfold b_X12_isLine_20 at h
    refine g_iconst E gdX12_isLine_20 ?_
    refine g_goto E 25 gdX12_isLine_21 (by decide) ?_
    exact j25 1 h
  unfold s_X12_isLine at h
  refine g_aload_n E gdX12_isLine_0 rfl 0 rfl ?_
  refine g_get (T := TX12) E fw_X12 0 (wM_0 g ad o) rfl 33 (by decide) w_1499 rfl rfl gdX12_isLine_1 ?_
  refine g_iload_n E gdX12_isLine_4 rfl 1 rfl ?_
  obtain ⟨hi1, h⟩ := qIn_of h
  refine g_iald E 25 (wM_25 g ad o) (by decide) hi1 gdX12_isLine_5 ?_
  obtain ⟨n2, e_n2, h⟩ := qNm_of h
  refine g_nmi e_n2 ?_
  refine g_iconst E gdX12_isLine_6 ?_
  refine g_icmp_eq E 20 gdX12_isLine_7 (by decide) h (fun h => ?_) (fun h => ?_)
  ·
    refine g_sub E [] rfl ?_
    exact j20  h
  ·
    refine g_aload_n E gdX12_isLine_10 rfl 0 rfl ?_
    refine g_get (T := TX12) E fw_X12 0 (wM_0 g ad o) rfl 33 (by decide) w_1499 rfl rfl gdX12_isLine_11 ?_
    refine g_iload_n E gdX12_isLine_14 rfl 1 rfl ?_
    obtain ⟨hi3, h⟩ := qIn_of h
    refine g_iald E 25 (wM_25 g ad o) (by decide) hi3 gdX12_isLine_15 ?_
    obtain ⟨n4, e_n4, h⟩ := qNm_of h
    refine g_nmi e_n4 ?_
    refine g_iconst E gdX12_isLine_16 ?_
    refine g_icmp_ne E 24 gdX12_isLine_17 (by decide) h (fun h => ?_) (fun h => ?_)
    ·
      refine g_iconst E gdX12_isLine_24 ?_
      refine g_sub E [] rfl ?_
      exact j25 0 h
    ·
      refine g_sub E [] rfl ?_
      exact j20  h
noncomputable def b_X12_askedLine_29 (o : OO) (y0 : Int) : Option (Int × OO) := some (y0, o)
noncomputable def s_X12_askedLine (o : OO) (x1 : Int) : Option (Int × OO) := qB (s_X12_isMark o x1) (fun r1 => qEq r1 0 (b_X12_askedLine_29 o (-1)) (qB (s_X12_isLine o x1) (fun r3 => qEq r3 0 (qB2 (s_X12_meets o 3) (fun r5 o7 => b_X12_askedLine_29 o7 r5)) (b_X12_askedLine_29 o 0))))
set_option maxHeartbeats 4000000 in
set_option maxRecDepth 100000 in
theorem c_X12_askedLine (l : Launch) (g : GG) (ad : Nat → Nat) (o : OO) (x1 : Int) (v : Int × OO) (h : s_X12_askedLine o x1 = some v) : CI l g yX12_askedLine cX12_askedLine 2 (some .int) 2 43 (wM g ad o) [.ref (ad 0), iv x1] v.1 (wM g ad v.2) := by
  refine met_I (by decide) (Nat.le_of_ble_eq_true rfl) ?_
  intro X E hQ
  show Go X 0 (wM g ad o) [(0, .ref (ad 0)), (1, iv x1)] []
  have j29 : ∀ (o : OO) (y0 : Int), b_X12_askedLine_29 o y0 = some v → Go X 29 (wM g ad o) [] [iv y0] := by
    intro o y0 h
    unfold b_X12_askedLine_29 at h
    exact g_iret E hQ (by rw [← Option.some.inj h]) (by rw [← Option.some.inj h]) gdX12_askedLine_29
  unfold s_X12_askedLine at h
  refine g_aload_n E gdX12_askedLine_0 rfl 0 rfl ?_
  refine g_iload_n E gdX12_askedLine_1 rfl 1 rfl ?_
  obtain ⟨r1, hc2, h⟩ := qB_of h
  refine g_Vi (r := r1) (As := [iv x1]) (rest := []) (w := wM g ad o) E (c_X12_isMark l g ad o x1 r1 hc2) okm_X12_isMark okw_X12_isMark w_1903 rfl (wM_0 g ad o) rfl rfl (Nat.le_of_ble_eq_true rfl) ⟨Nat.le_of_ble_eq_true rfl, Nat.le_of_ble_eq_true rfl⟩ gdX12_askedLine_2 ?_
  refine g_if_ne E 12 gdX12_askedLine_5 (by decide) h (fun h => ?_) (fun h => ?_)
  ·
    refine g_aload_n E gdX12_askedLine_12 rfl 0 rfl ?_
    refine g_iload_n E gdX12_askedLine_13 rfl 1 rfl ?_
    obtain ⟨r3, hc4, h⟩ := qB_of h
    refine g_Vi (r := r3) (As := [iv x1]) (rest := []) (w := wM g ad o) E (c_X12_isLine l g ad o x1 r3 hc4) okm_X12_isLine okw_X12_isLine w_1907 rfl (wM_0 g ad o) rfl rfl (Nat.le_of_ble_eq_true rfl) ⟨Nat.le_of_ble_eq_true rfl, Nat.le_of_ble_eq_true rfl⟩ gdX12_askedLine_14 ?_
    refine g_if_eq E 24 gdX12_askedLine_17 (by decide) h (fun h => ?_) (fun h => ?_)
    ·
      refine g_aload_n E gdX12_askedLine_24 rfl 0 rfl ?_
      refine g_iconst E gdX12_askedLine_25 ?_
      obtain ⟨r5, o7, hc6, h⟩ := qB2_of h
      refine g_Vi (r := r5) (As := [iv 3]) (rest := []) (w := wM g ad o7) E (c_X12_meets l g ad o 3 (r5, o7) hc6) okm_X12_meets okw_X12_meets w_1708 rfl (wM_0 g ad o) rfl rfl (Nat.le_of_ble_eq_true rfl) ⟨Nat.le_of_ble_eq_true rfl, Nat.le_of_ble_eq_true rfl⟩ gdX12_askedLine_26 ?_
      refine g_sub E [] rfl ?_
      exact j29 o7 r5 h
    ·
      refine g_iconst E gdX12_askedLine_20 ?_
      refine g_goto E 29 gdX12_askedLine_21 (by decide) ?_
      refine g_sub E [] rfl ?_
      exact j29 o 0 h
  ·
    refine g_iconst E gdX12_askedLine_8 ?_
    refine g_goto E 29 gdX12_askedLine_9 (by decide) ?_
    refine g_sub E [] rfl ?_
    exact j29 o (-1) h
noncomputable def b_X12_cellOf_46 (o : OO) (y0 : Int) : Option (Int × OO) := some (y0, o)
noncomputable def s_X12_cellOf (o : OO) (x1 : Int) (x2 : Int) : Option (Int × OO) := qB2 (s_X12_askedLine o x1) (fun r1 o3 => qLt r1 0 (b_X12_cellOf_46 o3 r1) (qIn x1 24 (qNm (o3.1 30 x1.toNat) (fun n5 => qB (s_X12_in x2 0 (n5 - 1)) (fun r6 => qEq r6 0 (b_X12_cellOf_46 o3 (-9)) (qIn ((64 * x1) + x2) 1536 (qNm (o3.1 31 ((64 * x1) + x2).toNat) (fun n9 => b_X12_cellOf_46 o3 n9))))))))
set_option maxHeartbeats 4000000 in
set_option maxRecDepth 100000 in
theorem c_X12_cellOf (l : Launch) (g : GG) (ad : Nat → Nat) (o : OO) (x1 : Int) (x2 : Int) (v : Int × OO) (h : s_X12_cellOf o x1 x2 = some v) : CI l g yX12_cellOf cX12_cellOf 4 (some .int) 3 64 (wM g ad o) [.ref (ad 0), iv x1, iv x2] v.1 (wM g ad v.2) := by
  refine met_I (by decide) (Nat.le_of_ble_eq_true rfl) ?_
  intro X E hQ
  show Go X 0 (wM g ad o) [(0, .ref (ad 0)), (1, iv x1), (2, iv x2)] []
  have j46 : ∀ (o : OO) (y0 : Int), b_X12_cellOf_46 o y0 = some v → Go X 46 (wM g ad o) [] [iv y0] := by
    intro o y0 h
    unfold b_X12_cellOf_46 at h
    exact g_iret E hQ (by rw [← Option.some.inj h]) (by rw [← Option.some.inj h]) gdX12_cellOf_46
  unfold s_X12_cellOf at h
  refine g_aload_n E gdX12_cellOf_0 rfl 0 rfl ?_
  refine g_iload_n E gdX12_cellOf_1 rfl 1 rfl ?_
  obtain ⟨r1, o3, hc2, h⟩ := qB2_of h
  refine g_Vi (r := r1) (As := [iv x1]) (rest := []) (w := wM g ad o3) E (c_X12_askedLine l g ad o x1 (r1, o3) hc2) okm_X12_askedLine okw_X12_askedLine w_1925 rfl (wM_0 g ad o) rfl rfl (Nat.le_of_ble_eq_true rfl) ⟨Nat.le_of_ble_eq_true rfl, Nat.le_of_ble_eq_true rfl⟩ gdX12_cellOf_2 ?_
  refine g_istore_n E [(3, iv r1), (0, .ref (ad 0)), (1, iv x1), (2, iv x2)] gdX12_cellOf_5 rfl (by decide) rfl ?_
  refine g_iload_n E gdX12_cellOf_6 rfl 0 rfl ?_
  refine g_if_ge E 14 gdX12_cellOf_7 (by decide) h (fun h => ?_) (fun h => ?_)
  ·
    refine g_iload_n E gdX12_cellOf_14 rfl 3 rfl ?_
    refine g_iconst E gdX12_cellOf_15 ?_
    refine g_aload_n E gdX12_cellOf_16 rfl 1 rfl ?_
    refine g_get (T := TX12) E fw_X12 0 (wM_0 g ad o3) rfl 38 (by decide) w_1504 rfl rfl gdX12_cellOf_17 ?_
    refine g_iload_n E gdX12_cellOf_20 rfl 2 rfl ?_
    obtain ⟨hi4, h⟩ := qIn_of h
    refine g_iald E 30 (wM_30 g ad o3) (by decide) hi4 gdX12_cellOf_21 ?_
    obtain ⟨n5, e_n5, h⟩ := qNm_of h
    refine g_nmi e_n5 ?_
    refine g_iconst E gdX12_cellOf_22 ?_
    refine g_isub E gdX12_cellOf_23 ?_
    obtain ⟨r6, hc7, h⟩ := qB_of h
    refine g_Si (r := r6) (As := [iv x2, iv 0, iv (n5 - 1)]) (rest := []) (w := wM g ad o3) E (c_X12_in l g (wM g ad o3) x2 0 (n5 - 1) r6 hc7) okm_X12_in w_1706 w_1705 rfl rfl (Nat.le_of_ble_eq_true rfl) ⟨Nat.le_of_ble_eq_true rfl, Nat.le_of_ble_eq_true rfl⟩ gdX12_cellOf_24 ?_
    refine g_if_eq E 44 gdX12_cellOf_27 (by decide) h (fun h => ?_) (fun h => ?_)
    ·
      refine g_bipush E gdX12_cellOf_44 (by decide) ?_
      refine g_sub E [] rfl ?_
      exact j46 o3 (-9) h
    ·
      refine g_aload_n E gdX12_cellOf_30 rfl 1 rfl ?_
      refine g_get (T := TX12) E fw_X12 0 (wM_0 g ad o3) rfl 39 (by decide) w_1505 rfl rfl gdX12_cellOf_31 ?_
      refine g_bipush E gdX12_cellOf_34 (by decide) ?_
      refine g_iload_n E gdX12_cellOf_36 rfl 2 rfl ?_
      refine g_imul E gdX12_cellOf_37 ?_
      refine g_iload_n E gdX12_cellOf_38 rfl 3 rfl ?_
      refine g_iadd E gdX12_cellOf_39 ?_
      obtain ⟨hi8, h⟩ := qIn_of h
      refine g_iald E 31 (wM_31 g ad o3) (by decide) hi8 gdX12_cellOf_40 ?_
      obtain ⟨n9, e_n9, h⟩ := qNm_of h
      refine g_nmi e_n9 ?_
      refine g_goto E 46 gdX12_cellOf_41 (by decide) ?_
      refine g_sub E [] rfl ?_
      exact j46 o3 n9 h
  ·
    refine g_iload_n E gdX12_cellOf_10 rfl 0 rfl ?_
    refine g_goto E 46 gdX12_cellOf_11 (by decide) ?_
    refine g_sub E [] rfl ?_
    exact j46 o3 r1 h
noncomputable def s_X12_coins (o : OO) : Option (Int64) := some (o.2 0 64)
set_option maxHeartbeats 4000000 in
set_option maxRecDepth 100000 in
theorem c_X12_coins (l : Launch) (g : GG) (ad : Nat → Nat) (o : OO) (v : Int64) (h : s_X12_coins o = some v) : CL l g yX12_coins cX12_coins 1 (some .long) 0 0 (wM g ad o) [.ref (ad 0)] v (wM g ad o) := by
  refine met_L (by decide) (Nat.le_of_ble_eq_true rfl) ?_
  intro X E hQ
  show Go X 0 (wM g ad o) [(0, .ref (ad 0))] []
  unfold s_X12_coins at h
  refine g_aload_n E gdX12_coins_0 rfl 0 rfl ?_
  refine g_get (T := TX12) E fw_X12 0 (wM_0 g ad o) rfl 64 (by decide) w_1530 rfl rfl gdX12_coins_1 ?_
  exact g_lret E hQ (Option.some.inj h) rfl gdX12_coins_4
noncomputable def b_X12_copy_14 (o : OO) : Option (Int × OO) := some ((-1), o)
noncomputable def b_X12_copy_45 (o : OO) : Option (Int × OO) := qB2 (s_X12_meets o 1) (fun r1 o3 => some (r1, o3))
noncomputable def b_X12_copy_95 (o : OO) : Option (Int × OO) := qB2 (s_X12_meets o 2) (fun r4 o6 => some (r4, o6))
noncomputable def b_X12_copy_176 (o : OO) : Option (Int × OO) := some (1, o)
noncomputable def l_X12_copy_141 (x3 : Int) (x4 : Int) (x5 : Int) (o : OO) (x6 : Int) : Option ((OO × Int) ⊕ ((OO))) := qLt x6 x5 (qIn x6 40 (qNm (o.1 4 x6.toNat) (fun n8 => qIn (((40 * x3) + x4) + x6) 240 (qNm (st1 o 3 ((((40 * x3) + x4) + x6).toNat) n8) (fun o10 => some (.inl (o10, x6 + 1))))))) (some (.inr (o)))
noncomputable def e_X12_copy_141 (o : OO) (x3 : Int) (x4 : Int) (x5 : Int) (x6 : Int) : Option (Int × OO) := qB (loopW (fun s => l_X12_copy_141 x3 x4 x5 s.1 s.2) (o, x6)) (fun r => b_X12_copy_176 r)
noncomputable def b_X12_copy_138 (o : OO) (x3 : Int) (x4 : Int) (x5 : Int) : Option (Int × OO) := e_X12_copy_141 o x3 x4 x5 0
noncomputable def l_X12_copy_104 (x1 : Int) (x2 : Int) (x3 : Int) (x4 : Int) (x5 : Int) (o : OO) (x6 : Int) : Option ((OO × Int) ⊕ ((OO))) := qLt x6 x5 (qNm (((40 * x1) + x2) + x6) (fun n11 => qIn n11 240 (qNm (o.1 3 n11.toNat) (fun n13 => qIn x6 40 (qNm (st1 o 4 x6.toNat n13) (fun o15 => some (.inl (o15, x6 + 1)))))))) (some (.inr (o)))
noncomputable def e_X12_copy_104 (o : OO) (x1 : Int) (x2 : Int) (x3 : Int) (x4 : Int) (x5 : Int) (x6 : Int) : Option (Int × OO) := qB (loopW (fun s => l_X12_copy_104 x1 x2 x3 x4 x5 s.1 s.2) (o, x6)) (fun r => b_X12_copy_138 r x3 x4 x5)
noncomputable def s_X12_copy (o : OO) (x1 : Int) (x2 : Int) (x3 : Int) (x4 : Int) (x5 : Int) : Option (Int × OO) := qB (s_X12_isRow x1) (fun r16 => qEq r16 0 (b_X12_copy_14 o) (qB (s_X12_isRow x3) (fun r18 => qEq r18 0 (b_X12_copy_14 o) (qLt x5 0 (qB2 (s_X12_meets o 5) (fun r28 o30 => some (r28, o30))) (qIn x1 6 (qNm (o.1 2 x1.toNat) (fun n21 => qLt n21 0 (b_X12_copy_45 o) (qIn x3 6 (qNm (o.1 2 x3.toNat) (fun n23 => qLt n23 0 (b_X12_copy_45 o) (qLt x2 0 (b_X12_copy_95 o) (qLt x4 0 (b_X12_copy_95 o) (qIn x1 6 (qNm (o.1 2 x1.toNat) (fun n25 => qJl (jl n25) ((jl x2) + (jl x5)) (b_X12_copy_95 o) (qIn x3 6 (qNm (o.1 2 x3.toNat) (fun n27 => qJl (jl n27) ((jl x4) + (jl x5)) (b_X12_copy_95 o) (e_X12_copy_104 o x1 x2 x3 x4 x5 0)))))))))))))))))))
set_option maxHeartbeats 4000000 in
set_option maxRecDepth 100000 in
theorem c_X12_copy (l : Launch) (g : GG) (ad : Nat → Nat) (o : OO) (x1 : Int) (x2 : Int) (x3 : Int) (x4 : Int) (x5 : Int) (v : Int × OO) (h : s_X12_copy o x1 x2 x3 x4 x5 = some v) : CI l g yX12_copy cX12_copy 7 (some .int) 2 42 (wM g ad o) [.ref (ad 0), iv x1, iv x2, iv x3, iv x4, iv x5] v.1 (wM g ad v.2) := by
  refine met_I (by decide) (Nat.le_of_ble_eq_true rfl) ?_
  intro X E hQ
  show Go X 0 (wM g ad o) [(0, .ref (ad 0)), (1, iv x1), (2, iv x2), (3, iv x3), (4, iv x4), (5, iv x5)] []
  have j14 : ∀ (o : OO), b_X12_copy_14 o = some v → Go X 14 (wM g ad o) [] [] := by
    intro o h
    unfold b_X12_copy_14 at h
    refine g_iconst E gdX12_copy_14 ?_
    exact g_iret E hQ (by rw [← Option.some.inj h]) (by rw [← Option.some.inj h]) gdX12_copy_15
  have j45 : ∀ (o : OO), b_X12_copy_45 o = some v → Go X 45 (wM g ad o) [(0, .ref (ad 0))] [] := by
    intro o h
    unfold b_X12_copy_45 at h
    refine g_aload_n E gdX12_copy_45 rfl 0 rfl ?_
    refine g_iconst E gdX12_copy_46 ?_
    obtain ⟨r1, o3, hc2, h⟩ := qB2_of h
    refine g_Vi (r := r1) (As := [iv 1]) (rest := []) (w := wM g ad o3) E (c_X12_meets l g ad o 1 (r1, o3) hc2) okm_X12_meets okw_X12_meets w_1708 rfl (wM_0 g ad o) rfl rfl (Nat.le_of_ble_eq_true rfl) ⟨Nat.le_of_ble_eq_true rfl, Nat.le_of_ble_eq_true rfl⟩ gdX12_copy_47 ?_
    exact g_iret E hQ (by rw [← Option.some.inj h]) (by rw [← Option.some.inj h]) gdX12_copy_50
  have j95 : ∀ (o : OO), b_X12_copy_95 o = some v → Go X 95 (wM g ad o) [(0, .ref (ad 0))] [] := by
    intro o h
    unfold b_X12_copy_95 at h
    refine g_aload_n E gdX12_copy_95 rfl 0 rfl ?_
    refine g_iconst E gdX12_copy_96 ?_
    obtain ⟨r4, o6, hc5, h⟩ := qB2_of h
    refine g_Vi (r := r4) (As := [iv 2]) (rest := []) (w := wM g ad o6) E (c_X12_meets l g ad o 2 (r4, o6) hc5) okm_X12_meets okw_X12_meets w_1708 rfl (wM_0 g ad o) rfl rfl (Nat.le_of_ble_eq_true rfl) ⟨Nat.le_of_ble_eq_true rfl, Nat.le_of_ble_eq_true rfl⟩ gdX12_copy_97 ?_
    exact g_iret E hQ (by rw [← Option.some.inj h]) (by rw [← Option.some.inj h]) gdX12_copy_100
  have j176 : ∀ (o : OO), b_X12_copy_176 o = some v → Go X 176 (wM g ad o) [] [] := by
    intro o h
    unfold b_X12_copy_176 at h
    refine g_iconst E gdX12_copy_176 ?_
    exact g_iret E hQ (by rw [← Option.some.inj h]) (by rw [← Option.some.inj h]) gdX12_copy_177
  have l141 : ∀ (x3 : Int) (x4 : Int) (x5 : Int) (r : (OO)) (s0 : OO × Int), loopW (fun s => l_X12_copy_141 x3 x4 x5 s.1 s.2) s0 = some r → (∀ (o : OO), r = (o) → Go X 176 (wM g ad o) [] []) → Go X 141 (wM g ad s0.1) [(0, .ref (ad 0)), (3, iv x3), (4, iv x4), (5, iv x5), (6, iv s0.2)] [] := by
    intro x3 x4 x5 r s0 h k1
    refine loop_rule (Head := fun s0 => Go X 141 (wM g ad s0.1) [(0, .ref (ad 0)), (3, iv x3), (4, iv x4), (5, iv x5), (6, iv s0.2)] []) h ?_
    intro s v h kk kx
    obtain ⟨o, x6⟩ := s
    have h : l_X12_copy_141 x3 x4 x5 o x6 = some v := h
    have k0 : ∀ (o : OO) (x6 : Int), v = .inl (o, x6) → Go X 141 (wM g ad o) [(0, .ref (ad 0)), (3, iv x3), (4, iv x4), (5, iv x5), (6, iv x6)] [] := fun o x6 e => kk (o, x6) e
    have k1 : ∀ (o : OO), v = .inr (o) → Go X 176 (wM g ad o) [] [] := fun o e => k1 o (kx _ e).symm
    unfold l_X12_copy_141 at h
    refine g_iload E gdX12_copy_141 4 rfl ?_
    refine g_iload E gdX12_copy_143 3 rfl ?_
    refine g_icmp_ge E 176 gdX12_copy_145 (by decide) h (fun h => ?_) (fun h => ?_)
    ·
      refine g_sub E [] rfl ?_
      exact k1 o (Option.some.inj h).symm
    ·
      refine g_aload_n E gdX12_copy_148 rfl 0 rfl ?_
      refine g_get (T := TX12) E fw_X12 0 (wM_0 g ad o) rfl 6 (by decide) w_1472 rfl rfl gdX12_copy_149 ?_
      refine g_bipush E gdX12_copy_152 (by decide) ?_
      refine g_iload_n E gdX12_copy_154 rfl 1 rfl ?_
      refine g_imul E gdX12_copy_155 ?_
      refine g_iload E gdX12_copy_156 2 rfl ?_
      refine g_iadd E gdX12_copy_158 ?_
      refine g_iload E gdX12_copy_159 4 rfl ?_
      refine g_iadd E gdX12_copy_161 ?_
      refine g_aload_n E gdX12_copy_162 rfl 0 rfl ?_
      refine g_get (T := TX12) E fw_X12 0 (wM_0 g ad o) rfl 7 (by decide) w_1473 rfl rfl gdX12_copy_163 ?_
      refine g_iload E gdX12_copy_166 4 rfl ?_
      obtain ⟨hi7, h⟩ := qIn_of h
      refine g_iald E 4 (wM_4 g ad o) (by decide) hi7 gdX12_copy_168 ?_
      obtain ⟨n8, e_n8, h⟩ := qNm_of h
      refine g_nmi e_n8 ?_
      obtain ⟨hi9, h⟩ := qIn_of h
      obtain ⟨o10, e_o10, h⟩ := qNm_of h
      refine g_iast (ws' := wM g ad o10) E 3 (wM_3 g ad o) (by decide) hi9 (by rw [e_o10]; exact wM_s3 g ad o _ _) gdX12_copy_169 ?_
      refine g_iinc E [(6, iv (x6 + 1)), (0, .ref (ad 0)), (3, iv x3), (4, iv x4), (5, iv x5)] gdX12_copy_170 4 rfl (by decide) rfl ?_
      refine g_goto E 141 gdX12_copy_173 (by decide) ?_
      refine g_sub E [1, 2, 3, 4, 0] rfl ?_
      exact k0 o10 (x6 + 1) (Option.some.inj h).symm
  have j141 : ∀ (o : OO) (x3 : Int) (x4 : Int) (x5 : Int) (x6 : Int), e_X12_copy_141 o x3 x4 x5 x6 = some v → Go X 141 (wM g ad o) [(0, .ref (ad 0)), (3, iv x3), (4, iv x4), (5, iv x5), (6, iv x6)] [] := by
    intro o x3 x4 x5 x6 h
    unfold e_X12_copy_141 at h
    obtain ⟨r, hr, h⟩ := qB_of h
    refine l141 x3 x4 x5 r _ hr ?_
    ·
      intro u0 e
      have e := e.symm
      subst e
      have h : b_X12_copy_176 u0 = some v := h
      exact j176 u0 h
  have j138 : ∀ (o : OO) (x3 : Int) (x4 : Int) (x5 : Int), b_X12_copy_138 o x3 x4 x5 = some v → Go X 138 (wM g ad o) [(0, .ref (ad 0)), (3, iv x3), (4, iv x4), (5, iv x5)] [] := by
    intro o x3 x4 x5 h
    unfold b_X12_copy_138 at h
    refine g_iconst E gdX12_copy_138 ?_
    refine g_istore E [(6, iv 0), (0, .ref (ad 0)), (3, iv x3), (4, iv x4), (5, iv x5)] gdX12_copy_139 (by decide) rfl ?_
    refine g_sub E [1, 2, 3, 4, 0] rfl ?_
    exact j141 o x3 x4 x5 0 h
  have l104 : ∀ (x1 : Int) (x2 : Int) (x3 : Int) (x4 : Int) (x5 : Int) (r : (OO)) (s0 : OO × Int), loopW (fun s => l_X12_copy_104 x1 x2 x3 x4 x5 s.1 s.2) s0 = some r → (∀ (o : OO), r = (o) → Go X 138 (wM g ad o) [(0, .ref (ad 0)), (3, iv x3), (4, iv x4), (5, iv x5)] []) → Go X 104 (wM g ad s0.1) [(0, .ref (ad 0)), (1, iv x1), (2, iv x2), (3, iv x3), (4, iv x4), (5, iv x5), (6, iv s0.2)] [] := by
    intro x1 x2 x3 x4 x5 r s0 h k1
    refine loop_rule (Head := fun s0 => Go X 104 (wM g ad s0.1) [(0, .ref (ad 0)), (1, iv x1), (2, iv x2), (3, iv x3), (4, iv x4), (5, iv x5), (6, iv s0.2)] []) h ?_
    intro s v h kk kx
    obtain ⟨o, x6⟩ := s
    have h : l_X12_copy_104 x1 x2 x3 x4 x5 o x6 = some v := h
    have k0 : ∀ (o : OO) (x6 : Int), v = .inl (o, x6) → Go X 104 (wM g ad o) [(0, .ref (ad 0)), (1, iv x1), (2, iv x2), (3, iv x3), (4, iv x4), (5, iv x5), (6, iv x6)] [] := fun o x6 e => kk (o, x6) e
    have k1 : ∀ (o : OO), v = .inr (o) → Go X 138 (wM g ad o) [(0, .ref (ad 0)), (3, iv x3), (4, iv x4), (5, iv x5)] [] := fun o e => k1 o (kx _ e).symm
    unfold l_X12_copy_104 at h
    refine g_iload E gdX12_copy_104 6 rfl ?_
    refine g_iload E gdX12_copy_106 5 rfl ?_
    refine g_icmp_ge E 138 gdX12_copy_108 (by decide) h (fun h => ?_) (fun h => ?_)
    ·
      refine g_sub E [0, 3, 4, 5] rfl ?_
      exact k1 o (Option.some.inj h).symm
    ·
      refine g_aload_n E gdX12_copy_111 rfl 0 rfl ?_
      refine g_get (T := TX12) E fw_X12 0 (wM_0 g ad o) rfl 7 (by decide) w_1473 rfl rfl gdX12_copy_112 ?_
      refine g_iload E gdX12_copy_115 6 rfl ?_
      refine g_aload_n E gdX12_copy_117 rfl 0 rfl ?_
      refine g_get (T := TX12) E fw_X12 0 (wM_0 g ad o) rfl 6 (by decide) w_1472 rfl rfl gdX12_copy_118 ?_
      refine g_bipush E gdX12_copy_121 (by decide) ?_
      refine g_iload_n E gdX12_copy_123 rfl 1 rfl ?_
      refine g_imul E gdX12_copy_124 ?_
      refine g_iload_n E gdX12_copy_125 rfl 2 rfl ?_
      refine g_iadd E gdX12_copy_126 ?_
      refine g_iload E gdX12_copy_127 6 rfl ?_
      refine g_iadd E gdX12_copy_129 ?_
      obtain ⟨n11, e_n11, h⟩ := qNm_of h
      refine g_nmi e_n11 ?_
      obtain ⟨hi12, h⟩ := qIn_of h
      refine g_iald E 3 (wM_3 g ad o) (by decide) hi12 gdX12_copy_130 ?_
      obtain ⟨n13, e_n13, h⟩ := qNm_of h
      refine g_nmi e_n13 ?_
      obtain ⟨hi14, h⟩ := qIn_of h
      obtain ⟨o15, e_o15, h⟩ := qNm_of h
      refine g_iast (ws' := wM g ad o15) E 4 (wM_4 g ad o) (by decide) hi14 (by rw [e_o15]; exact wM_s4 g ad o _ _) gdX12_copy_131 ?_
      refine g_iinc E [(6, iv (x6 + 1)), (0, .ref (ad 0)), (1, iv x1), (2, iv x2), (3, iv x3), (4, iv x4), (5, iv x5)] gdX12_copy_132 6 rfl (by decide) rfl ?_
      refine g_goto E 104 gdX12_copy_135 (by decide) ?_
      refine g_sub E [1, 2, 3, 4, 5, 6, 0] rfl ?_
      exact k0 o15 (x6 + 1) (Option.some.inj h).symm
  have j104 : ∀ (o : OO) (x1 : Int) (x2 : Int) (x3 : Int) (x4 : Int) (x5 : Int) (x6 : Int), e_X12_copy_104 o x1 x2 x3 x4 x5 x6 = some v → Go X 104 (wM g ad o) [(0, .ref (ad 0)), (1, iv x1), (2, iv x2), (3, iv x3), (4, iv x4), (5, iv x5), (6, iv x6)] [] := by
    intro o x1 x2 x3 x4 x5 x6 h
    unfold e_X12_copy_104 at h
    obtain ⟨r, hr, h⟩ := qB_of h
    refine l104 x1 x2 x3 x4 x5 r _ hr ?_
    ·
      intro u0 e
      have e := e.symm
      subst e
      have h : b_X12_copy_138 u0 x3 x4 x5 = some v := h
      exact j138 u0 x3 x4 x5 h
  unfold s_X12_copy at h
  refine g_iload_n E gdX12_copy_0 rfl 1 rfl ?_
  obtain ⟨r16, hc17, h⟩ := qB_of h
  refine g_Si (r := r16) (As := [iv x1]) (rest := []) (w := wM g ad o) E (c_X12_isRow l g (wM g ad o) x1 r16 hc17) okm_X12_isRow w_1703 w_1702 rfl rfl (Nat.le_of_ble_eq_true rfl) ⟨Nat.le_of_ble_eq_true rfl, Nat.le_of_ble_eq_true rfl⟩ gdX12_copy_1 ?_
  refine g_if_eq E 14 gdX12_copy_4 (by decide) h (fun h => ?_) (fun h => ?_)
  ·
    refine g_sub E [] rfl ?_
    exact j14 o h
  ·
    refine g_iload_n E gdX12_copy_7 rfl 3 rfl ?_
    obtain ⟨r18, hc19, h⟩ := qB_of h
    refine g_Si (r := r18) (As := [iv x3]) (rest := []) (w := wM g ad o) E (c_X12_isRow l g (wM g ad o) x3 r18 hc19) okm_X12_isRow w_1703 w_1702 rfl rfl (Nat.le_of_ble_eq_true rfl) ⟨Nat.le_of_ble_eq_true rfl, Nat.le_of_ble_eq_true rfl⟩ gdX12_copy_8 ?_
    refine g_if_ne E 16 gdX12_copy_11 (by decide) h (fun h => ?_) (fun h => ?_)
    ·
      refine g_iload E gdX12_copy_16 5 rfl ?_
      refine g_if_ge E 27 gdX12_copy_18 (by decide) h (fun h => ?_) (fun h => ?_)
      ·
        refine g_aload_n E gdX12_copy_27 rfl 0 rfl ?_
        refine g_get (T := TX12) E fw_X12 0 (wM_0 g ad o) rfl 5 (by decide) w_1471 rfl rfl gdX12_copy_28 ?_
        refine g_iload_n E gdX12_copy_31 rfl 1 rfl ?_
        obtain ⟨hi20, h⟩ := qIn_of h
        refine g_iald E 2 (wM_2 g ad o) (by decide) hi20 gdX12_copy_32 ?_
        obtain ⟨n21, e_n21, h⟩ := qNm_of h
        refine g_nmi e_n21 ?_
        refine g_if_lt E 45 gdX12_copy_33 (by decide) h (fun h => ?_) (fun h => ?_)
        ·
          refine g_sub E [0] rfl ?_
          exact j45 o h
        ·
          refine g_aload_n E gdX12_copy_36 rfl 0 rfl ?_
          refine g_get (T := TX12) E fw_X12 0 (wM_0 g ad o) rfl 5 (by decide) w_1471 rfl rfl gdX12_copy_37 ?_
          refine g_iload_n E gdX12_copy_40 rfl 3 rfl ?_
          obtain ⟨hi22, h⟩ := qIn_of h
          refine g_iald E 2 (wM_2 g ad o) (by decide) hi22 gdX12_copy_41 ?_
          obtain ⟨n23, e_n23, h⟩ := qNm_of h
          refine g_nmi e_n23 ?_
          refine g_if_ge E 51 gdX12_copy_42 (by decide) h (fun h => ?_) (fun h => ?_)
          ·
            refine g_iload_n E gdX12_copy_51 rfl 2 rfl ?_
            refine g_if_lt E 95 gdX12_copy_52 (by decide) h (fun h => ?_) (fun h => ?_)
            ·
              refine g_sub E [0] rfl ?_
              exact j95 o h
            ·
              refine g_iload E gdX12_copy_55 4 rfl ?_
              refine g_if_lt E 95 gdX12_copy_57 (by decide) h (fun h => ?_) (fun h => ?_)
              ·
                refine g_sub E [0] rfl ?_
                exact j95 o h
              ·
                refine g_iload_n E gdX12_copy_60 rfl 2 rfl ?_
                refine g_i2l E gdX12_copy_61 ?_
                refine g_iload E gdX12_copy_62 5 rfl ?_
                refine g_i2l E gdX12_copy_64 ?_
                refine g_ladd E gdX12_copy_65 ?_
                refine g_aload_n E gdX12_copy_66 rfl 0 rfl ?_
                refine g_get (T := TX12) E fw_X12 0 (wM_0 g ad o) rfl 5 (by decide) w_1471 rfl rfl gdX12_copy_67 ?_
                refine g_iload_n E gdX12_copy_70 rfl 1 rfl ?_
                obtain ⟨hi24, h⟩ := qIn_of h
                refine g_iald E 2 (wM_2 g ad o) (by decide) hi24 gdX12_copy_71 ?_
                obtain ⟨n25, e_n25, h⟩ := qNm_of h
                refine g_nmi e_n25 ?_
                refine g_i2l E gdX12_copy_72 ?_
                refine g_lcmp_gt E 95 gdX12_copy_73 gdX12_copy_74 (by decide) h (fun h => ?_) (fun h => ?_)
                ·
                  refine g_sub E [0] rfl ?_
                  exact j95 o h
                ·
                  refine g_iload E gdX12_copy_77 4 rfl ?_
                  refine g_i2l E gdX12_copy_79 ?_
                  refine g_iload E gdX12_copy_80 5 rfl ?_
                  refine g_i2l E gdX12_copy_82 ?_
                  refine g_ladd E gdX12_copy_83 ?_
                  refine g_aload_n E gdX12_copy_84 rfl 0 rfl ?_
                  refine g_get (T := TX12) E fw_X12 0 (wM_0 g ad o) rfl 5 (by decide) w_1471 rfl rfl gdX12_copy_85 ?_
                  refine g_iload_n E gdX12_copy_88 rfl 3 rfl ?_
                  obtain ⟨hi26, h⟩ := qIn_of h
                  refine g_iald E 2 (wM_2 g ad o) (by decide) hi26 gdX12_copy_89 ?_
                  obtain ⟨n27, e_n27, h⟩ := qNm_of h
                  refine g_nmi e_n27 ?_
                  refine g_i2l E gdX12_copy_90 ?_
                  refine g_lcmp_le E 101 gdX12_copy_91 gdX12_copy_92 (by decide) h (fun h => ?_) (fun h => ?_)
                  ·
                    refine g_iconst E gdX12_copy_101 ?_
                    refine g_istore E [(6, iv 0), (0, .ref (ad 0)), (1, iv x1), (2, iv x2), (3, iv x3), (4, iv x4), (5, iv x5)] gdX12_copy_102 (by decide) rfl ?_
                    refine g_sub E [1, 2, 3, 4, 5, 6, 0] rfl ?_
                    exact j104 o x1 x2 x3 x4 x5 0 h
                  ·
                    refine g_sub E [0] rfl ?_
                    exact j95 o h
          ·
            refine g_sub E [0] rfl ?_
            exact j45 o h
      ·
        refine g_aload_n E gdX12_copy_21 rfl 0 rfl ?_
        refine g_iconst E gdX12_copy_22 ?_
        obtain ⟨r28, o30, hc29, h⟩ := qB2_of h
        refine g_Vi (r := r28) (As := [iv 5]) (rest := []) (w := wM g ad o30) E (c_X12_meets l g ad o 5 (r28, o30) hc29) okm_X12_meets okw_X12_meets w_1708 rfl (wM_0 g ad o) rfl rfl (Nat.le_of_ble_eq_true rfl) ⟨Nat.le_of_ble_eq_true rfl, Nat.le_of_ble_eq_true rfl⟩ gdX12_copy_23 ?_
        exact g_iret E hQ (by rw [← Option.some.inj h]) (by rw [← Option.some.inj h]) gdX12_copy_26
    ·
      refine g_sub E [] rfl ?_
      exact j14 o h
noncomputable def b_X12_cost_20 (o : OO) (y0 : Int) : Option (Int × OO) := some (y0, o)
noncomputable def s_X12_cost (o : OO) (x1 : Int) : Option (Int × OO) := qB2 (s_X12_askedLine o x1) (fun r1 o3 => qLt r1 0 (b_X12_cost_20 o3 r1) (qIn x1 24 (qNm (o3.1 28 x1.toNat) (fun n5 => b_X12_cost_20 o3 n5))))
set_option maxHeartbeats 4000000 in
set_option maxRecDepth 100000 in
theorem c_X12_cost (l : Launch) (g : GG) (ad : Nat → Nat) (o : OO) (x1 : Int) (v : Int × OO) (h : s_X12_cost o x1 = some v) : CI l g yX12_cost cX12_cost 3 (some .int) 3 64 (wM g ad o) [.ref (ad 0), iv x1] v.1 (wM g ad v.2) := by
  refine met_I (by decide) (Nat.le_of_ble_eq_true rfl) ?_
  intro X E hQ
  show Go X 0 (wM g ad o) [(0, .ref (ad 0)), (1, iv x1)] []
  have j20 : ∀ (o : OO) (y0 : Int), b_X12_cost_20 o y0 = some v → Go X 20 (wM g ad o) [] [iv y0] := by
    intro o y0 h
    unfold b_X12_cost_20 at h
    exact g_iret E hQ (by rw [← Option.some.inj h]) (by rw [← Option.some.inj h]) gdX12_cost_20
  unfold s_X12_cost at h
  refine g_aload_n E gdX12_cost_0 rfl 0 rfl ?_
  refine g_iload_n E gdX12_cost_1 rfl 1 rfl ?_
  obtain ⟨r1, o3, hc2, h⟩ := qB2_of h
  refine g_Vi (r := r1) (As := [iv x1]) (rest := []) (w := wM g ad o3) E (c_X12_askedLine l g ad o x1 (r1, o3) hc2) okm_X12_askedLine okw_X12_askedLine w_1925 rfl (wM_0 g ad o) rfl rfl (Nat.le_of_ble_eq_true rfl) ⟨Nat.le_of_ble_eq_true rfl, Nat.le_of_ble_eq_true rfl⟩ gdX12_cost_2 ?_
  refine g_istore_n E [(2, iv r1), (0, .ref (ad 0)), (1, iv x1)] gdX12_cost_5 rfl (by decide) rfl ?_
  refine g_iload_n E gdX12_cost_6 rfl 0 rfl ?_
  refine g_if_ge E 14 gdX12_cost_7 (by decide) h (fun h => ?_) (fun h => ?_)
  ·
    refine g_aload_n E gdX12_cost_14 rfl 1 rfl ?_
    refine g_get (T := TX12) E fw_X12 0 (wM_0 g ad o3) rfl 36 (by decide) w_1502 rfl rfl gdX12_cost_15 ?_
    refine g_iload_n E gdX12_cost_18 rfl 2 rfl ?_
    obtain ⟨hi4, h⟩ := qIn_of h
    refine g_iald E 28 (wM_28 g ad o3) (by decide) hi4 gdX12_cost_19 ?_
    obtain ⟨n5, e_n5, h⟩ := qNm_of h
    refine g_nmi e_n5 ?_
    refine g_sub E [] rfl ?_
    exact j20 o3 n5 h
  ·
    refine g_iload_n E gdX12_cost_10 rfl 0 rfl ?_
    refine g_goto E 20 gdX12_cost_11 (by decide) ?_
    refine g_sub E [] rfl ?_
    exact j20 o3 r1 h
noncomputable def b_X12_counts_90 (o : OO) (x2 : Int) : Option (Int) := some x2
noncomputable def b_X12_counts_82 (o : OO) (x3 : Int) (y0 : Int) (y1 : Int) : Option ((Int × Int) ⊕ ((Int))) := qNm (y0 + y1) (fun n1 => some (.inl (n1, x3 + 1)))
noncomputable def l_X12_counts_59 (o : OO) (x2 : Int) (x3 : Int) : Option ((Int × Int) ⊕ ((Int))) := qLt x3 (o.1 0 17) (qIn x3 32 (qNm (o.1 16 x3.toNat) (fun n3 => qEq n3 0 (b_X12_counts_82 o x3 x2 1) (b_X12_counts_82 o x3 x2 0)))) (some (.inr (x2)))
noncomputable def e_X12_counts_59 (o : OO) (x2 : Int) (x3 : Int) : Option (Int) := qB (loopW (fun s => l_X12_counts_59 o s.1 s.2) (x2, x3)) (fun r => b_X12_counts_90 o r)
noncomputable def b_X12_counts_130 (o : OO) (x2 : Int) : Option (Int) := some x2
noncomputable def b_X12_counts_122 (o : OO) (x3 : Int) (y0 : Int) (y1 : Int) : Option ((Int × Int) ⊕ ((Int))) := qNm (y0 + y1) (fun n4 => some (.inl (n4, x3 + 1)))
noncomputable def l_X12_counts_99 (o : OO) (x2 : Int) (x3 : Int) : Option ((Int × Int) ⊕ ((Int))) := qLt x3 (o.1 0 27) (qIn x3 40 (qNm (o.1 21 x3.toNat) (fun n6 => qLt n6 0 (b_X12_counts_122 o x3 x2 1) (b_X12_counts_122 o x3 x2 0)))) (some (.inr (x2)))
noncomputable def e_X12_counts_99 (o : OO) (x2 : Int) (x3 : Int) : Option (Int) := qB (loopW (fun s => l_X12_counts_99 o s.1 s.2) (x2, x3)) (fun r => b_X12_counts_130 o r)
noncomputable def b_X12_counts_183 (o : OO) (x2 : Int) : Option (Int) := some x2
noncomputable def b_X12_counts_175 (o : OO) (x3 : Int) (y0 : Int) (y1 : Int) : Option ((Int × Int) ⊕ ((Int))) := qNm (y0 + y1) (fun n7 => some (.inl (n7, x3 + 1)))
noncomputable def l_X12_counts_154 (o : OO) (x2 : Int) (x3 : Int) : Option ((Int × Int) ⊕ ((Int))) := qLt x3 6 (qIn x3 6 (qNm (o.1 2 x3.toNat) (fun n9 => qLt n9 0 (b_X12_counts_175 o x3 x2 0) (b_X12_counts_175 o x3 x2 1)))) (some (.inr (x2)))
noncomputable def e_X12_counts_154 (o : OO) (x2 : Int) (x3 : Int) : Option (Int) := qB (loopW (fun s => l_X12_counts_154 o s.1 s.2) (x2, x3)) (fun r => b_X12_counts_183 o r)
noncomputable def b_X12_counts_215 (o : OO) (x2 : Int) : Option (Int) := some x2
noncomputable def b_X12_counts_207 (o : OO) (x3 : Int) (y0 : Int) (y1 : Int) : Option ((Int × Int) ⊕ ((Int))) := qNm (y0 + y1) (fun n10 => some (.inl (n10, x3 + 1)))
noncomputable def l_X12_counts_187 (o : OO) (x2 : Int) (x3 : Int) : Option ((Int × Int) ⊕ ((Int))) := qLt x3 4 (qIn x3 4 (qNm (o.1 5 x3.toNat) (fun n12 => qLt n12 0 (b_X12_counts_207 o x3 x2 0) (b_X12_counts_207 o x3 x2 1)))) (some (.inr (x2)))
noncomputable def e_X12_counts_187 (o : OO) (x2 : Int) (x3 : Int) : Option (Int) := qB (loopW (fun s => l_X12_counts_187 o s.1 s.2) (x2, x3)) (fun r => b_X12_counts_215 o r)
noncomputable def s_X12_counts (o : OO) (x1 : Int) : Option (Int) := qEq x1 0 (some (o.1 0 4)) (qEq x1 1 (e_X12_counts_59 o 0 0) (qEq x1 2 (some (o.1 0 27)) (qEq x1 3 (e_X12_counts_99 o 0 0) (qEq x1 4 (some (o.1 0 10)) (qEq x1 5 (some (o.1 0 32)) (qEq x1 6 (some (o.1 0 48)) (qEq x1 7 (some (o.1 0 23)) (qEq x1 8 (e_X12_counts_154 o 0 0) (e_X12_counts_187 o 0 0)))))))))
set_option maxHeartbeats 4000000 in
set_option maxRecDepth 100000 in
theorem c_X12_counts (l : Launch) (g : GG) (ad : Nat → Nat) (o : OO) (x1 : Int) (v : Int) (h : s_X12_counts o x1 = some v) : CI l g yX12_counts cX12_counts 4 (some .int) 0 0 (wM g ad o) [.ref (ad 0), iv x1] v (wM g ad o) := by
  refine met_I (by decide) (Nat.le_of_ble_eq_true rfl) ?_
  intro X E hQ
  show Go X 0 (wM g ad o) [(0, .ref (ad 0)), (1, iv x1)] []
  have j90 : ∀ (x2 : Int), b_X12_counts_90 o x2 = some v → Go X 90 (wM g ad o) [(2, iv x2)] [] := by
    intro x2 h
    unfold b_X12_counts_90 at h
    refine g_iload_n E gdX12_counts_90 rfl 0 rfl ?_
    exact g_iret E hQ (Option.some.inj h) rfl gdX12_counts_91
  have j82 : ∀ (x3 : Int) (y0 : Int) (y1 : Int) (v : (Int × Int) ⊕ ((Int))), b_X12_counts_82 o x3 y0 y1 = some v → (∀ (x2 : Int) (x3 : Int), v = .inl (x2, x3) → Go X 59 (wM g ad o) [(0, .ref (ad 0)), (2, iv x2), (3, iv x3)] []) → (∀ (x2 : Int), v = .inr (x2) → Go X 90 (wM g ad o) [(2, iv x2)] []) → Go X 82 (wM g ad o) [(0, .ref (ad 0)), (3, iv x3)] [iv y1, iv y0] := by
    intro x3 y0 y1 v h k0 k1
    unfold b_X12_counts_82 at h
    refine g_iadd E gdX12_counts_82 ?_
    obtain ⟨n1, e_n1, h⟩ := qNm_of h
    refine g_nmi e_n1 ?_
    refine g_istore_n E [(2, iv n1), (0, .ref (ad 0)), (3, iv x3)] gdX12_counts_83 rfl (by decide) rfl ?_
    refine g_iinc E [(3, iv (x3 + 1)), (2, iv n1), (0, .ref (ad 0))] gdX12_counts_84 2 rfl (by decide) rfl ?_
    refine g_goto E 59 gdX12_counts_87 (by decide) ?_
    refine g_sub E [2, 1, 0] rfl ?_
    exact k0 n1 (x3 + 1) (Option.some.inj h).symm
  have l59 : ∀  (r : (Int)) (s0 : Int × Int), loopW (fun s => l_X12_counts_59 o s.1 s.2) s0 = some r → (∀ (x2 : Int), r = (x2) → Go X 90 (wM g ad o) [(2, iv x2)] []) → Go X 59 (wM g ad o) [(0, .ref (ad 0)), (2, iv s0.1), (3, iv s0.2)] [] := by
    intro r s0 h k1
    refine loop_rule (Head := fun s0 => Go X 59 (wM g ad o) [(0, .ref (ad 0)), (2, iv s0.1), (3, iv s0.2)] []) h ?_
    intro s v h kk kx
    obtain ⟨x2, x3⟩ := s
    have h : l_X12_counts_59 o x2 x3 = some v := h
    have k0 : ∀ (x2 : Int) (x3 : Int), v = .inl (x2, x3) → Go X 59 (wM g ad o) [(0, .ref (ad 0)), (2, iv x2), (3, iv x3)] [] := fun x2 x3 e => kk (x2, x3) e
    have k1 : ∀ (x2 : Int), v = .inr (x2) → Go X 90 (wM g ad o) [(2, iv x2)] [] := fun x2 e => k1 x2 (kx _ e).symm
    unfold l_X12_counts_59 at h
    refine g_iload_n E gdX12_counts_59 rfl 2 rfl ?_
    refine g_aload_n E gdX12_counts_60 rfl 0 rfl ?_
    refine g_get (T := TX12) E fw_X12 0 (wM_0 g ad o) rfl 17 (by decide) w_1483 rfl rfl gdX12_counts_61 ?_
    refine g_icmp_ge E 90 gdX12_counts_64 (by decide) h (fun h => ?_) (fun h => ?_)
    ·
      refine g_sub E [1] rfl ?_
      exact k1 x2 (Option.some.inj h).symm
    ·
      refine g_iload_n E gdX12_counts_67 rfl 1 rfl ?_
      refine g_aload_n E gdX12_counts_68 rfl 0 rfl ?_
      refine g_get (T := TX12) E fw_X12 0 (wM_0 g ad o) rfl 21 (by decide) w_1487 rfl rfl gdX12_counts_69 ?_
      refine g_iload_n E gdX12_counts_72 rfl 2 rfl ?_
      obtain ⟨hi2, h⟩ := qIn_of h
      refine g_zald E 16 (wM_16 g ad o) (by decide) hi2 gdX12_counts_73 ?_
      obtain ⟨n3, e_n3, h⟩ := qNm_of h
      refine g_nmi e_n3 ?_
      refine g_if_eq E 81 gdX12_counts_74 (by decide) h (fun h => ?_) (fun h => ?_)
      ·
        refine g_iconst E gdX12_counts_81 ?_
        refine g_sub E [0, 2] rfl ?_
        exact j82 x3 x2 1 v h k0 k1
      ·
        refine g_iconst E gdX12_counts_77 ?_
        refine g_goto E 82 gdX12_counts_78 (by decide) ?_
        refine g_sub E [0, 2] rfl ?_
        exact j82 x3 x2 0 v h k0 k1
  have j59 : ∀ (x2 : Int) (x3 : Int), e_X12_counts_59 o x2 x3 = some v → Go X 59 (wM g ad o) [(0, .ref (ad 0)), (2, iv x2), (3, iv x3)] [] := by
    intro x2 x3 h
    unfold e_X12_counts_59 at h
    obtain ⟨r, hr, h⟩ := qB_of h
    refine l59  r _ hr ?_
    ·
      intro u0 e
      have e := e.symm
      subst e
      have h : b_X12_counts_90 o u0 = some v := h
      exact j90 u0 h
  have j130 : ∀ (x2 : Int), b_X12_counts_130 o x2 = some v → Go X 130 (wM g ad o) [(2, iv x2)] [] := by
    intro x2 h
    unfold b_X12_counts_130 at h
    refine g_iload_n E gdX12_counts_130 rfl 0 rfl ?_
    exact g_iret E hQ (Option.some.inj h) rfl gdX12_counts_131
  have j122 : ∀ (x3 : Int) (y0 : Int) (y1 : Int) (v : (Int × Int) ⊕ ((Int))), b_X12_counts_122 o x3 y0 y1 = some v → (∀ (x2 : Int) (x3 : Int), v = .inl (x2, x3) → Go X 99 (wM g ad o) [(0, .ref (ad 0)), (2, iv x2), (3, iv x3)] []) → (∀ (x2 : Int), v = .inr (x2) → Go X 130 (wM g ad o) [(2, iv x2)] []) → Go X 122 (wM g ad o) [(0, .ref (ad 0)), (3, iv x3)] [iv y1, iv y0] := by
    intro x3 y0 y1 v h k0 k1
    unfold b_X12_counts_122 at h
    refine g_iadd E gdX12_counts_122 ?_
    obtain ⟨n4, e_n4, h⟩ := qNm_of h
    refine g_nmi e_n4 ?_
    refine g_istore_n E [(2, iv n4), (0, .ref (ad 0)), (3, iv x3)] gdX12_counts_123 rfl (by decide) rfl ?_
    refine g_iinc E [(3, iv (x3 + 1)), (2, iv n4), (0, .ref (ad 0))] gdX12_counts_124 2 rfl (by decide) rfl ?_
    refine g_goto E 99 gdX12_counts_127 (by decide) ?_
    refine g_sub E [2, 1, 0] rfl ?_
    exact k0 n4 (x3 + 1) (Option.some.inj h).symm
  have l99 : ∀  (r : (Int)) (s0 : Int × Int), loopW (fun s => l_X12_counts_99 o s.1 s.2) s0 = some r → (∀ (x2 : Int), r = (x2) → Go X 130 (wM g ad o) [(2, iv x2)] []) → Go X 99 (wM g ad o) [(0, .ref (ad 0)), (2, iv s0.1), (3, iv s0.2)] [] := by
    intro r s0 h k1
    refine loop_rule (Head := fun s0 => Go X 99 (wM g ad o) [(0, .ref (ad 0)), (2, iv s0.1), (3, iv s0.2)] []) h ?_
    intro s v h kk kx
    obtain ⟨x2, x3⟩ := s
    have h : l_X12_counts_99 o x2 x3 = some v := h
    have k0 : ∀ (x2 : Int) (x3 : Int), v = .inl (x2, x3) → Go X 99 (wM g ad o) [(0, .ref (ad 0)), (2, iv x2), (3, iv x3)] [] := fun x2 x3 e => kk (x2, x3) e
    have k1 : ∀ (x2 : Int), v = .inr (x2) → Go X 130 (wM g ad o) [(2, iv x2)] [] := fun x2 e => k1 x2 (kx _ e).symm
    unfold l_X12_counts_99 at h
    refine g_iload_n E gdX12_counts_99 rfl 2 rfl ?_
    refine g_aload_n E gdX12_counts_100 rfl 0 rfl ?_
    refine g_get (T := TX12) E fw_X12 0 (wM_0 g ad o) rfl 27 (by decide) w_1493 rfl rfl gdX12_counts_101 ?_
    refine g_icmp_ge E 130 gdX12_counts_104 (by decide) h (fun h => ?_) (fun h => ?_)
    ·
      refine g_sub E [1] rfl ?_
      exact k1 x2 (Option.some.inj h).symm
    ·
      refine g_iload_n E gdX12_counts_107 rfl 1 rfl ?_
      refine g_aload_n E gdX12_counts_108 rfl 0 rfl ?_
      refine g_get (T := TX12) E fw_X12 0 (wM_0 g ad o) rfl 28 (by decide) w_1494 rfl rfl gdX12_counts_109 ?_
      refine g_iload_n E gdX12_counts_112 rfl 2 rfl ?_
      obtain ⟨hi5, h⟩ := qIn_of h
      refine g_iald E 21 (wM_21 g ad o) (by decide) hi5 gdX12_counts_113 ?_
      obtain ⟨n6, e_n6, h⟩ := qNm_of h
      refine g_nmi e_n6 ?_
      refine g_if_ge E 121 gdX12_counts_114 (by decide) h (fun h => ?_) (fun h => ?_)
      ·
        refine g_iconst E gdX12_counts_121 ?_
        refine g_sub E [0, 2] rfl ?_
        exact j122 x3 x2 0 v h k0 k1
      ·
        refine g_iconst E gdX12_counts_117 ?_
        refine g_goto E 122 gdX12_counts_118 (by decide) ?_
        refine g_sub E [0, 2] rfl ?_
        exact j122 x3 x2 1 v h k0 k1
  have j99 : ∀ (x2 : Int) (x3 : Int), e_X12_counts_99 o x2 x3 = some v → Go X 99 (wM g ad o) [(0, .ref (ad 0)), (2, iv x2), (3, iv x3)] [] := by
    intro x2 x3 h
    unfold e_X12_counts_99 at h
    obtain ⟨r, hr, h⟩ := qB_of h
    refine l99  r _ hr ?_
    ·
      intro u0 e
      have e := e.symm
      subst e
      have h : b_X12_counts_130 o u0 = some v := h
      exact j130 u0 h
  have j183 : ∀ (x2 : Int), b_X12_counts_183 o x2 = some v → Go X 183 (wM g ad o) [(2, iv x2)] [] := by
    intro x2 h
    unfold b_X12_counts_183 at h
    refine g_iload_n E gdX12_counts_183 rfl 0 rfl ?_
    exact g_iret E hQ (Option.some.inj h) rfl gdX12_counts_184
  have j175 : ∀ (x3 : Int) (y0 : Int) (y1 : Int) (v : (Int × Int) ⊕ ((Int))), b_X12_counts_175 o x3 y0 y1 = some v → (∀ (x2 : Int) (x3 : Int), v = .inl (x2, x3) → Go X 154 (wM g ad o) [(0, .ref (ad 0)), (2, iv x2), (3, iv x3)] []) → (∀ (x2 : Int), v = .inr (x2) → Go X 183 (wM g ad o) [(2, iv x2)] []) → Go X 175 (wM g ad o) [(0, .ref (ad 0)), (3, iv x3)] [iv y1, iv y0] := by
    intro x3 y0 y1 v h k0 k1
    unfold b_X12_counts_175 at h
    refine g_iadd E gdX12_counts_175 ?_
    obtain ⟨n7, e_n7, h⟩ := qNm_of h
    refine g_nmi e_n7 ?_
    refine g_istore_n E [(2, iv n7), (0, .ref (ad 0)), (3, iv x3)] gdX12_counts_176 rfl (by decide) rfl ?_
    refine g_iinc E [(3, iv (x3 + 1)), (2, iv n7), (0, .ref (ad 0))] gdX12_counts_177 2 rfl (by decide) rfl ?_
    refine g_goto E 154 gdX12_counts_180 (by decide) ?_
    refine g_sub E [2, 1, 0] rfl ?_
    exact k0 n7 (x3 + 1) (Option.some.inj h).symm
  have l154 : ∀  (r : (Int)) (s0 : Int × Int), loopW (fun s => l_X12_counts_154 o s.1 s.2) s0 = some r → (∀ (x2 : Int), r = (x2) → Go X 183 (wM g ad o) [(2, iv x2)] []) → Go X 154 (wM g ad o) [(0, .ref (ad 0)), (2, iv s0.1), (3, iv s0.2)] [] := by
    intro r s0 h k1
    refine loop_rule (Head := fun s0 => Go X 154 (wM g ad o) [(0, .ref (ad 0)), (2, iv s0.1), (3, iv s0.2)] []) h ?_
    intro s v h kk kx
    obtain ⟨x2, x3⟩ := s
    have h : l_X12_counts_154 o x2 x3 = some v := h
    have k0 : ∀ (x2 : Int) (x3 : Int), v = .inl (x2, x3) → Go X 154 (wM g ad o) [(0, .ref (ad 0)), (2, iv x2), (3, iv x3)] [] := fun x2 x3 e => kk (x2, x3) e
    have k1 : ∀ (x2 : Int), v = .inr (x2) → Go X 183 (wM g ad o) [(2, iv x2)] [] := fun x2 e => k1 x2 (kx _ e).symm
    unfold l_X12_counts_154 at h
    refine g_iload_n E gdX12_counts_154 rfl 2 rfl ?_
    refine g_bipush E gdX12_counts_155 (by decide) ?_
    refine g_icmp_ge E 183 gdX12_counts_157 (by decide) h (fun h => ?_) (fun h => ?_)
    ·
      refine g_sub E [1] rfl ?_
      exact k1 x2 (Option.some.inj h).symm
    ·
      refine g_iload_n E gdX12_counts_160 rfl 1 rfl ?_
      refine g_aload_n E gdX12_counts_161 rfl 0 rfl ?_
      refine g_get (T := TX12) E fw_X12 0 (wM_0 g ad o) rfl 5 (by decide) w_1471 rfl rfl gdX12_counts_162 ?_
      refine g_iload_n E gdX12_counts_165 rfl 2 rfl ?_
      obtain ⟨hi8, h⟩ := qIn_of h
      refine g_iald E 2 (wM_2 g ad o) (by decide) hi8 gdX12_counts_166 ?_
      obtain ⟨n9, e_n9, h⟩ := qNm_of h
      refine g_nmi e_n9 ?_
      refine g_if_lt E 174 gdX12_counts_167 (by decide) h (fun h => ?_) (fun h => ?_)
      ·
        refine g_iconst E gdX12_counts_174 ?_
        refine g_sub E [0, 2] rfl ?_
        exact j175 x3 x2 0 v h k0 k1
      ·
        refine g_iconst E gdX12_counts_170 ?_
        refine g_goto E 175 gdX12_counts_171 (by decide) ?_
        refine g_sub E [0, 2] rfl ?_
        exact j175 x3 x2 1 v h k0 k1
  have j154 : ∀ (x2 : Int) (x3 : Int), e_X12_counts_154 o x2 x3 = some v → Go X 154 (wM g ad o) [(0, .ref (ad 0)), (2, iv x2), (3, iv x3)] [] := by
    intro x2 x3 h
    unfold e_X12_counts_154 at h
    obtain ⟨r, hr, h⟩ := qB_of h
    refine l154  r _ hr ?_
    ·
      intro u0 e
      have e := e.symm
      subst e
      have h : b_X12_counts_183 o u0 = some v := h
      exact j183 u0 h
  have j215 : ∀ (x2 : Int), b_X12_counts_215 o x2 = some v → Go X 215 (wM g ad o) [(2, iv x2)] [] := by
    intro x2 h
    unfold b_X12_counts_215 at h
    refine g_iload_n E gdX12_counts_215 rfl 0 rfl ?_
    exact g_iret E hQ (Option.some.inj h) rfl gdX12_counts_216
  have j207 : ∀ (x3 : Int) (y0 : Int) (y1 : Int) (v : (Int × Int) ⊕ ((Int))), b_X12_counts_207 o x3 y0 y1 = some v → (∀ (x2 : Int) (x3 : Int), v = .inl (x2, x3) → Go X 187 (wM g ad o) [(0, .ref (ad 0)), (2, iv x2), (3, iv x3)] []) → (∀ (x2 : Int), v = .inr (x2) → Go X 215 (wM g ad o) [(2, iv x2)] []) → Go X 207 (wM g ad o) [(0, .ref (ad 0)), (3, iv x3)] [iv y1, iv y0] := by
    intro x3 y0 y1 v h k0 k1
    unfold b_X12_counts_207 at h
    refine g_iadd E gdX12_counts_207 ?_
    obtain ⟨n10, e_n10, h⟩ := qNm_of h
    refine g_nmi e_n10 ?_
    refine g_istore_n E [(2, iv n10), (0, .ref (ad 0)), (3, iv x3)] gdX12_counts_208 rfl (by decide) rfl ?_
    refine g_iinc E [(3, iv (x3 + 1)), (2, iv n10), (0, .ref (ad 0))] gdX12_counts_209 2 rfl (by decide) rfl ?_
    refine g_goto E 187 gdX12_counts_212 (by decide) ?_
    refine g_sub E [2, 1, 0] rfl ?_
    exact k0 n10 (x3 + 1) (Option.some.inj h).symm
  have l187 : ∀  (r : (Int)) (s0 : Int × Int), loopW (fun s => l_X12_counts_187 o s.1 s.2) s0 = some r → (∀ (x2 : Int), r = (x2) → Go X 215 (wM g ad o) [(2, iv x2)] []) → Go X 187 (wM g ad o) [(0, .ref (ad 0)), (2, iv s0.1), (3, iv s0.2)] [] := by
    intro r s0 h k1
    refine loop_rule (Head := fun s0 => Go X 187 (wM g ad o) [(0, .ref (ad 0)), (2, iv s0.1), (3, iv s0.2)] []) h ?_
    intro s v h kk kx
    obtain ⟨x2, x3⟩ := s
    have h : l_X12_counts_187 o x2 x3 = some v := h
    have k0 : ∀ (x2 : Int) (x3 : Int), v = .inl (x2, x3) → Go X 187 (wM g ad o) [(0, .ref (ad 0)), (2, iv x2), (3, iv x3)] [] := fun x2 x3 e => kk (x2, x3) e
    have k1 : ∀ (x2 : Int), v = .inr (x2) → Go X 215 (wM g ad o) [(2, iv x2)] [] := fun x2 e => k1 x2 (kx _ e).symm
    unfold l_X12_counts_187 at h
    refine g_iload_n E gdX12_counts_187 rfl 2 rfl ?_
    refine g_iconst E gdX12_counts_188 ?_
    refine g_icmp_ge E 215 gdX12_counts_189 (by decide) h (fun h => ?_) (fun h => ?_)
    ·
      refine g_sub E [1] rfl ?_
      exact k1 x2 (Option.some.inj h).symm
    ·
      refine g_iload_n E gdX12_counts_192 rfl 1 rfl ?_
      refine g_aload_n E gdX12_counts_193 rfl 0 rfl ?_
      refine g_get (T := TX12) E fw_X12 0 (wM_0 g ad o) rfl 8 (by decide) w_1474 rfl rfl gdX12_counts_194 ?_
      refine g_iload_n E gdX12_counts_197 rfl 2 rfl ?_
      obtain ⟨hi11, h⟩ := qIn_of h
      refine g_iald E 5 (wM_5 g ad o) (by decide) hi11 gdX12_counts_198 ?_
      obtain ⟨n12, e_n12, h⟩ := qNm_of h
      refine g_nmi e_n12 ?_
      refine g_if_lt E 206 gdX12_counts_199 (by decide) h (fun h => ?_) (fun h => ?_)
      ·
        refine g_iconst E gdX12_counts_206 ?_
        refine g_sub E [0, 2] rfl ?_
        exact j207 x3 x2 0 v h k0 k1
      ·
        refine g_iconst E gdX12_counts_202 ?_
        refine g_goto E 207 gdX12_counts_203 (by decide) ?_
        refine g_sub E [0, 2] rfl ?_
        exact j207 x3 x2 1 v h k0 k1
  have j187 : ∀ (x2 : Int) (x3 : Int), e_X12_counts_187 o x2 x3 = some v → Go X 187 (wM g ad o) [(0, .ref (ad 0)), (2, iv x2), (3, iv x3)] [] := by
    intro x2 x3 h
    unfold e_X12_counts_187 at h
    obtain ⟨r, hr, h⟩ := qB_of h
    refine l187  r _ hr ?_
    ·
      intro u0 e
      have e := e.symm
      subst e
      have h : b_X12_counts_215 o u0 = some v := h
      exact j215 u0 h
  unfold s_X12_counts at h
  refine g_iconst E gdX12_counts_0 ?_
  refine g_istore_n E [(2, iv 0), (0, .ref (ad 0)), (1, iv x1)] gdX12_counts_1 rfl (by decide) rfl ?_
  refine g_iload_n E gdX12_counts_2 rfl 2 rfl ?_
  obtain ⟨h1, -, ⟨hx, h⟩ | ⟨hx0, h⟩⟩ := qEq_of h
  ·
    refine g_tabIn (kx := 0) (off := 49) E 52 gdX12_counts_3 hx (by decide) (by decide) (by decide) (by decide) (by decide) ?_
    refine g_aload_n E gdX12_counts_52 rfl 1 rfl ?_
    refine g_get (T := TX12) E fw_X12 0 (wM_0 g ad o) rfl 4 (by decide) w_1470 rfl rfl gdX12_counts_53 ?_
    exact g_iret E hQ (Option.some.inj h) rfl gdX12_counts_56
  ·
    obtain ⟨h1, -, ⟨hx, h⟩ | ⟨hx1, h⟩⟩ := qEq_of h
    ·
      refine g_tabIn (kx := 1) (off := 54) E 57 gdX12_counts_3 hx (by decide) (by decide) (by decide) (by decide) (by decide) ?_
      refine g_iconst E gdX12_counts_57 ?_
      refine g_istore_n E [(3, iv 0), (2, iv 0), (0, .ref (ad 0)), (1, iv x1)] gdX12_counts_58 rfl (by decide) rfl ?_
      refine g_sub E [2, 1, 0] rfl ?_
      exact j59 0 0 h
    ·
      obtain ⟨h1, -, ⟨hx, h⟩ | ⟨hx2, h⟩⟩ := qEq_of h
      ·
        refine g_tabIn (kx := 2) (off := 89) E 92 gdX12_counts_3 hx (by decide) (by decide) (by decide) (by decide) (by decide) ?_
        refine g_aload_n E gdX12_counts_92 rfl 1 rfl ?_
        refine g_get (T := TX12) E fw_X12 0 (wM_0 g ad o) rfl 27 (by decide) w_1493 rfl rfl gdX12_counts_93 ?_
        exact g_iret E hQ (Option.some.inj h) rfl gdX12_counts_96
      ·
        obtain ⟨h1, -, ⟨hx, h⟩ | ⟨hx3, h⟩⟩ := qEq_of h
        ·
          refine g_tabIn (kx := 3) (off := 94) E 97 gdX12_counts_3 hx (by decide) (by decide) (by decide) (by decide) (by decide) ?_
          refine g_iconst E gdX12_counts_97 ?_
          refine g_istore_n E [(3, iv 0), (2, iv 0), (0, .ref (ad 0)), (1, iv x1)] gdX12_counts_98 rfl (by decide) rfl ?_
          refine g_sub E [2, 1, 0] rfl ?_
          exact j99 0 0 h
        ·
          obtain ⟨h1, -, ⟨hx, h⟩ | ⟨hx4, h⟩⟩ := qEq_of h
          ·
            refine g_tabIn (kx := 4) (off := 129) E 132 gdX12_counts_3 hx (by decide) (by decide) (by decide) (by decide) (by decide) ?_
            refine g_aload_n E gdX12_counts_132 rfl 1 rfl ?_
            refine g_get (T := TX12) E fw_X12 0 (wM_0 g ad o) rfl 10 (by decide) w_1476 rfl rfl gdX12_counts_133 ?_
            exact g_iret E hQ (Option.some.inj h) rfl gdX12_counts_136
          ·
            obtain ⟨h1, -, ⟨hx, h⟩ | ⟨hx5, h⟩⟩ := qEq_of h
            ·
              refine g_tabIn (kx := 5) (off := 134) E 137 gdX12_counts_3 hx (by decide) (by decide) (by decide) (by decide) (by decide) ?_
              refine g_aload_n E gdX12_counts_137 rfl 1 rfl ?_
              refine g_get (T := TX12) E fw_X12 0 (wM_0 g ad o) rfl 32 (by decide) w_1498 rfl rfl gdX12_counts_138 ?_
              exact g_iret E hQ (Option.some.inj h) rfl gdX12_counts_141
            ·
              obtain ⟨h1, -, ⟨hx, h⟩ | ⟨hx6, h⟩⟩ := qEq_of h
              ·
                refine g_tabIn (kx := 6) (off := 139) E 142 gdX12_counts_3 hx (by decide) (by decide) (by decide) (by decide) (by decide) ?_
                refine g_aload_n E gdX12_counts_142 rfl 1 rfl ?_
                refine g_get (T := TX12) E fw_X12 0 (wM_0 g ad o) rfl 48 (by decide) w_1514 rfl rfl gdX12_counts_143 ?_
                exact g_iret E hQ (Option.some.inj h) rfl gdX12_counts_146
              ·
                obtain ⟨h1, -, ⟨hx, h⟩ | ⟨hx7, h⟩⟩ := qEq_of h
                ·
                  refine g_tabIn (kx := 7) (off := 144) E 147 gdX12_counts_3 hx (by decide) (by decide) (by decide) (by decide) (by decide) ?_
                  refine g_aload_n E gdX12_counts_147 rfl 1 rfl ?_
                  refine g_get (T := TX12) E fw_X12 0 (wM_0 g ad o) rfl 23 (by decide) w_1489 rfl rfl gdX12_counts_148 ?_
                  exact g_iret E hQ (Option.some.inj h) rfl gdX12_counts_151
                ·
                  obtain ⟨h1, -, ⟨hx, h⟩ | ⟨hx8, h⟩⟩ := qEq_of h
                  ·
                    refine g_tabIn (kx := 8) (off := 149) E 152 gdX12_counts_3 hx (by decide) (by decide) (by decide) (by decide) (by decide) ?_
                    refine g_iconst E gdX12_counts_152 ?_
                    refine g_istore_n E [(3, iv 0), (2, iv 0), (0, .ref (ad 0)), (1, iv x1)] gdX12_counts_153 rfl (by decide) rfl ?_
                    refine g_sub E [2, 1, 0] rfl ?_
                    exact j154 0 0 h
                  ·
                    refine g_tabOut E 185 gdX12_counts_3 h1 (by omega) (by decide) ?_
                    refine g_iconst E gdX12_counts_185 ?_
                    refine g_istore_n E [(3, iv 0), (2, iv 0), (0, .ref (ad 0)), (1, iv x1)] gdX12_counts_186 rfl (by decide) rfl ?_
                    refine g_sub E [2, 1, 0] rfl ?_
                    exact j187 0 0 h
noncomputable def b_X12_count_19 (o : OO) (y0 : Int) : Option (Int) := some y0
noncomputable def s_X12_count (o : OO) (x1 : Int) : Option (Int) := qB (s_X12_in x1 0 9) (fun r1 => qEq r1 0 (b_X12_count_19 o (-1)) (qB (s_X12_counts o x1) (fun r3 => b_X12_count_19 o r3)))
set_option maxHeartbeats 4000000 in
set_option maxRecDepth 100000 in
theorem c_X12_count (l : Launch) (g : GG) (ad : Nat → Nat) (o : OO) (x1 : Int) (v : Int) (h : s_X12_count o x1 = some v) : CI l g yX12_count cX12_count 2 (some .int) 1 23 (wM g ad o) [.ref (ad 0), iv x1] v (wM g ad o) := by
  refine met_I (by decide) (Nat.le_of_ble_eq_true rfl) ?_
  intro X E hQ
  show Go X 0 (wM g ad o) [(0, .ref (ad 0)), (1, iv x1)] []
  have j19 : ∀ (y0 : Int), b_X12_count_19 o y0 = some v → Go X 19 (wM g ad o) [] [iv y0] := by
    intro y0 h
    unfold b_X12_count_19 at h
    exact g_iret E hQ (Option.some.inj h) rfl gdX12_count_19
  unfold s_X12_count at h
  refine g_iload_n E gdX12_count_0 rfl 1 rfl ?_
  refine g_iconst E gdX12_count_1 ?_
  refine g_bipush E gdX12_count_2 (by decide) ?_
  obtain ⟨r1, hc2, h⟩ := qB_of h
  refine g_Si (r := r1) (As := [iv x1, iv 0, iv 9]) (rest := []) (w := wM g ad o) E (c_X12_in l g (wM g ad o) x1 0 9 r1 hc2) okm_X12_in w_1706 w_1705 rfl rfl (Nat.le_of_ble_eq_true rfl) ⟨Nat.le_of_ble_eq_true rfl, Nat.le_of_ble_eq_true rfl⟩ gdX12_count_4 ?_
  refine g_if_eq E 18 gdX12_count_7 (by decide) h (fun h => ?_) (fun h => ?_)
  ·
    refine g_iconst E gdX12_count_18 ?_
    refine g_sub E [] rfl ?_
    exact j19 (-1) h
  ·
    refine g_aload_n E gdX12_count_10 rfl 0 rfl ?_
    refine g_iload_n E gdX12_count_11 rfl 1 rfl ?_
    obtain ⟨r3, hc4, h⟩ := qB_of h
    refine g_Vi (r := r3) (As := [iv x1]) (rest := []) (w := wM g ad o) E (c_X12_counts l g ad o x1 r3 hc4) okm_X12_counts okw_X12_counts w_2134 rfl (wM_0 g ad o) rfl rfl (Nat.le_of_ble_eq_true rfl) ⟨Nat.le_of_ble_eq_true rfl, Nat.le_of_ble_eq_true rfl⟩ gdX12_count_12 ?_
    refine g_goto E 19 gdX12_count_15 (by decide) ?_
    refine g_sub E [] rfl ?_
    exact j19 r3 h
noncomputable def s_X12_mix (o : OO) (x1 : Int) : Option (OO) := qNm (st2 o 0 76 (((31 : Int64) * (o.2 0 76)) + (jl x1))) (fun o1 => some o1)
set_option maxHeartbeats 4000000 in
set_option maxRecDepth 100000 in
theorem c_X12_mix (l : Launch) (g : GG) (ad : Nat → Nat) (o : OO) (x1 : Int) (v : OO) (h : s_X12_mix o x1 = some v) : CV l g yX12_mix cX12_mix 2 0 0 (wM g ad o) [.ref (ad 0), iv x1] (wM g ad v) := by
  refine met_V (by decide) (Nat.le_of_ble_eq_true rfl) ?_
  intro X E hQ
  show Go X 0 (wM g ad o) [(0, .ref (ad 0)), (1, iv x1)] []
  unfold s_X12_mix at h
  refine g_aload_n E gdX12_mix_0 rfl 0 rfl ?_
  refine g_ldc2 E gdX12_mix_1 w_2155 ?_
  refine g_aload_n E gdX12_mix_4 rfl 0 rfl ?_
  refine g_get (T := TX12) E fw_X12 0 (wM_0 g ad o) rfl 76 (by decide) w_1542 rfl rfl gdX12_mix_5 ?_
  refine g_lmul E gdX12_mix_8 ?_
  refine g_iload_n E gdX12_mix_9 rfl 1 rfl ?_
  refine g_i2l E gdX12_mix_10 ?_
  refine g_ladd E gdX12_mix_11 ?_
  obtain ⟨o1, e_o1, h⟩ := qNm_of h
  refine g_putl (T := TX12) (ws' := wM g ad o1) E fw_X12 tyX12 tyX12_ok nmX12 0 (wM_0 g ad o) rfl 76 (by decide) w_1542 rfl rfl (by decide +kernel) (Nat.le_of_ble_eq_true rfl) (by rw [e_o1]; exact wM_p0_76 g ad o _) gdX12_mix_12 ?_
  exact g_vret E hQ (by rw [← Option.some.inj h]) gdX12_mix_15
noncomputable def b_X12_houseTells_77 (o : OO) (y0 : Int) : Option (Int) := some y0
noncomputable def s_X12_houseTells (o : OO) (x1 : Int) (x2 : Int) : Option (Int) := qEq x2 0 (qIn x1 32 (qNm (o.1 13 x1.toNat) (fun n2 => some n2))) (qEq x2 1 (qIn x1 32 (qNm (o.1 14 x1.toNat) (fun n4 => some n4))) (qEq x2 2 (qIn x1 32 (qNm (o.1 15 x1.toNat) (fun n6 => some n6))) (qEq x2 3 (qB (s_X12_living o x1) (fun r7 => some r7)) (qEq x2 4 (qIn x1 32 (qNm (o.1 16 x1.toNat) (fun n10 => qEq n10 0 (b_X12_houseTells_77 o 0) (b_X12_houseTells_77 o 1)))) (qIn x1 32 (qNm (o.1 17 x1.toNat) (fun n12 => some n12)))))))
set_option maxHeartbeats 4000000 in
set_option maxRecDepth 100000 in
theorem c_X12_houseTells (l : Launch) (g : GG) (ad : Nat → Nat) (o : OO) (x1 : Int) (x2 : Int) (v : Int) (h : s_X12_houseTells o x1 x2 = some v) : CI l g yX12_houseTells cX12_houseTells 3 (some .int) 1 23 (wM g ad o) [.ref (ad 0), iv x1, iv x2] v (wM g ad o) := by
  refine met_I (by decide) (Nat.le_of_ble_eq_true rfl) ?_
  intro X E hQ
  show Go X 0 (wM g ad o) [(0, .ref (ad 0)), (1, iv x1), (2, iv x2)] []
  have j77 : ∀ (y0 : Int), b_X12_houseTells_77 o y0 = some v → Go X 77 (wM g ad o) [] [iv y0] := by
    intro y0 h
    unfold b_X12_houseTells_77 at h
    exact g_iret E hQ (Option.some.inj h) rfl gdX12_houseTells_77
  unfold s_X12_houseTells at h
  refine g_iload_n E gdX12_houseTells_0 rfl 2 rfl ?_
  obtain ⟨h1, -, ⟨hx, h⟩ | ⟨hx0, h⟩⟩ := qEq_of h
  ·
    refine g_tabIn (kx := 0) (off := 35) E 36 gdX12_houseTells_1 hx (by decide) (by decide) (by decide) (by decide) (by decide) ?_
    refine g_aload_n E gdX12_houseTells_36 rfl 0 rfl ?_
    refine g_get (T := TX12) E fw_X12 0 (wM_0 g ad o) rfl 18 (by decide) w_1484 rfl rfl gdX12_houseTells_37 ?_
    refine g_iload_n E gdX12_houseTells_40 rfl 1 rfl ?_
    obtain ⟨hi1, h⟩ := qIn_of h
    refine g_iald E 13 (wM_13 g ad o) (by decide) hi1 gdX12_houseTells_41 ?_
    obtain ⟨n2, e_n2, h⟩ := qNm_of h
    refine g_nmi e_n2 ?_
    exact g_iret E hQ (Option.some.inj h) rfl gdX12_houseTells_42
  ·
    obtain ⟨h1, -, ⟨hx, h⟩ | ⟨hx1, h⟩⟩ := qEq_of h
    ·
      refine g_tabIn (kx := 1) (off := 42) E 43 gdX12_houseTells_1 hx (by decide) (by decide) (by decide) (by decide) (by decide) ?_
      refine g_aload_n E gdX12_houseTells_43 rfl 0 rfl ?_
      refine g_get (T := TX12) E fw_X12 0 (wM_0 g ad o) rfl 19 (by decide) w_1485 rfl rfl gdX12_houseTells_44 ?_
      refine g_iload_n E gdX12_houseTells_47 rfl 1 rfl ?_
      obtain ⟨hi3, h⟩ := qIn_of h
      refine g_iald E 14 (wM_14 g ad o) (by decide) hi3 gdX12_houseTells_48 ?_
      obtain ⟨n4, e_n4, h⟩ := qNm_of h
      refine g_nmi e_n4 ?_
      exact g_iret E hQ (Option.some.inj h) rfl gdX12_houseTells_49
    ·
      obtain ⟨h1, -, ⟨hx, h⟩ | ⟨hx2, h⟩⟩ := qEq_of h
      ·
        refine g_tabIn (kx := 2) (off := 49) E 50 gdX12_houseTells_1 hx (by decide) (by decide) (by decide) (by decide) (by decide) ?_
        refine g_aload_n E gdX12_houseTells_50 rfl 0 rfl ?_
        refine g_get (T := TX12) E fw_X12 0 (wM_0 g ad o) rfl 20 (by decide) w_1486 rfl rfl gdX12_houseTells_51 ?_
        refine g_iload_n E gdX12_houseTells_54 rfl 1 rfl ?_
        obtain ⟨hi5, h⟩ := qIn_of h
        refine g_iald E 15 (wM_15 g ad o) (by decide) hi5 gdX12_houseTells_55 ?_
        obtain ⟨n6, e_n6, h⟩ := qNm_of h
        refine g_nmi e_n6 ?_
        exact g_iret E hQ (Option.some.inj h) rfl gdX12_houseTells_56
      ·
        obtain ⟨h1, -, ⟨hx, h⟩ | ⟨hx3, h⟩⟩ := qEq_of h
        ·
          refine g_tabIn (kx := 3) (off := 56) E 57 gdX12_houseTells_1 hx (by decide) (by decide) (by decide) (by decide) (by decide) ?_
          refine g_aload_n E gdX12_houseTells_57 rfl 0 rfl ?_
          refine g_iload_n E gdX12_houseTells_58 rfl 1 rfl ?_
          obtain ⟨r7, hc8, h⟩ := qB_of h
          refine g_Vi (r := r7) (As := [iv x1]) (rest := []) (w := wM g ad o) E (c_X12_living l g ad o x1 r7 hc8) okm_X12_living okw_X12_living w_1831 rfl (wM_0 g ad o) rfl rfl (Nat.le_of_ble_eq_true rfl) ⟨Nat.le_of_ble_eq_true rfl, Nat.le_of_ble_eq_true rfl⟩ gdX12_houseTells_59 ?_
          exact g_iret E hQ (Option.some.inj h) rfl gdX12_houseTells_62
        ·
          obtain ⟨h1, -, ⟨hx, h⟩ | ⟨hx4, h⟩⟩ := qEq_of h
          ·
            refine g_tabIn (kx := 4) (off := 62) E 63 gdX12_houseTells_1 hx (by decide) (by decide) (by decide) (by decide) (by decide) ?_
            refine g_aload_n E gdX12_houseTells_63 rfl 0 rfl ?_
            refine g_get (T := TX12) E fw_X12 0 (wM_0 g ad o) rfl 21 (by decide) w_1487 rfl rfl gdX12_houseTells_64 ?_
            refine g_iload_n E gdX12_houseTells_67 rfl 1 rfl ?_
            obtain ⟨hi9, h⟩ := qIn_of h
            refine g_zald E 16 (wM_16 g ad o) (by decide) hi9 gdX12_houseTells_68 ?_
            obtain ⟨n10, e_n10, h⟩ := qNm_of h
            refine g_nmi e_n10 ?_
            refine g_if_eq E 76 gdX12_houseTells_69 (by decide) h (fun h => ?_) (fun h => ?_)
            ·
              refine g_iconst E gdX12_houseTells_76 ?_
              refine g_sub E [] rfl ?_
              exact j77 0 h
            ·
              refine g_iconst E gdX12_houseTells_72 ?_
              refine g_goto E 77 gdX12_houseTells_73 (by decide) ?_
              refine g_sub E [] rfl ?_
              exact j77 1 h
          ·
            refine g_tabOut E 78 gdX12_houseTells_1 h1 (by omega) (by decide) ?_
            refine g_aload_n E gdX12_houseTells_78 rfl 0 rfl ?_
            refine g_get (T := TX12) E fw_X12 0 (wM_0 g ad o) rfl 22 (by decide) w_1488 rfl rfl gdX12_houseTells_79 ?_
            refine g_iload_n E gdX12_houseTells_82 rfl 1 rfl ?_
            obtain ⟨hi11, h⟩ := qIn_of h
            refine g_iald E 17 (wM_17 g ad o) (by decide) hi11 gdX12_houseTells_83 ?_
            obtain ⟨n12, e_n12, h⟩ := qNm_of h
            refine g_nmi e_n12 ?_
            exact g_iret E hQ (Option.some.inj h) rfl gdX12_houseTells_84
noncomputable def b_X12_valueOf_55 (o : OO) (x3 : Int) : Option (Int) := some x3
noncomputable def b_X12_valueOf_48 (o : OO) (x1 : Int) (x2 : Int) (x4 : Int) (y0 : Int) : Option ((Int × Int) ⊕ ((Int))) := some (.inl (y0, x4 + 1))
noncomputable def b_X12_valueOf_47 (o : OO) (x1 : Int) (x2 : Int) (x3 : Int) (x4 : Int) : Option ((Int × Int) ⊕ ((Int))) := b_X12_valueOf_48 o x1 x2 x4 x3
noncomputable def l_X12_valueOf_6 (o : OO) (x1 : Int) (x2 : Int) (x3 : Int) (x4 : Int) : Option ((Int × Int) ⊕ ((Int))) := qLt x4 (o.1 0 23) (qIn x4 100 (qNm (o.1 18 x4.toNat) (fun n2 => qEq n2 x1 (qIn x4 100 (qNm (o.1 19 x4.toNat) (fun n4 => qLt x2 n4 (b_X12_valueOf_47 o x1 x2 x3 x4) (qIn x4 100 (qNm (o.1 20 x4.toNat) (fun n6 => b_X12_valueOf_48 o x1 x2 x4 n6)))))) (b_X12_valueOf_47 o x1 x2 x3 x4)))) (some (.inr (x3)))
noncomputable def e_X12_valueOf_6 (o : OO) (x1 : Int) (x2 : Int) (x3 : Int) (x4 : Int) : Option (Int) := qB (loopW (fun s => l_X12_valueOf_6 o x1 x2 s.1 s.2) (x3, x4)) (fun r => b_X12_valueOf_55 o r)
noncomputable def s_X12_valueOf (o : OO) (x1 : Int) (x2 : Int) : Option (Int) := e_X12_valueOf_6 o x1 x2 (-9) 0
set_option maxHeartbeats 4000000 in
set_option maxRecDepth 100000 in
theorem c_X12_valueOf (l : Launch) (g : GG) (ad : Nat → Nat) (o : OO) (x1 : Int) (x2 : Int) (v : Int) (h : s_X12_valueOf o x1 x2 = some v) : CI l g yX12_valueOf cX12_valueOf 5 (some .int) 0 0 (wM g ad o) [.ref (ad 0), iv x1, iv x2] v (wM g ad o) := by
  refine met_I (by decide) (Nat.le_of_ble_eq_true rfl) ?_
  intro X E hQ
  show Go X 0 (wM g ad o) [(0, .ref (ad 0)), (1, iv x1), (2, iv x2)] []
  have j55 : ∀ (x3 : Int), b_X12_valueOf_55 o x3 = some v → Go X 55 (wM g ad o) [(3, iv x3)] [] := by
    intro x3 h
    unfold b_X12_valueOf_55 at h
    refine g_iload_n E gdX12_valueOf_55 rfl 0 rfl ?_
    exact g_iret E hQ (Option.some.inj h) rfl gdX12_valueOf_56
  have j48 : ∀ (x1 : Int) (x2 : Int) (x4 : Int) (y0 : Int) (v : (Int × Int) ⊕ ((Int))), b_X12_valueOf_48 o x1 x2 x4 y0 = some v → (∀ (x3 : Int) (x4 : Int), v = .inl (x3, x4) → Go X 6 (wM g ad o) [(0, .ref (ad 0)), (1, iv x1), (2, iv x2), (3, iv x3), (4, iv x4)] []) → (∀ (x3 : Int), v = .inr (x3) → Go X 55 (wM g ad o) [(3, iv x3)] []) → Go X 48 (wM g ad o) [(0, .ref (ad 0)), (1, iv x1), (2, iv x2), (4, iv x4)] [iv y0] := by
    intro x1 x2 x4 y0 v h k0 k1
    unfold b_X12_valueOf_48 at h
    refine g_istore_n E [(3, iv y0), (0, .ref (ad 0)), (1, iv x1), (2, iv x2), (4, iv x4)] gdX12_valueOf_48 rfl (by decide) rfl ?_
    refine g_iinc E [(4, iv (x4 + 1)), (3, iv y0), (0, .ref (ad 0)), (1, iv x1), (2, iv x2)] gdX12_valueOf_49 4 rfl (by decide) rfl ?_
    refine g_goto E 6 gdX12_valueOf_52 (by decide) ?_
    refine g_sub E [2, 3, 4, 1, 0] rfl ?_
    exact k0 y0 (x4 + 1) (Option.some.inj h).symm
  have j47 : ∀ (x1 : Int) (x2 : Int) (x3 : Int) (x4 : Int) (v : (Int × Int) ⊕ ((Int))), b_X12_valueOf_47 o x1 x2 x3 x4 = some v → (∀ (x3 : Int) (x4 : Int), v = .inl (x3, x4) → Go X 6 (wM g ad o) [(0, .ref (ad 0)), (1, iv x1), (2, iv x2), (3, iv x3), (4, iv x4)] []) → (∀ (x3 : Int), v = .inr (x3) → Go X 55 (wM g ad o) [(3, iv x3)] []) → Go X 47 (wM g ad o) [(0, .ref (ad 0)), (1, iv x1), (2, iv x2), (3, iv x3), (4, iv x4)] [] := by
    intro x1 x2 x3 x4 v h k0 k1
    unfold b_X12_valueOf_47 at h
    refine g_iload_n E gdX12_valueOf_47 rfl 3 rfl ?_
    refine g_sub E [0, 1, 2, 4] rfl ?_
    exact j48 x1 x2 x4 x3 v h k0 k1
  have l6 : ∀ (x1 : Int) (x2 : Int) (r : (Int)) (s0 : Int × Int), loopW (fun s => l_X12_valueOf_6 o x1 x2 s.1 s.2) s0 = some r → (∀ (x3 : Int), r = (x3) → Go X 55 (wM g ad o) [(3, iv x3)] []) → Go X 6 (wM g ad o) [(0, .ref (ad 0)), (1, iv x1), (2, iv x2), (3, iv s0.1), (4, iv s0.2)] [] := by
    intro x1 x2 r s0 h k1
    refine loop_rule (Head := fun s0 => Go X 6 (wM g ad o) [(0, .ref (ad 0)), (1, iv x1), (2, iv x2), (3, iv s0.1), (4, iv s0.2)] []) h ?_
    intro s v h kk kx
    obtain ⟨x3, x4⟩ := s
    have h : l_X12_valueOf_6 o x1 x2 x3 x4 = some v := h
    have k0 : ∀ (x3 : Int) (x4 : Int), v = .inl (x3, x4) → Go X 6 (wM g ad o) [(0, .ref (ad 0)), (1, iv x1), (2, iv x2), (3, iv x3), (4, iv x4)] [] := fun x3 x4 e => kk (x3, x4) e
    have k1 : ∀ (x3 : Int), v = .inr (x3) → Go X 55 (wM g ad o) [(3, iv x3)] [] := fun x3 e => k1 x3 (kx _ e).symm
    unfold l_X12_valueOf_6 at h
    refine g_iload E gdX12_valueOf_6 4 rfl ?_
    refine g_aload_n E gdX12_valueOf_8 rfl 0 rfl ?_
    refine g_get (T := TX12) E fw_X12 0 (wM_0 g ad o) rfl 23 (by decide) w_1489 rfl rfl gdX12_valueOf_9 ?_
    refine g_icmp_ge E 55 gdX12_valueOf_12 (by decide) h (fun h => ?_) (fun h => ?_)
    ·
      refine g_sub E [3] rfl ?_
      exact k1 x3 (Option.some.inj h).symm
    ·
      refine g_aload_n E gdX12_valueOf_15 rfl 0 rfl ?_
      refine g_get (T := TX12) E fw_X12 0 (wM_0 g ad o) rfl 24 (by decide) w_1490 rfl rfl gdX12_valueOf_16 ?_
      refine g_iload E gdX12_valueOf_19 4 rfl ?_
      obtain ⟨hi1, h⟩ := qIn_of h
      refine g_iald E 18 (wM_18 g ad o) (by decide) hi1 gdX12_valueOf_21 ?_
      obtain ⟨n2, e_n2, h⟩ := qNm_of h
      refine g_nmi e_n2 ?_
      refine g_iload_n E gdX12_valueOf_22 rfl 1 rfl ?_
      refine g_icmp_ne E 47 gdX12_valueOf_23 (by decide) h (fun h => ?_) (fun h => ?_)
      ·
        exact j47 x1 x2 x3 x4 v h k0 k1
      ·
        refine g_aload_n E gdX12_valueOf_26 rfl 0 rfl ?_
        refine g_get (T := TX12) E fw_X12 0 (wM_0 g ad o) rfl 25 (by decide) w_1491 rfl rfl gdX12_valueOf_27 ?_
        refine g_iload E gdX12_valueOf_30 4 rfl ?_
        obtain ⟨hi3, h⟩ := qIn_of h
        refine g_iald E 19 (wM_19 g ad o) (by decide) hi3 gdX12_valueOf_32 ?_
        obtain ⟨n4, e_n4, h⟩ := qNm_of h
        refine g_nmi e_n4 ?_
        refine g_iload_n E gdX12_valueOf_33 rfl 2 rfl ?_
        refine g_icmp_gt E 47 gdX12_valueOf_34 (by decide) h (fun h => ?_) (fun h => ?_)
        ·
          exact j47 x1 x2 x3 x4 v h k0 k1
        ·
          refine g_aload_n E gdX12_valueOf_37 rfl 0 rfl ?_
          refine g_get (T := TX12) E fw_X12 0 (wM_0 g ad o) rfl 26 (by decide) w_1492 rfl rfl gdX12_valueOf_38 ?_
          refine g_iload E gdX12_valueOf_41 4 rfl ?_
          obtain ⟨hi5, h⟩ := qIn_of h
          refine g_iald E 20 (wM_20 g ad o) (by decide) hi5 gdX12_valueOf_43 ?_
          obtain ⟨n6, e_n6, h⟩ := qNm_of h
          refine g_nmi e_n6 ?_
          refine g_goto E 48 gdX12_valueOf_44 (by decide) ?_
          refine g_sub E [0, 1, 2, 4] rfl ?_
          exact j48 x1 x2 x4 n6 v h k0 k1
  have j6 : ∀ (x1 : Int) (x2 : Int) (x3 : Int) (x4 : Int), e_X12_valueOf_6 o x1 x2 x3 x4 = some v → Go X 6 (wM g ad o) [(0, .ref (ad 0)), (1, iv x1), (2, iv x2), (3, iv x3), (4, iv x4)] [] := by
    intro x1 x2 x3 x4 h
    unfold e_X12_valueOf_6 at h
    obtain ⟨r, hr, h⟩ := qB_of h
    refine l6 x1 x2 r _ hr ?_
    ·
      intro u0 e
      have e := e.symm
      subst e
      have h : b_X12_valueOf_55 o u0 = some v := h
      exact j55 u0 h
  unfold s_X12_valueOf at h
  refine g_bipush E gdX12_valueOf_0 (by decide) ?_
  refine g_istore_n E [(3, iv (-9)), (0, .ref (ad 0)), (1, iv x1), (2, iv x2)] gdX12_valueOf_2 rfl (by decide) rfl ?_
  refine g_iconst E gdX12_valueOf_3 ?_
  refine g_istore E [(4, iv 0), (3, iv (-9)), (0, .ref (ad 0)), (1, iv x1), (2, iv x2)] gdX12_valueOf_4 (by decide) rfl ?_
  refine g_sub E [2, 3, 4, 1, 0] rfl ?_
  exact j6 x1 x2 (-9) 0 h
noncomputable def b_X12_personTells_55 (o : OO) (y0 : Int) : Option (Int) := some y0
noncomputable def s_X12_personTells (o : OO) (x1 : Int) (x2 : Int) : Option (Int) := qEq x2 0 (qIn x1 40 (qNm (o.1 21 x1.toNat) (fun n8 => b_X12_personTells_55 o n8))) (qEq x2 1 (qIn x1 40 (qNm (o.1 22 x1.toNat) (fun n6 => b_X12_personTells_55 o n6))) (qEq x2 2 (qIn x1 40 (qNm (o.1 23 x1.toNat) (fun n4 => qEq n4 0 (b_X12_personTells_55 o 0) (b_X12_personTells_55 o 1)))) (qIn x1 40 (qNm (o.1 24 x1.toNat) (fun n2 => b_X12_personTells_55 o n2)))))
set_option maxHeartbeats 4000000 in
set_option maxRecDepth 100000 in
theorem c_X12_personTells (l : Launch) (g : GG) (ad : Nat → Nat) (o : OO) (x1 : Int) (x2 : Int) (v : Int) (h : s_X12_personTells o x1 x2 = some v) : CI l g yX12_personTells cX12_personTells 3 (some .int) 0 0 (wM g ad o) [.ref (ad 0), iv x1, iv x2] v (wM g ad o) := by
  refine met_I (by decide) (Nat.le_of_ble_eq_true rfl) ?_
  intro X E hQ
  show Go X 0 (wM g ad o) [(0, .ref (ad 0)), (1, iv x1), (2, iv x2)] []
  have j55 : ∀ (y0 : Int), b_X12_personTells_55 o y0 = some v → Go X 55 (wM g ad o) [] [iv y0] := by
    intro y0 h
    unfold b_X12_personTells_55 at h
    exact g_iret E hQ (Option.some.inj h) rfl gdX12_personTells_55
  unfold s_X12_personTells at h
  refine g_iload_n E gdX12_personTells_0 rfl 2 rfl ?_
  refine g_if_ne E 13 gdX12_personTells_1 (by decide) h (fun h => ?_) (fun h => ?_)
  ·
    refine g_iload_n E gdX12_personTells_13 rfl 2 rfl ?_
    refine g_iconst E gdX12_personTells_14 ?_
    refine g_icmp_ne E 27 gdX12_personTells_15 (by decide) h (fun h => ?_) (fun h => ?_)
    ·
      refine g_iload_n E gdX12_personTells_27 rfl 2 rfl ?_
      refine g_iconst E gdX12_personTells_28 ?_
      refine g_icmp_ne E 49 gdX12_personTells_29 (by decide) h (fun h => ?_) (fun h => ?_)
      ·
        refine g_aload_n E gdX12_personTells_49 rfl 0 rfl ?_
        refine g_get (T := TX12) E fw_X12 0 (wM_0 g ad o) rfl 31 (by decide) w_1497 rfl rfl gdX12_personTells_50 ?_
        refine g_iload_n E gdX12_personTells_53 rfl 1 rfl ?_
        obtain ⟨hi1, h⟩ := qIn_of h
        refine g_iald E 24 (wM_24 g ad o) (by decide) hi1 gdX12_personTells_54 ?_
        obtain ⟨n2, e_n2, h⟩ := qNm_of h
        refine g_nmi e_n2 ?_
        refine g_sub E [] rfl ?_
        exact j55 n2 h
      ·
        refine g_aload_n E gdX12_personTells_32 rfl 0 rfl ?_
        refine g_get (T := TX12) E fw_X12 0 (wM_0 g ad o) rfl 30 (by decide) w_1496 rfl rfl gdX12_personTells_33 ?_
        refine g_iload_n E gdX12_personTells_36 rfl 1 rfl ?_
        obtain ⟨hi3, h⟩ := qIn_of h
        refine g_zald E 23 (wM_23 g ad o) (by decide) hi3 gdX12_personTells_37 ?_
        obtain ⟨n4, e_n4, h⟩ := qNm_of h
        refine g_nmi e_n4 ?_
        refine g_if_eq E 45 gdX12_personTells_38 (by decide) h (fun h => ?_) (fun h => ?_)
        ·
          refine g_iconst E gdX12_personTells_45 ?_
          refine g_goto E 55 gdX12_personTells_46 (by decide) ?_
          refine g_sub E [] rfl ?_
          exact j55 0 h
        ·
          refine g_iconst E gdX12_personTells_41 ?_
          refine g_goto E 55 gdX12_personTells_42 (by decide) ?_
          refine g_sub E [] rfl ?_
          exact j55 1 h
    ·
      refine g_aload_n E gdX12_personTells_18 rfl 0 rfl ?_
      refine g_get (T := TX12) E fw_X12 0 (wM_0 g ad o) rfl 29 (by decide) w_1495 rfl rfl gdX12_personTells_19 ?_
      refine g_iload_n E gdX12_personTells_22 rfl 1 rfl ?_
      obtain ⟨hi5, h⟩ := qIn_of h
      refine g_iald E 22 (wM_22 g ad o) (by decide) hi5 gdX12_personTells_23 ?_
      obtain ⟨n6, e_n6, h⟩ := qNm_of h
      refine g_nmi e_n6 ?_
      refine g_goto E 55 gdX12_personTells_24 (by decide) ?_
      refine g_sub E [] rfl ?_
      exact j55 n6 h
  ·
    refine g_aload_n E gdX12_personTells_4 rfl 0 rfl ?_
    refine g_get (T := TX12) E fw_X12 0 (wM_0 g ad o) rfl 28 (by decide) w_1494 rfl rfl gdX12_personTells_5 ?_
    refine g_iload_n E gdX12_personTells_8 rfl 1 rfl ?_
    obtain ⟨hi7, h⟩ := qIn_of h
    refine g_iald E 21 (wM_21 g ad o) (by decide) hi7 gdX12_personTells_9 ?_
    obtain ⟨n8, e_n8, h⟩ := qNm_of h
    refine g_nmi e_n8 ?_
    refine g_goto E 55 gdX12_personTells_10 (by decide) ?_
    refine g_sub E [] rfl ?_
    exact j55 n8 h
noncomputable def b_X12_markTells_33 (o : OO) (y0 : Int) : Option (Int) := some y0
noncomputable def s_X12_markTells (o : OO) (x1 : Int) (x2 : Int) : Option (Int) := qEq x2 0 (qIn x1 24 (qNm (o.1 25 x1.toNat) (fun n6 => b_X12_markTells_33 o n6))) (qEq x2 1 (qIn x1 24 (qNm (o.1 26 x1.toNat) (fun n4 => b_X12_markTells_33 o n4))) (qIn x1 24 (qNm (o.1 27 x1.toNat) (fun n2 => b_X12_markTells_33 o n2))))
set_option maxHeartbeats 4000000 in
set_option maxRecDepth 100000 in
theorem c_X12_markTells (l : Launch) (g : GG) (ad : Nat → Nat) (o : OO) (x1 : Int) (x2 : Int) (v : Int) (h : s_X12_markTells o x1 x2 = some v) : CI l g yX12_markTells cX12_markTells 3 (some .int) 0 0 (wM g ad o) [.ref (ad 0), iv x1, iv x2] v (wM g ad o) := by
  refine met_I (by decide) (Nat.le_of_ble_eq_true rfl) ?_
  intro X E hQ
  show Go X 0 (wM g ad o) [(0, .ref (ad 0)), (1, iv x1), (2, iv x2)] []
  have j33 : ∀ (y0 : Int), b_X12_markTells_33 o y0 = some v → Go X 33 (wM g ad o) [] [iv y0] := by
    intro y0 h
    unfold b_X12_markTells_33 at h
    exact g_iret E hQ (Option.some.inj h) rfl gdX12_markTells_33
  unfold s_X12_markTells at h
  refine g_iload_n E gdX12_markTells_0 rfl 2 rfl ?_
  refine g_if_ne E 13 gdX12_markTells_1 (by decide) h (fun h => ?_) (fun h => ?_)
  ·
    refine g_iload_n E gdX12_markTells_13 rfl 2 rfl ?_
    refine g_iconst E gdX12_markTells_14 ?_
    refine g_icmp_ne E 27 gdX12_markTells_15 (by decide) h (fun h => ?_) (fun h => ?_)
    ·
      refine g_aload_n E gdX12_markTells_27 rfl 0 rfl ?_
      refine g_get (T := TX12) E fw_X12 0 (wM_0 g ad o) rfl 35 (by decide) w_1501 rfl rfl gdX12_markTells_28 ?_
      refine g_iload_n E gdX12_markTells_31 rfl 1 rfl ?_
      obtain ⟨hi1, h⟩ := qIn_of h
      refine g_iald E 27 (wM_27 g ad o) (by decide) hi1 gdX12_markTells_32 ?_
      obtain ⟨n2, e_n2, h⟩ := qNm_of h
      refine g_nmi e_n2 ?_
      refine g_sub E [] rfl ?_
      exact j33 n2 h
    ·
      refine g_aload_n E gdX12_markTells_18 rfl 0 rfl ?_
      refine g_get (T := TX12) E fw_X12 0 (wM_0 g ad o) rfl 34 (by decide) w_1500 rfl rfl gdX12_markTells_19 ?_
      refine g_iload_n E gdX12_markTells_22 rfl 1 rfl ?_
      obtain ⟨hi3, h⟩ := qIn_of h
      refine g_iald E 26 (wM_26 g ad o) (by decide) hi3 gdX12_markTells_23 ?_
      obtain ⟨n4, e_n4, h⟩ := qNm_of h
      refine g_nmi e_n4 ?_
      refine g_goto E 33 gdX12_markTells_24 (by decide) ?_
      refine g_sub E [] rfl ?_
      exact j33 n4 h
  ·
    refine g_aload_n E gdX12_markTells_4 rfl 0 rfl ?_
    refine g_get (T := TX12) E fw_X12 0 (wM_0 g ad o) rfl 33 (by decide) w_1499 rfl rfl gdX12_markTells_5 ?_
    refine g_iload_n E gdX12_markTells_8 rfl 1 rfl ?_
    obtain ⟨hi5, h⟩ := qIn_of h
    refine g_iald E 25 (wM_25 g ad o) (by decide) hi5 gdX12_markTells_9 ?_
    obtain ⟨n6, e_n6, h⟩ := qNm_of h
    refine g_nmi e_n6 ?_
    refine g_goto E 33 gdX12_markTells_10 (by decide) ?_
    refine g_sub E [] rfl ?_
    exact j33 n6 h
noncomputable def b_X12_mixMark_84 (o : OO) : Option (OO) := some o
noncomputable def l_X12_mixMark_53 (x1 : Int) (o : OO) (x2 : Int) : Option ((OO × Int) ⊕ ((OO))) := qIn x1 24 (qNm (o.1 30 x1.toNat) (fun n2 => qLt x2 n2 (qIn ((64 * x1) + x2) 1536 (qNm (o.1 31 ((64 * x1) + x2).toNat) (fun n4 => qB (s_X12_mix o n4) (fun o7 => some (.inl (o7, x2 + 1)))))) (some (.inr (o)))))
noncomputable def e_X12_mixMark_53 (o : OO) (x1 : Int) (x2 : Int) : Option (OO) := qB (loopW (fun s => l_X12_mixMark_53 x1 s.1 s.2) (o, x2)) (fun r => b_X12_mixMark_84 r)
noncomputable def b_X12_mixMark_23 (o : OO) (x1 : Int) : Option (OO) := qB (s_X12_isLine o x1) (fun r8 => qEq r8 0 (b_X12_mixMark_84 o) (qIn x1 24 (qNm (o.1 28 x1.toNat) (fun n11 => qB (s_X12_mix o n11) (fun o14 => qIn x1 24 (qNm (o14.1 29 x1.toNat) (fun n16 => qB (s_X12_mix o14 n16) (fun o19 => e_X12_mixMark_53 o19 x1 0))))))))
noncomputable def l_X12_mixMark_2 (x1 : Int) (o : OO) (x2 : Int) : Option ((OO × Int) ⊕ ((OO))) := qLt 2 x2 (some (.inr (o))) (qB (s_X12_markTells o x1 x2) (fun r20 => qB (s_X12_mix o r20) (fun o24 => some (.inl (o24, x2 + 1)))))
noncomputable def e_X12_mixMark_2 (o : OO) (x1 : Int) (x2 : Int) : Option (OO) := qB (loopW (fun s => l_X12_mixMark_2 x1 s.1 s.2) (o, x2)) (fun r => b_X12_mixMark_23 r x1)
noncomputable def s_X12_mixMark (o : OO) (x1 : Int) : Option (OO) := e_X12_mixMark_2 o x1 0
set_option maxHeartbeats 4000000 in
set_option maxRecDepth 100000 in
theorem c_X12_mixMark (l : Launch) (g : GG) (ad : Nat → Nat) (o : OO) (x1 : Int) (v : OO) (h : s_X12_mixMark o x1 = some v) : CV l g yX12_mixMark cX12_mixMark 3 1 22 (wM g ad o) [.ref (ad 0), iv x1] (wM g ad v) := by
  refine met_V (by decide) (Nat.le_of_ble_eq_true rfl) ?_
  intro X E hQ
  show Go X 0 (wM g ad o) [(0, .ref (ad 0)), (1, iv x1)] []
  have j84 : ∀ (o : OO), b_X12_mixMark_84 o = some v → Go X 84 (wM g ad o) [] [] := by
    intro o h
    unfold b_X12_mixMark_84 at h
    exact g_vret E hQ (by rw [← Option.some.inj h]) gdX12_mixMark_84
  have l53 : ∀ (x1 : Int) (r : (OO)) (s0 : OO × Int), loopW (fun s => l_X12_mixMark_53 x1 s.1 s.2) s0 = some r → (∀ (o : OO), r = (o) → Go X 84 (wM g ad o) [] []) → Go X 53 (wM g ad s0.1) [(0, .ref (ad 0)), (1, iv x1), (2, iv s0.2)] [] := by
    intro x1 r s0 h k1
    refine loop_rule (Head := fun s0 => Go X 53 (wM g ad s0.1) [(0, .ref (ad 0)), (1, iv x1), (2, iv s0.2)] []) h ?_
    intro s v h kk kx
    obtain ⟨o, x2⟩ := s
    have h : l_X12_mixMark_53 x1 o x2 = some v := h
    have k0 : ∀ (o : OO) (x2 : Int), v = .inl (o, x2) → Go X 53 (wM g ad o) [(0, .ref (ad 0)), (1, iv x1), (2, iv x2)] [] := fun o x2 e => kk (o, x2) e
    have k1 : ∀ (o : OO), v = .inr (o) → Go X 84 (wM g ad o) [] [] := fun o e => k1 o (kx _ e).symm
    unfold l_X12_mixMark_53 at h
    refine g_iload_n E gdX12_mixMark_53 rfl 2 rfl ?_
    refine g_aload_n E gdX12_mixMark_54 rfl 0 rfl ?_
    refine g_get (T := TX12) E fw_X12 0 (wM_0 g ad o) rfl 38 (by decide) w_1504 rfl rfl gdX12_mixMark_55 ?_
    refine g_iload_n E gdX12_mixMark_58 rfl 1 rfl ?_
    obtain ⟨hi1, h⟩ := qIn_of h
    refine g_iald E 30 (wM_30 g ad o) (by decide) hi1 gdX12_mixMark_59 ?_
    obtain ⟨n2, e_n2, h⟩ := qNm_of h
    refine g_nmi e_n2 ?_
    refine g_icmp_ge E 84 gdX12_mixMark_60 (by decide) h (fun h => ?_) (fun h => ?_)
    ·
      refine g_sub E [] rfl ?_
      exact k1 o (Option.some.inj h).symm
    ·
      refine g_aload_n E gdX12_mixMark_63 rfl 0 rfl ?_
      refine g_aload_n E gdX12_mixMark_64 rfl 0 rfl ?_
      refine g_get (T := TX12) E fw_X12 0 (wM_0 g ad o) rfl 39 (by decide) w_1505 rfl rfl gdX12_mixMark_65 ?_
      refine g_bipush E gdX12_mixMark_68 (by decide) ?_
      refine g_iload_n E gdX12_mixMark_70 rfl 1 rfl ?_
      refine g_imul E gdX12_mixMark_71 ?_
      refine g_iload_n E gdX12_mixMark_72 rfl 2 rfl ?_
      refine g_iadd E gdX12_mixMark_73 ?_
      obtain ⟨hi3, h⟩ := qIn_of h
      refine g_iald E 31 (wM_31 g ad o) (by decide) hi3 gdX12_mixMark_74 ?_
      obtain ⟨n4, e_n4, h⟩ := qNm_of h
      refine g_nmi e_n4 ?_
      obtain ⟨o7, hc6, h⟩ := qB_of h
      refine g_Vv (As := [iv n4]) (rest := []) (w := wM g ad o7) E (c_X12_mix l g ad o n4 o7 hc6) okm_X12_mix okw_X12_mix w_2151 rfl (wM_0 g ad o) rfl rfl (Nat.le_of_ble_eq_true rfl) ⟨Nat.le_of_ble_eq_true rfl, Nat.le_of_ble_eq_true rfl⟩ gdX12_mixMark_75 ?_
      refine g_iinc E [(2, iv (x2 + 1)), (0, .ref (ad 0)), (1, iv x1)] gdX12_mixMark_78 2 rfl (by decide) rfl ?_
      refine g_goto E 53 gdX12_mixMark_81 (by decide) ?_
      refine g_sub E [1, 2, 0] rfl ?_
      exact k0 o7 (x2 + 1) (Option.some.inj h).symm
  have j53 : ∀ (o : OO) (x1 : Int) (x2 : Int), e_X12_mixMark_53 o x1 x2 = some v → Go X 53 (wM g ad o) [(0, .ref (ad 0)), (1, iv x1), (2, iv x2)] [] := by
    intro o x1 x2 h
    unfold e_X12_mixMark_53 at h
    obtain ⟨r, hr, h⟩ := qB_of h
    refine l53 x1 r _ hr ?_
    ·
      intro u0 e
      have e := e.symm
      subst e
      have h : b_X12_mixMark_84 u0 = some v := h
      exact j84 u0 h
  have j23 : ∀ (o : OO) (x1 : Int), b_X12_mixMark_23 o x1 = some v → Go X 23 (wM g ad o) [(0, .ref (ad 0)), (1, iv x1)] [] := by
    intro o x1 h
    unfold b_X12_mixMark_23 at h
    refine g_aload_n E gdX12_mixMark_23 rfl 0 rfl ?_
    refine g_iload_n E gdX12_mixMark_24 rfl 1 rfl ?_
    obtain ⟨r8, hc9, h⟩ := qB_of h
    refine g_Vi (r := r8) (As := [iv x1]) (rest := []) (w := wM g ad o) E (c_X12_isLine l g ad o x1 r8 hc9) okm_X12_isLine okw_X12_isLine w_1907 rfl (wM_0 g ad o) rfl rfl (Nat.le_of_ble_eq_true rfl) ⟨Nat.le_of_ble_eq_true rfl, Nat.le_of_ble_eq_true rfl⟩ gdX12_mixMark_25 ?_
    refine g_if_eq E 84 gdX12_mixMark_28 (by decide) h (fun h => ?_) (fun h => ?_)
    ·
      refine g_sub E [] rfl ?_
      exact j84 o h
    ·
      refine g_aload_n E gdX12_mixMark_31 rfl 0 rfl ?_
      refine g_aload_n E gdX12_mixMark_32 rfl 0 rfl ?_
      refine g_get (T := TX12) E fw_X12 0 (wM_0 g ad o) rfl 36 (by decide) w_1502 rfl rfl gdX12_mixMark_33 ?_
      refine g_iload_n E gdX12_mixMark_36 rfl 1 rfl ?_
      obtain ⟨hi10, h⟩ := qIn_of h
      refine g_iald E 28 (wM_28 g ad o) (by decide) hi10 gdX12_mixMark_37 ?_
      obtain ⟨n11, e_n11, h⟩ := qNm_of h
      refine g_nmi e_n11 ?_
      obtain ⟨o14, hc13, h⟩ := qB_of h
      refine g_Vv (As := [iv n11]) (rest := []) (w := wM g ad o14) E (c_X12_mix l g ad o n11 o14 hc13) okm_X12_mix okw_X12_mix w_2151 rfl (wM_0 g ad o) rfl rfl (Nat.le_of_ble_eq_true rfl) ⟨Nat.le_of_ble_eq_true rfl, Nat.le_of_ble_eq_true rfl⟩ gdX12_mixMark_38 ?_
      refine g_aload_n E gdX12_mixMark_41 rfl 0 rfl ?_
      refine g_aload_n E gdX12_mixMark_42 rfl 0 rfl ?_
      refine g_get (T := TX12) E fw_X12 0 (wM_0 g ad o14) rfl 37 (by decide) w_1503 rfl rfl gdX12_mixMark_43 ?_
      refine g_iload_n E gdX12_mixMark_46 rfl 1 rfl ?_
      obtain ⟨hi15, h⟩ := qIn_of h
      refine g_iald E 29 (wM_29 g ad o14) (by decide) hi15 gdX12_mixMark_47 ?_
      obtain ⟨n16, e_n16, h⟩ := qNm_of h
      refine g_nmi e_n16 ?_
      obtain ⟨o19, hc18, h⟩ := qB_of h
      refine g_Vv (As := [iv n16]) (rest := []) (w := wM g ad o19) E (c_X12_mix l g ad o14 n16 o19 hc18) okm_X12_mix okw_X12_mix w_2151 rfl (wM_0 g ad o14) rfl rfl (Nat.le_of_ble_eq_true rfl) ⟨Nat.le_of_ble_eq_true rfl, Nat.le_of_ble_eq_true rfl⟩ gdX12_mixMark_48 ?_
      refine g_iconst E gdX12_mixMark_51 ?_
      refine g_istore_n E [(2, iv 0), (0, .ref (ad 0)), (1, iv x1)] gdX12_mixMark_52 rfl (by decide) rfl ?_
      refine g_sub E [1, 2, 0] rfl ?_
      exact j53 o19 x1 0 h
  have l2 : ∀ (x1 : Int) (r : (OO)) (s0 : OO × Int), loopW (fun s => l_X12_mixMark_2 x1 s.1 s.2) s0 = some r → (∀ (o : OO), r = (o) → Go X 23 (wM g ad o) [(0, .ref (ad 0)), (1, iv x1)] []) → Go X 2 (wM g ad s0.1) [(0, .ref (ad 0)), (1, iv x1), (2, iv s0.2)] [] := by
    intro x1 r s0 h k1
    refine loop_rule (Head := fun s0 => Go X 2 (wM g ad s0.1) [(0, .ref (ad 0)), (1, iv x1), (2, iv s0.2)] []) h ?_
    intro s v h kk kx
    obtain ⟨o, x2⟩ := s
    have h : l_X12_mixMark_2 x1 o x2 = some v := h
    have k0 : ∀ (o : OO) (x2 : Int), v = .inl (o, x2) → Go X 2 (wM g ad o) [(0, .ref (ad 0)), (1, iv x1), (2, iv x2)] [] := fun o x2 e => kk (o, x2) e
    have k1 : ∀ (o : OO), v = .inr (o) → Go X 23 (wM g ad o) [(0, .ref (ad 0)), (1, iv x1)] [] := fun o e => k1 o (kx _ e).symm
    unfold l_X12_mixMark_2 at h
    refine g_iload_n E gdX12_mixMark_2 rfl 2 rfl ?_
    refine g_iconst E gdX12_mixMark_3 ?_
    refine g_icmp_gt E 23 gdX12_mixMark_4 (by decide) h (fun h => ?_) (fun h => ?_)
    ·
      refine g_sub E [0, 1] rfl ?_
      exact k1 o (Option.some.inj h).symm
    ·
      refine g_aload_n E gdX12_mixMark_7 rfl 0 rfl ?_
      refine g_aload_n E gdX12_mixMark_8 rfl 0 rfl ?_
      refine g_iload_n E gdX12_mixMark_9 rfl 1 rfl ?_
      refine g_iload_n E gdX12_mixMark_10 rfl 2 rfl ?_
      obtain ⟨r20, hc21, h⟩ := qB_of h
      refine g_Vi (r := r20) (As := [iv x1, iv x2]) (rest := [.ref (ad 0)]) (w := wM g ad o) E (c_X12_markTells l g ad o x1 x2 r20 hc21) okm_X12_markTells okw_X12_markTells w_1961 rfl (wM_0 g ad o) rfl rfl (Nat.le_of_ble_eq_true rfl) ⟨Nat.le_of_ble_eq_true rfl, Nat.le_of_ble_eq_true rfl⟩ gdX12_mixMark_11 ?_
      obtain ⟨o24, hc23, h⟩ := qB_of h
      refine g_Vv (As := [iv r20]) (rest := []) (w := wM g ad o24) E (c_X12_mix l g ad o r20 o24 hc23) okm_X12_mix okw_X12_mix w_2151 rfl (wM_0 g ad o) rfl rfl (Nat.le_of_ble_eq_true rfl) ⟨Nat.le_of_ble_eq_true rfl, Nat.le_of_ble_eq_true rfl⟩ gdX12_mixMark_14 ?_
      refine g_iinc E [(2, iv (x2 + 1)), (0, .ref (ad 0)), (1, iv x1)] gdX12_mixMark_17 2 rfl (by decide) rfl ?_
      refine g_goto E 2 gdX12_mixMark_20 (by decide) ?_
      refine g_sub E [1, 2, 0] rfl ?_
      exact k0 o24 (x2 + 1) (Option.some.inj h).symm
  have j2 : ∀ (o : OO) (x1 : Int) (x2 : Int), e_X12_mixMark_2 o x1 x2 = some v → Go X 2 (wM g ad o) [(0, .ref (ad 0)), (1, iv x1), (2, iv x2)] [] := by
    intro o x1 x2 h
    unfold e_X12_mixMark_2 at h
    obtain ⟨r, hr, h⟩ := qB_of h
    refine l2 x1 r _ hr ?_
    ·
      intro u0 e
      have e := e.symm
      subst e
      have h : b_X12_mixMark_23 u0 x1 = some v := h
      exact j23 u0 x1 h
  unfold s_X12_mixMark at h
  refine g_iconst E gdX12_mixMark_0 ?_
  refine g_istore_n E [(2, iv 0), (0, .ref (ad 0)), (1, iv x1)] gdX12_mixMark_1 rfl (by decide) rfl ?_
  refine g_sub E [1, 2, 0] rfl ?_
  exact j2 o x1 0 h
