set_option maxRecDepth 200000 in
theorem w_1802 : Cond.constant "CityRoadModel" 266 (100000) ∈ tb := tb_mem 1802 (by decide +kernel) rfl
set_option maxRecDepth 200000 in
theorem w_1490 : Cond.fieldLink "CityRoadModel" 62 "CityRoadModel" "toldOf" "[I" ∈ tb := tb_mem 1490 (by decide +kernel) rfl
set_option maxRecDepth 200000 in
theorem w_1489 : Cond.fieldLink "CityRoadModel" 263 "CityRoadModel" "tellings" "I" ∈ tb := tb_mem 1489 (by decide +kernel) rfl
set_option maxRecDepth 200000 in
theorem w_1491 : Cond.fieldLink "CityRoadModel" 65 "CityRoadModel" "toldDay" "[I" ∈ tb := tb_mem 1491 (by decide +kernel) rfl
set_option maxRecDepth 200000 in
theorem w_1492 : Cond.fieldLink "CityRoadModel" 68 "CityRoadModel" "toldWorth" "[I" ∈ tb := tb_mem 1492 (by decide +kernel) rfl
set_option maxRecDepth 200000 in
theorem w_1790 : Cond.code yX12_isCell cX12_isCell 1 (some .boolean) ∈ tb := tb_mem 1790 (by rfl) rfl
set_option maxRecDepth 200000 in
theorem w_1789 : Cond.static yX12_isCell ∈ tb := tb_mem 1789 (by decide +kernel) rfl
set_option maxRecDepth 200000 in
theorem w_1788 : Cond.methodLink "CityRoadModel" 257 yX12_isCell ∈ tb := tb_mem 1788 (by decide +kernel) rfl
set_option maxRecDepth 200000 in
theorem w_1801 : Cond.code yX12_isWorth cX12_isWorth 1 (some .boolean) ∈ tb := tb_mem 1801 (by rfl) rfl
set_option maxRecDepth 200000 in
theorem w_1800 : Cond.static yX12_isWorth ∈ tb := tb_mem 1800 (by decide +kernel) rfl
set_option maxRecDepth 200000 in
theorem w_1799 : Cond.methodLink "CityRoadModel" 267 yX12_isWorth ∈ tb := tb_mem 1799 (by decide +kernel) rfl
set_option maxRecDepth 200000 in
theorem w_1794 : Cond.code yX12_on cX12_on 4 (some .int) ∈ tb := tb_mem 1794 (by rfl) rfl
set_option maxRecDepth 200000 in
theorem w_1793 : Cond.instanceMethod yX12_on ∈ tb := tb_mem 1793 (by decide +kernel) rfl
set_option maxRecDepth 200000 in
theorem w_43 : Cond.selects "CityRoadModel" yX12_on yX12_on ∈ tb := tb_mem 43 (by decide +kernel) rfl
set_option maxRecDepth 200000 in
theorem w_1791 : Cond.methodLink "CityRoadModel" 260 yX12_on ∈ tb := tb_mem 1791 (by decide +kernel) rfl
set_option maxRecDepth 200000 in
theorem w_1486 : Cond.fieldLink "CityRoadModel" 52 "CityRoadModel" "rooms" "[I" ∈ tb := tb_mem 1486 (by decide +kernel) rfl
set_option maxRecDepth 200000 in
theorem w_1488 : Cond.fieldLink "CityRoadModel" 59 "CityRoadModel" "boughtBy" "[I" ∈ tb := tb_mem 1488 (by decide +kernel) rfl
set_option maxRecDepth 200000 in
theorem w_1806 : Cond.code yX12_tell cX12_tell 3 none ∈ tb := tb_mem 1806 (by rfl) rfl
set_option maxRecDepth 200000 in
theorem w_1805 : Cond.instanceMethod yX12_tell ∈ tb := tb_mem 1805 (by decide +kernel) rfl
set_option maxRecDepth 200000 in
theorem w_44 : Cond.selects "CityRoadModel" yX12_tell yX12_tell ∈ tb := tb_mem 44 (by decide +kernel) rfl
set_option maxRecDepth 200000 in
theorem w_1803 : Cond.methodLink "CityRoadModel" 270 yX12_tell ∈ tb := tb_mem 1803 (by decide +kernel) rfl
set_option maxRecDepth 200000 in
theorem w_1814 : Cond.code yX12_isBuilding cX12_isBuilding 2 (some .boolean) ∈ tb := tb_mem 1814 (by rfl) rfl
set_option maxRecDepth 200000 in
theorem w_1813 : Cond.instanceMethod yX12_isBuilding ∈ tb := tb_mem 1813 (by decide +kernel) rfl
set_option maxRecDepth 200000 in
theorem w_45 : Cond.selects "CityRoadModel" yX12_isBuilding yX12_isBuilding ∈ tb := tb_mem 45 (by decide +kernel) rfl
set_option maxRecDepth 200000 in
theorem w_1811 : Cond.methodLink "CityRoadModel" 274 yX12_isBuilding ∈ tb := tb_mem 1811 (by decide +kernel) rfl
set_option maxRecDepth 200000 in
theorem w_1854 : Cond.code yX12_isPerson cX12_isPerson 2 (some .boolean) ∈ tb := tb_mem 1854 (by rfl) rfl
set_option maxRecDepth 200000 in
theorem w_1853 : Cond.instanceMethod yX12_isPerson ∈ tb := tb_mem 1853 (by decide +kernel) rfl
set_option maxRecDepth 200000 in
theorem w_51 : Cond.selects "CityRoadModel" yX12_isPerson yX12_isPerson ∈ tb := tb_mem 51 (by decide +kernel) rfl
set_option maxRecDepth 200000 in
theorem w_1851 : Cond.methodLink "CityRoadModel" 296 yX12_isPerson ∈ tb := tb_mem 1851 (by decide +kernel) rfl
set_option maxRecDepth 200000 in
theorem w_1514 : Cond.fieldLink "CityRoadModel" 368 "CityRoadModel" "buys" "I" ∈ tb := tb_mem 1514 (by decide +kernel) rfl
set_option maxRecDepth 200000 in
theorem w_1515 : Cond.fieldLink "CityRoadModel" 129 "CityRoadModel" "buyOf" "[I" ∈ tb := tb_mem 1515 (by decide +kernel) rfl
set_option maxRecDepth 200000 in
theorem w_1516 : Cond.fieldLink "CityRoadModel" 132 "CityRoadModel" "buyBy" "[I" ∈ tb := tb_mem 1516 (by decide +kernel) rfl
set_option maxRecDepth 200000 in
theorem w_1517 : Cond.fieldLink "CityRoadModel" 135 "CityRoadModel" "buyDay" "[I" ∈ tb := tb_mem 1517 (by decide +kernel) rfl
set_option maxRecDepth 200000 in
theorem w_1482 : Cond.fieldLink "CityRoadModel" 43 "CityRoadModel" "heights" "[I" ∈ tb := tb_mem 1482 (by decide +kernel) rfl
set_option maxRecDepth 200000 in
theorem w_1906 : Cond.code yX12_isMark cX12_isMark 2 (some .boolean) ∈ tb := tb_mem 1906 (by rfl) rfl
set_option maxRecDepth 200000 in
theorem w_1905 : Cond.instanceMethod yX12_isMark ∈ tb := tb_mem 1905 (by decide +kernel) rfl
set_option maxRecDepth 200000 in
theorem w_60 : Cond.selects "CityRoadModel" yX12_isMark yX12_isMark ∈ tb := tb_mem 60 (by decide +kernel) rfl
set_option maxRecDepth 200000 in
theorem w_1903 : Cond.methodLink "CityRoadModel" 308 yX12_isMark ∈ tb := tb_mem 1903 (by decide +kernel) rfl
set_option maxRecDepth 200000 in
theorem w_1910 : Cond.code yX12_isLine cX12_isLine 2 (some .boolean) ∈ tb := tb_mem 1910 (by rfl) rfl
set_option maxRecDepth 200000 in
theorem w_1909 : Cond.instanceMethod yX12_isLine ∈ tb := tb_mem 1909 (by decide +kernel) rfl
set_option maxRecDepth 200000 in
theorem w_61 : Cond.selects "CityRoadModel" yX12_isLine yX12_isLine ∈ tb := tb_mem 61 (by decide +kernel) rfl
set_option maxRecDepth 200000 in
theorem w_1907 : Cond.methodLink "CityRoadModel" 311 yX12_isLine ∈ tb := tb_mem 1907 (by decide +kernel) rfl
set_option maxRecDepth 200000 in
theorem w_1928 : Cond.code yX12_askedLine cX12_askedLine 2 (some .int) ∈ tb := tb_mem 1928 (by rfl) rfl
set_option maxRecDepth 200000 in
theorem w_1927 : Cond.instanceMethod yX12_askedLine ∈ tb := tb_mem 1927 (by decide +kernel) rfl
set_option maxRecDepth 200000 in
theorem w_63 : Cond.selects "CityRoadModel" yX12_askedLine yX12_askedLine ∈ tb := tb_mem 63 (by decide +kernel) rfl
set_option maxRecDepth 200000 in
theorem w_1925 : Cond.methodLink "CityRoadModel" 348 yX12_askedLine ∈ tb := tb_mem 1925 (by decide +kernel) rfl
set_option maxRecDepth 200000 in
theorem w_1530 : Cond.fieldLink "CityRoadModel" 413 "CityRoadModel" "coins" "J" ∈ tb := tb_mem 1530 (by decide +kernel) rfl
set_option maxRecDepth 200000 in
theorem w_1473 : Cond.fieldLink "CityRoadModel" 19 "CityRoadModel" "moving" "[I" ∈ tb := tb_mem 1473 (by decide +kernel) rfl
set_option maxRecDepth 200000 in
theorem w_1474 : Cond.fieldLink "CityRoadModel" 22 "CityRoadModel" "lengths" "[I" ∈ tb := tb_mem 1474 (by decide +kernel) rfl
set_option maxRecDepth 200000 in
theorem w_2137 : Cond.code yX12_counts cX12_counts 4 (some .int) ∈ tb := tb_mem 2137 (by rfl) rfl
set_option maxRecDepth 200000 in
theorem w_2136 : Cond.instanceMethod yX12_counts ∈ tb := tb_mem 2136 (by decide +kernel) rfl
set_option maxRecDepth 200000 in
theorem w_85 : Cond.selects "CityRoadModel" yX12_counts yX12_counts ∈ tb := tb_mem 85 (by decide +kernel) rfl
set_option maxRecDepth 200000 in
theorem w_2134 : Cond.methodLink "CityRoadModel" 443 yX12_counts ∈ tb := tb_mem 2134 (by decide +kernel) rfl
set_option maxRecDepth 200000 in
theorem w_2155 : Cond.constantLong "CityRoadModel" 446 (31) ∈ tb := tb_mem 2155 (by decide +kernel) rfl
set_option maxRecDepth 200000 in
theorem w_1542 : Cond.fieldLink "CityRoadModel" 448 "CityRoadModel" "h" "J" ∈ tb := tb_mem 1542 (by decide +kernel) rfl
set_option maxRecDepth 200000 in
theorem w_1497 : Cond.fieldLink "CityRoadModel" 80 "CityRoadModel" "kins" "[I" ∈ tb := tb_mem 1497 (by decide +kernel) rfl
set_option maxRecDepth 200000 in
theorem w_1496 : Cond.fieldLink "CityRoadModel" 77 "CityRoadModel" "hasCar" "[Z" ∈ tb := tb_mem 1496 (by decide +kernel) rfl
set_option maxRecDepth 200000 in
theorem w_1495 : Cond.fieldLink "CityRoadModel" 74 "CityRoadModel" "works" "[I" ∈ tb := tb_mem 1495 (by decide +kernel) rfl
set_option maxRecDepth 200000 in
theorem w_1501 : Cond.fieldLink "CityRoadModel" 89 "CityRoadModel" "hangs" "[I" ∈ tb := tb_mem 1501 (by decide +kernel) rfl
set_option maxRecDepth 200000 in
theorem w_1500 : Cond.fieldLink "CityRoadModel" 86 "CityRoadModel" "made" "[I" ∈ tb := tb_mem 1500 (by decide +kernel) rfl
set_option maxRecDepth 200000 in
theorem w_2154 : Cond.code yX12_mix cX12_mix 2 none ∈ tb := tb_mem 2154 (by rfl) rfl
set_option maxRecDepth 200000 in
theorem w_2153 : Cond.instanceMethod yX12_mix ∈ tb := tb_mem 2153 (by decide +kernel) rfl
set_option maxRecDepth 200000 in
theorem w_86 : Cond.selects "CityRoadModel" yX12_mix yX12_mix ∈ tb := tb_mem 86 (by decide +kernel) rfl
set_option maxRecDepth 200000 in
theorem w_2151 : Cond.methodLink "CityRoadModel" 451 yX12_mix ∈ tb := tb_mem 2151 (by decide +kernel) rfl
set_option maxRecDepth 200000 in
theorem w_1503 : Cond.fieldLink "CityRoadModel" 95 "CityRoadModel" "shownOn" "[I" ∈ tb := tb_mem 1503 (by decide +kernel) rfl
set_option maxRecDepth 200000 in
theorem w_1964 : Cond.code yX12_markTells cX12_markTells 3 (some .int) ∈ tb := tb_mem 1964 (by rfl) rfl
set_option maxRecDepth 200000 in
theorem w_1963 : Cond.instanceMethod yX12_markTells ∈ tb := tb_mem 1963 (by decide +kernel) rfl
set_option maxRecDepth 200000 in
theorem w_66 : Cond.selects "CityRoadModel" yX12_markTells yX12_markTells ∈ tb := tb_mem 66 (by decide +kernel) rfl
set_option maxRecDepth 200000 in
theorem w_1961 : Cond.methodLink "CityRoadModel" 358 yX12_markTells ∈ tb := tb_mem 1961 (by decide +kernel) rfl
set_option maxRecDepth 200000 in
theorem w_1475 : Cond.fieldLink "CityRoadModel" 25 "CityRoadModel" "texts" "[I" ∈ tb := tb_mem 1475 (by decide +kernel) rfl
set_option maxRecDepth 200000 in
theorem w_2159 : Cond.code yX12_mixMark cX12_mixMark 3 none ∈ tb := tb_mem 2159 (by rfl) rfl
set_option maxRecDepth 200000 in
theorem w_2158 : Cond.instanceMethod yX12_mixMark ∈ tb := tb_mem 2158 (by decide +kernel) rfl
set_option maxRecDepth 200000 in
theorem w_87 : Cond.selects "CityRoadModel" yX12_mixMark yX12_mixMark ∈ tb := tb_mem 87 (by decide +kernel) rfl
set_option maxRecDepth 200000 in
theorem w_2156 : Cond.methodLink "CityRoadModel" 457 yX12_mixMark ∈ tb := tb_mem 2156 (by decide +kernel) rfl
set_option maxRecDepth 200000 in
theorem w_1858 : Cond.code yX12_personTells cX12_personTells 3 (some .int) ∈ tb := tb_mem 1858 (by rfl) rfl
set_option maxRecDepth 200000 in
theorem w_1857 : Cond.instanceMethod yX12_personTells ∈ tb := tb_mem 1857 (by decide +kernel) rfl
set_option maxRecDepth 200000 in
theorem w_52 : Cond.selects "CityRoadModel" yX12_personTells yX12_personTells ∈ tb := tb_mem 52 (by decide +kernel) rfl
set_option maxRecDepth 200000 in
theorem w_1855 : Cond.methodLink "CityRoadModel" 299 yX12_personTells ∈ tb := tb_mem 1855 (by decide +kernel) rfl
set_option maxRecDepth 200000 in
theorem w_1818 : Cond.code yX12_valueOf cX12_valueOf 5 (some .int) ∈ tb := tb_mem 1818 (by rfl) rfl
set_option maxRecDepth 200000 in
theorem w_1817 : Cond.instanceMethod yX12_valueOf ∈ tb := tb_mem 1817 (by decide +kernel) rfl
set_option maxRecDepth 200000 in
theorem w_46 : Cond.selects "CityRoadModel" yX12_valueOf yX12_valueOf ∈ tb := tb_mem 46 (by decide +kernel) rfl
set_option maxRecDepth 200000 in
theorem w_1815 : Cond.methodLink "CityRoadModel" 277 yX12_valueOf ∈ tb := tb_mem 1815 (by decide +kernel) rfl
set_option maxRecDepth 200000 in
theorem w_1830 : Cond.code yX12_houseTells cX12_houseTells 3 (some .int) ∈ tb := tb_mem 1830 (by rfl) rfl
set_option maxRecDepth 200000 in
theorem w_1829 : Cond.instanceMethod yX12_houseTells ∈ tb := tb_mem 1829 (by decide +kernel) rfl
set_option maxRecDepth 200000 in
theorem w_47 : Cond.selects "CityRoadModel" yX12_houseTells yX12_houseTells ∈ tb := tb_mem 47 (by decide +kernel) rfl
set_option maxRecDepth 200000 in
theorem w_1827 : Cond.methodLink "CityRoadModel" 287 yX12_houseTells ∈ tb := tb_mem 1827 (by decide +kernel) rfl
set_option maxRecDepth 200000 in
theorem w_2150 : Cond.constantLong "CityRoadModel" 455 (17) ∈ tb := tb_mem 2150 (by decide +kernel) rfl
set_option maxRecDepth 200000 in
theorem w_1518 : Cond.fieldLink "CityRoadModel" 371 "CityRoadModel" "hears" "I" ∈ tb := tb_mem 1518 (by decide +kernel) rfl
set_option maxRecDepth 200000 in
theorem w_1519 : Cond.fieldLink "CityRoadModel" 138 "CityRoadModel" "hearBy" "[I" ∈ tb := tb_mem 1519 (by decide +kernel) rfl
set_option maxRecDepth 200000 in
theorem w_1520 : Cond.fieldLink "CityRoadModel" 141 "CityRoadModel" "hearOf" "[I" ∈ tb := tb_mem 1520 (by decide +kernel) rfl
set_option maxRecDepth 200000 in
theorem w_1521 : Cond.fieldLink "CityRoadModel" 144 "CityRoadModel" "hearDay" "[I" ∈ tb := tb_mem 1521 (by decide +kernel) rfl
theorem gdX12_isCell_0 : decode cX12_isCell 0 = .ok (.iload_n 0, 1) := by decide +kernel
theorem gdX12_isCell_1 : decode cX12_isCell 1 = .ok (.iconst 0, 1) := by decide +kernel
theorem gdX12_isCell_2 : decode cX12_isCell 2 = .ok (.bipush 63, 2) := by decide +kernel
theorem gdX12_isCell_4 : decode cX12_isCell 4 = .ok (.invokestatic 208, 3) := by decide +kernel
theorem gdX12_isCell_7 : decode cX12_isCell 7 = .ok (.ireturn, 1) := by decide +kernel
theorem gdX12_isWorth_0 : decode cX12_isWorth 0 = .ok (.iload_n 0, 1) := by decide +kernel
theorem gdX12_isWorth_1 : decode cX12_isWorth 1 = .ok (.iconst 1, 1) := by decide +kernel
theorem gdX12_isWorth_2 : decode cX12_isWorth 2 = .ok (.ldc_w 266, 3) := by decide +kernel
theorem gdX12_isWorth_5 : decode cX12_isWorth 5 = .ok (.invokestatic 208, 3) := by decide +kernel
theorem gdX12_isWorth_8 : decode cX12_isWorth 8 = .ok (.ireturn, 1) := by decide +kernel
theorem gdX12_on_44 : decode cX12_on 44 = .ok (.iload_n 2, 1) := by decide +kernel
theorem gdX12_on_45 : decode cX12_on 45 = .ok (.ireturn, 1) := by decide +kernel
theorem gdX12_on_37 : decode cX12_on 37 = .ok (.istore_n 2, 1) := by decide +kernel
theorem gdX12_on_38 : decode cX12_on 38 = .ok (.iinc 3 1, 3) := by decide +kernel
theorem gdX12_on_41 : decode cX12_on 41 = .ok (.goto (-36), 3) := by decide +kernel
theorem gdX12_on_36 : decode cX12_on 36 = .ok (.iload_n 2, 1) := by decide +kernel
theorem gdX12_on_5 : decode cX12_on 5 = .ok (.iload_n 3, 1) := by decide +kernel
theorem gdX12_on_6 : decode cX12_on 6 = .ok (.aload_n 0, 1) := by decide +kernel
theorem gdX12_on_7 : decode cX12_on 7 = .ok (.getfield 254, 3) := by decide +kernel
theorem gdX12_on_10 : decode cX12_on 10 = .ok (.if_icmp .ge 34, 3) := by decide +kernel
theorem gdX12_on_13 : decode cX12_on 13 = .ok (.aload_n 0, 1) := by decide +kernel
theorem gdX12_on_14 : decode cX12_on 14 = .ok (.getfield 46, 3) := by decide +kernel
theorem gdX12_on_17 : decode cX12_on 17 = .ok (.iload_n 3, 1) := by decide +kernel
theorem gdX12_on_18 : decode cX12_on 18 = .ok (.iaload, 1) := by decide +kernel
theorem gdX12_on_19 : decode cX12_on 19 = .ok (.iload_n 1, 1) := by decide +kernel
theorem gdX12_on_20 : decode cX12_on 20 = .ok (.if_icmp .ne 16, 3) := by decide +kernel
theorem gdX12_on_23 : decode cX12_on 23 = .ok (.aload_n 0, 1) := by decide +kernel
theorem gdX12_on_24 : decode cX12_on 24 = .ok (.getfield 55, 3) := by decide +kernel
theorem gdX12_on_27 : decode cX12_on 27 = .ok (.iload_n 3, 1) := by decide +kernel
theorem gdX12_on_28 : decode cX12_on 28 = .ok (.baload, 1) := by decide +kernel
theorem gdX12_on_29 : decode cX12_on 29 = .ok (.ifCond .ne 7, 3) := by decide +kernel
theorem gdX12_on_32 : decode cX12_on 32 = .ok (.iload_n 3, 1) := by decide +kernel
theorem gdX12_on_33 : decode cX12_on 33 = .ok (.goto 4, 3) := by decide +kernel
theorem gdX12_on_0 : decode cX12_on 0 = .ok (.bipush (-9), 2) := by decide +kernel
theorem gdX12_on_2 : decode cX12_on 2 = .ok (.istore_n 2, 1) := by decide +kernel
theorem gdX12_on_3 : decode cX12_on 3 = .ok (.iconst 0, 1) := by decide +kernel
theorem gdX12_on_4 : decode cX12_on 4 = .ok (.istore_n 3, 1) := by decide +kernel
theorem gdX12_tell_0 : decode cX12_tell 0 = .ok (.aload_n 0, 1) := by decide +kernel
theorem gdX12_tell_1 : decode cX12_tell 1 = .ok (.getfield 62, 3) := by decide +kernel
theorem gdX12_tell_4 : decode cX12_tell 4 = .ok (.aload_n 0, 1) := by decide +kernel
theorem gdX12_tell_5 : decode cX12_tell 5 = .ok (.getfield 263, 3) := by decide +kernel
theorem gdX12_tell_8 : decode cX12_tell 8 = .ok (.iload_n 1, 1) := by decide +kernel
theorem gdX12_tell_9 : decode cX12_tell 9 = .ok (.iastore, 1) := by decide +kernel
theorem gdX12_tell_10 : decode cX12_tell 10 = .ok (.aload_n 0, 1) := by decide +kernel
theorem gdX12_tell_11 : decode cX12_tell 11 = .ok (.getfield 65, 3) := by decide +kernel
theorem gdX12_tell_14 : decode cX12_tell 14 = .ok (.aload_n 0, 1) := by decide +kernel
theorem gdX12_tell_15 : decode cX12_tell 15 = .ok (.getfield 263, 3) := by decide +kernel
theorem gdX12_tell_18 : decode cX12_tell 18 = .ok (.aload_n 0, 1) := by decide +kernel
theorem gdX12_tell_19 : decode cX12_tell 19 = .ok (.getfield 229, 3) := by decide +kernel
theorem gdX12_tell_22 : decode cX12_tell 22 = .ok (.iastore, 1) := by decide +kernel
theorem gdX12_tell_23 : decode cX12_tell 23 = .ok (.aload_n 0, 1) := by decide +kernel
theorem gdX12_tell_24 : decode cX12_tell 24 = .ok (.getfield 68, 3) := by decide +kernel
theorem gdX12_tell_27 : decode cX12_tell 27 = .ok (.aload_n 0, 1) := by decide +kernel
theorem gdX12_tell_28 : decode cX12_tell 28 = .ok (.getfield 263, 3) := by decide +kernel
theorem gdX12_tell_31 : decode cX12_tell 31 = .ok (.iload_n 2, 1) := by decide +kernel
theorem gdX12_tell_32 : decode cX12_tell 32 = .ok (.iastore, 1) := by decide +kernel
theorem gdX12_tell_33 : decode cX12_tell 33 = .ok (.aload_n 0, 1) := by decide +kernel
theorem gdX12_tell_34 : decode cX12_tell 34 = .ok (.dup, 1) := by decide +kernel
theorem gdX12_tell_35 : decode cX12_tell 35 = .ok (.getfield 263, 3) := by decide +kernel
theorem gdX12_tell_38 : decode cX12_tell 38 = .ok (.iconst 1, 1) := by decide +kernel
theorem gdX12_tell_39 : decode cX12_tell 39 = .ok (.iadd, 1) := by decide +kernel
theorem gdX12_tell_40 : decode cX12_tell 40 = .ok (.putfield 263, 3) := by decide +kernel
theorem gdX12_tell_43 : decode cX12_tell 43 = .ok (.return_, 1) := by decide +kernel
theorem gdX12_building_34 : decode cX12_building 34 = .ok (.iconst (-1), 1) := by decide +kernel
theorem gdX12_building_35 : decode cX12_building 35 = .ok (.ireturn, 1) := by decide +kernel
theorem gdX12_building_54 : decode cX12_building 54 = .ok (.bipush (-2), 2) := by decide +kernel
theorem gdX12_building_56 : decode cX12_building 56 = .ok (.ireturn, 1) := by decide +kernel
theorem gdX12_building_75 : decode cX12_building 75 = .ok (.bipush (-4), 2) := by decide +kernel
theorem gdX12_building_77 : decode cX12_building 77 = .ok (.ireturn, 1) := by decide +kernel
theorem gdX12_building_0 : decode cX12_building 0 = .ok (.iload_n 1, 1) := by decide +kernel
theorem gdX12_building_1 : decode cX12_building 1 = .ok (.invokestatic 257, 3) := by decide +kernel
theorem gdX12_building_4 : decode cX12_building 4 = .ok (.ifCond .eq 30, 3) := by decide +kernel
theorem gdX12_building_7 : decode cX12_building 7 = .ok (.iload_n 2, 1) := by decide +kernel
theorem gdX12_building_8 : decode cX12_building 8 = .ok (.iconst 0, 1) := by decide +kernel
theorem gdX12_building_9 : decode cX12_building 9 = .ok (.iconst 2, 1) := by decide +kernel
theorem gdX12_building_10 : decode cX12_building 10 = .ok (.invokestatic 208, 3) := by decide +kernel
theorem gdX12_building_13 : decode cX12_building 13 = .ok (.ifCond .eq 21, 3) := by decide +kernel
theorem gdX12_building_16 : decode cX12_building 16 = .ok (.iload_n 3, 1) := by decide +kernel
theorem gdX12_building_17 : decode cX12_building 17 = .ok (.iconst 0, 1) := by decide +kernel
theorem gdX12_building_18 : decode cX12_building 18 = .ok (.bipush 20, 2) := by decide +kernel
theorem gdX12_building_20 : decode cX12_building 20 = .ok (.invokestatic 208, 3) := by decide +kernel
theorem gdX12_building_23 : decode cX12_building 23 = .ok (.ifCond .eq 11, 3) := by decide +kernel
theorem gdX12_building_26 : decode cX12_building 26 = .ok (.iload 4, 2) := by decide +kernel
theorem gdX12_building_28 : decode cX12_building 28 = .ok (.invokestatic 267, 3) := by decide +kernel
theorem gdX12_building_31 : decode cX12_building 31 = .ok (.ifCond .ne 5, 3) := by decide +kernel
theorem gdX12_building_36 : decode cX12_building 36 = .ok (.aload_n 0, 1) := by decide +kernel
theorem gdX12_building_37 : decode cX12_building 37 = .ok (.getfield 254, 3) := by decide +kernel
theorem gdX12_building_40 : decode cX12_building 40 = .ok (.bipush 32, 2) := by decide +kernel
theorem gdX12_building_42 : decode cX12_building 42 = .ok (.if_icmp .eq 12, 3) := by decide +kernel
theorem gdX12_building_45 : decode cX12_building 45 = .ok (.aload_n 0, 1) := by decide +kernel
theorem gdX12_building_46 : decode cX12_building 46 = .ok (.getfield 263, 3) := by decide +kernel
theorem gdX12_building_49 : decode cX12_building 49 = .ok (.bipush 100, 2) := by decide +kernel
theorem gdX12_building_51 : decode cX12_building 51 = .ok (.if_icmp .ne 6, 3) := by decide +kernel
theorem gdX12_building_57 : decode cX12_building 57 = .ok (.aload_n 0, 1) := by decide +kernel
theorem gdX12_building_58 : decode cX12_building 58 = .ok (.getfield 40, 3) := by decide +kernel
theorem gdX12_building_61 : decode cX12_building 61 = .ok (.iload_n 1, 1) := by decide +kernel
theorem gdX12_building_62 : decode cX12_building 62 = .ok (.iaload, 1) := by decide +kernel
theorem gdX12_building_63 : decode cX12_building 63 = .ok (.iconst 4, 1) := by decide +kernel
theorem gdX12_building_64 : decode cX12_building 64 = .ok (.if_icmp .eq 11, 3) := by decide +kernel
theorem gdX12_building_67 : decode cX12_building 67 = .ok (.aload_n 0, 1) := by decide +kernel
theorem gdX12_building_68 : decode cX12_building 68 = .ok (.iload_n 1, 1) := by decide +kernel
theorem gdX12_building_69 : decode cX12_building 69 = .ok (.invokevirtual 260, 3) := by decide +kernel
theorem gdX12_building_72 : decode cX12_building 72 = .ok (.ifCond .lt 6, 3) := by decide +kernel
theorem gdX12_building_78 : decode cX12_building 78 = .ok (.aload_n 0, 1) := by decide +kernel
theorem gdX12_building_79 : decode cX12_building 79 = .ok (.getfield 46, 3) := by decide +kernel
theorem gdX12_building_82 : decode cX12_building 82 = .ok (.aload_n 0, 1) := by decide +kernel
theorem gdX12_building_83 : decode cX12_building 83 = .ok (.getfield 254, 3) := by decide +kernel
theorem gdX12_building_86 : decode cX12_building 86 = .ok (.iload_n 1, 1) := by decide +kernel
theorem gdX12_building_87 : decode cX12_building 87 = .ok (.iastore, 1) := by decide +kernel
theorem gdX12_building_88 : decode cX12_building 88 = .ok (.aload_n 0, 1) := by decide +kernel
theorem gdX12_building_89 : decode cX12_building 89 = .ok (.getfield 49, 3) := by decide +kernel
theorem gdX12_building_92 : decode cX12_building 92 = .ok (.aload_n 0, 1) := by decide +kernel
theorem gdX12_building_93 : decode cX12_building 93 = .ok (.getfield 254, 3) := by decide +kernel
theorem gdX12_building_96 : decode cX12_building 96 = .ok (.iload_n 2, 1) := by decide +kernel
theorem gdX12_building_97 : decode cX12_building 97 = .ok (.iastore, 1) := by decide +kernel
theorem gdX12_building_98 : decode cX12_building 98 = .ok (.aload_n 0, 1) := by decide +kernel
theorem gdX12_building_99 : decode cX12_building 99 = .ok (.getfield 52, 3) := by decide +kernel
theorem gdX12_building_102 : decode cX12_building 102 = .ok (.aload_n 0, 1) := by decide +kernel
theorem gdX12_building_103 : decode cX12_building 103 = .ok (.getfield 254, 3) := by decide +kernel
theorem gdX12_building_106 : decode cX12_building 106 = .ok (.iload_n 3, 1) := by decide +kernel
theorem gdX12_building_107 : decode cX12_building 107 = .ok (.iastore, 1) := by decide +kernel
theorem gdX12_building_108 : decode cX12_building 108 = .ok (.aload_n 0, 1) := by decide +kernel
theorem gdX12_building_109 : decode cX12_building 109 = .ok (.getfield 59, 3) := by decide +kernel
theorem gdX12_building_112 : decode cX12_building 112 = .ok (.aload_n 0, 1) := by decide +kernel
theorem gdX12_building_113 : decode cX12_building 113 = .ok (.getfield 254, 3) := by decide +kernel
theorem gdX12_building_116 : decode cX12_building 116 = .ok (.bipush (-9), 2) := by decide +kernel
theorem gdX12_building_118 : decode cX12_building 118 = .ok (.iastore, 1) := by decide +kernel
theorem gdX12_building_119 : decode cX12_building 119 = .ok (.aload_n 0, 1) := by decide +kernel
theorem gdX12_building_120 : decode cX12_building 120 = .ok (.aload_n 0, 1) := by decide +kernel
theorem gdX12_building_121 : decode cX12_building 121 = .ok (.getfield 254, 3) := by decide +kernel
theorem gdX12_building_124 : decode cX12_building 124 = .ok (.iload 4, 2) := by decide +kernel
theorem gdX12_building_126 : decode cX12_building 126 = .ok (.invokevirtual 270, 3) := by decide +kernel
theorem gdX12_building_129 : decode cX12_building 129 = .ok (.aload_n 0, 1) := by decide +kernel
theorem gdX12_building_130 : decode cX12_building 130 = .ok (.dup, 1) := by decide +kernel
theorem gdX12_building_131 : decode cX12_building 131 = .ok (.getfield 254, 3) := by decide +kernel
theorem gdX12_building_134 : decode cX12_building 134 = .ok (.iconst 1, 1) := by decide +kernel
theorem gdX12_building_135 : decode cX12_building 135 = .ok (.iadd, 1) := by decide +kernel
theorem gdX12_building_136 : decode cX12_building 136 = .ok (.putfield 254, 3) := by decide +kernel
theorem gdX12_building_139 : decode cX12_building 139 = .ok (.aload_n 0, 1) := by decide +kernel
theorem gdX12_building_140 : decode cX12_building 140 = .ok (.getfield 254, 3) := by decide +kernel
theorem gdX12_building_143 : decode cX12_building 143 = .ok (.iconst 1, 1) := by decide +kernel
theorem gdX12_building_144 : decode cX12_building 144 = .ok (.isub, 1) := by decide +kernel
theorem gdX12_building_145 : decode cX12_building 145 = .ok (.ireturn, 1) := by decide +kernel
theorem gdX12_isBuilding_0 : decode cX12_isBuilding 0 = .ok (.iload_n 1, 1) := by decide +kernel
theorem gdX12_isBuilding_1 : decode cX12_isBuilding 1 = .ok (.iconst 0, 1) := by decide +kernel
theorem gdX12_isBuilding_2 : decode cX12_isBuilding 2 = .ok (.aload_n 0, 1) := by decide +kernel
theorem gdX12_isBuilding_3 : decode cX12_isBuilding 3 = .ok (.getfield 254, 3) := by decide +kernel
theorem gdX12_isBuilding_6 : decode cX12_isBuilding 6 = .ok (.iconst 1, 1) := by decide +kernel
theorem gdX12_isBuilding_7 : decode cX12_isBuilding 7 = .ok (.isub, 1) := by decide +kernel
theorem gdX12_isBuilding_8 : decode cX12_isBuilding 8 = .ok (.invokestatic 208, 3) := by decide +kernel
theorem gdX12_isBuilding_11 : decode cX12_isBuilding 11 = .ok (.ireturn, 1) := by decide +kernel
theorem gdX12_isPerson_0 : decode cX12_isPerson 0 = .ok (.iload_n 1, 1) := by decide +kernel
theorem gdX12_isPerson_1 : decode cX12_isPerson 1 = .ok (.iconst 0, 1) := by decide +kernel
theorem gdX12_isPerson_2 : decode cX12_isPerson 2 = .ok (.aload_n 0, 1) := by decide +kernel
theorem gdX12_isPerson_3 : decode cX12_isPerson 3 = .ok (.getfield 281, 3) := by decide +kernel
theorem gdX12_isPerson_6 : decode cX12_isPerson 6 = .ok (.iconst 1, 1) := by decide +kernel
theorem gdX12_isPerson_7 : decode cX12_isPerson 7 = .ok (.isub, 1) := by decide +kernel
theorem gdX12_isPerson_8 : decode cX12_isPerson 8 = .ok (.invokestatic 208, 3) := by decide +kernel
theorem gdX12_isPerson_11 : decode cX12_isPerson 11 = .ok (.ireturn, 1) := by decide +kernel
theorem gdX12_buy_16 : decode cX12_buy 16 = .ok (.iconst (-1), 1) := by decide +kernel
theorem gdX12_buy_17 : decode cX12_buy 17 = .ok (.ireturn, 1) := by decide +kernel
theorem gdX12_buy_0 : decode cX12_buy 0 = .ok (.aload_n 0, 1) := by decide +kernel
theorem gdX12_buy_1 : decode cX12_buy 1 = .ok (.iload_n 1, 1) := by decide +kernel
theorem gdX12_buy_2 : decode cX12_buy 2 = .ok (.invokevirtual 274, 3) := by decide +kernel
theorem gdX12_buy_5 : decode cX12_buy 5 = .ok (.ifCond .eq 11, 3) := by decide +kernel
theorem gdX12_buy_8 : decode cX12_buy 8 = .ok (.aload_n 0, 1) := by decide +kernel
theorem gdX12_buy_9 : decode cX12_buy 9 = .ok (.iload_n 2, 1) := by decide +kernel
theorem gdX12_buy_10 : decode cX12_buy 10 = .ok (.invokevirtual 296, 3) := by decide +kernel
theorem gdX12_buy_13 : decode cX12_buy 13 = .ok (.ifCond .ne 5, 3) := by decide +kernel
theorem gdX12_buy_18 : decode cX12_buy 18 = .ok (.aload_n 0, 1) := by decide +kernel
theorem gdX12_buy_19 : decode cX12_buy 19 = .ok (.getfield 368, 3) := by decide +kernel
theorem gdX12_buy_22 : decode cX12_buy 22 = .ok (.bipush 40, 2) := by decide +kernel
theorem gdX12_buy_24 : decode cX12_buy 24 = .ok (.if_icmp .ne 6, 3) := by decide +kernel
theorem gdX12_buy_30 : decode cX12_buy 30 = .ok (.aload_n 0, 1) := by decide +kernel
theorem gdX12_buy_31 : decode cX12_buy 31 = .ok (.getfield 55, 3) := by decide +kernel
theorem gdX12_buy_34 : decode cX12_buy 34 = .ok (.iload_n 1, 1) := by decide +kernel
theorem gdX12_buy_35 : decode cX12_buy 35 = .ok (.baload, 1) := by decide +kernel
theorem gdX12_buy_36 : decode cX12_buy 36 = .ok (.ifCond .eq 6, 3) := by decide +kernel
theorem gdX12_buy_42 : decode cX12_buy 42 = .ok (.aload_n 0, 1) := by decide +kernel
theorem gdX12_buy_43 : decode cX12_buy 43 = .ok (.getfield 129, 3) := by decide +kernel
theorem gdX12_buy_46 : decode cX12_buy 46 = .ok (.aload_n 0, 1) := by decide +kernel
theorem gdX12_buy_47 : decode cX12_buy 47 = .ok (.getfield 368, 3) := by decide +kernel
theorem gdX12_buy_50 : decode cX12_buy 50 = .ok (.iload_n 1, 1) := by decide +kernel
theorem gdX12_buy_51 : decode cX12_buy 51 = .ok (.iastore, 1) := by decide +kernel
theorem gdX12_buy_52 : decode cX12_buy 52 = .ok (.aload_n 0, 1) := by decide +kernel
theorem gdX12_buy_53 : decode cX12_buy 53 = .ok (.getfield 132, 3) := by decide +kernel
theorem gdX12_buy_56 : decode cX12_buy 56 = .ok (.aload_n 0, 1) := by decide +kernel
theorem gdX12_buy_57 : decode cX12_buy 57 = .ok (.getfield 368, 3) := by decide +kernel
theorem gdX12_buy_60 : decode cX12_buy 60 = .ok (.iload_n 2, 1) := by decide +kernel
theorem gdX12_buy_61 : decode cX12_buy 61 = .ok (.iastore, 1) := by decide +kernel
theorem gdX12_buy_62 : decode cX12_buy 62 = .ok (.aload_n 0, 1) := by decide +kernel
theorem gdX12_buy_63 : decode cX12_buy 63 = .ok (.getfield 135, 3) := by decide +kernel
theorem gdX12_buy_66 : decode cX12_buy 66 = .ok (.aload_n 0, 1) := by decide +kernel
theorem gdX12_buy_67 : decode cX12_buy 67 = .ok (.getfield 368, 3) := by decide +kernel
theorem gdX12_buy_70 : decode cX12_buy 70 = .ok (.aload_n 0, 1) := by decide +kernel
theorem gdX12_buy_71 : decode cX12_buy 71 = .ok (.getfield 229, 3) := by decide +kernel
theorem gdX12_buy_74 : decode cX12_buy 74 = .ok (.iastore, 1) := by decide +kernel
theorem gdX12_buy_75 : decode cX12_buy 75 = .ok (.aload_n 0, 1) := by decide +kernel
theorem gdX12_buy_76 : decode cX12_buy 76 = .ok (.dup, 1) := by decide +kernel
theorem gdX12_buy_77 : decode cX12_buy 77 = .ok (.getfield 368, 3) := by decide +kernel
theorem gdX12_buy_80 : decode cX12_buy 80 = .ok (.iconst 1, 1) := by decide +kernel
theorem gdX12_buy_81 : decode cX12_buy 81 = .ok (.iadd, 1) := by decide +kernel
theorem gdX12_buy_82 : decode cX12_buy 82 = .ok (.putfield 368, 3) := by decide +kernel
theorem gdX12_buy_85 : decode cX12_buy 85 = .ok (.aload_n 0, 1) := by decide +kernel
theorem gdX12_buy_86 : decode cX12_buy 86 = .ok (.getfield 59, 3) := by decide +kernel
theorem gdX12_buy_89 : decode cX12_buy 89 = .ok (.iload_n 1, 1) := by decide +kernel
theorem gdX12_buy_90 : decode cX12_buy 90 = .ok (.iload_n 2, 1) := by decide +kernel
theorem gdX12_buy_91 : decode cX12_buy 91 = .ok (.iastore, 1) := by decide +kernel
theorem gdX12_buy_92 : decode cX12_buy 92 = .ok (.aload_n 0, 1) := by decide +kernel
theorem gdX12_buy_93 : decode cX12_buy 93 = .ok (.getfield 368, 3) := by decide +kernel
theorem gdX12_buy_96 : decode cX12_buy 96 = .ok (.ireturn, 1) := by decide +kernel
theorem gdX12_buy_39 : decode cX12_buy 39 = .ok (.bipush (-4), 2) := by decide +kernel
theorem gdX12_buy_41 : decode cX12_buy 41 = .ok (.ireturn, 1) := by decide +kernel
theorem gdX12_buy_27 : decode cX12_buy 27 = .ok (.bipush (-2), 2) := by decide +kernel
theorem gdX12_buy_29 : decode cX12_buy 29 = .ok (.ireturn, 1) := by decide +kernel
theorem gdX12_cell_26 : decode cX12_cell 26 = .ok (.iconst (-1), 1) := by decide +kernel
theorem gdX12_cell_27 : decode cX12_cell 27 = .ok (.ireturn, 1) := by decide +kernel
theorem gdX12_cell_44 : decode cX12_cell 44 = .ok (.aload_n 0, 1) := by decide +kernel
theorem gdX12_cell_45 : decode cX12_cell 45 = .ok (.getfield 40, 3) := by decide +kernel
theorem gdX12_cell_48 : decode cX12_cell 48 = .ok (.iload_n 1, 1) := by decide +kernel
theorem gdX12_cell_49 : decode cX12_cell 49 = .ok (.iload_n 2, 1) := by decide +kernel
theorem gdX12_cell_50 : decode cX12_cell 50 = .ok (.iastore, 1) := by decide +kernel
theorem gdX12_cell_51 : decode cX12_cell 51 = .ok (.aload_n 0, 1) := by decide +kernel
theorem gdX12_cell_52 : decode cX12_cell 52 = .ok (.getfield 43, 3) := by decide +kernel
theorem gdX12_cell_55 : decode cX12_cell 55 = .ok (.iload_n 1, 1) := by decide +kernel
theorem gdX12_cell_56 : decode cX12_cell 56 = .ok (.iload_n 3, 1) := by decide +kernel
theorem gdX12_cell_57 : decode cX12_cell 57 = .ok (.iastore, 1) := by decide +kernel
theorem gdX12_cell_58 : decode cX12_cell 58 = .ok (.iconst 1, 1) := by decide +kernel
theorem gdX12_cell_59 : decode cX12_cell 59 = .ok (.ireturn, 1) := by decide +kernel
theorem gdX12_cell_0 : decode cX12_cell 0 = .ok (.iload_n 1, 1) := by decide +kernel
theorem gdX12_cell_1 : decode cX12_cell 1 = .ok (.invokestatic 257, 3) := by decide +kernel
theorem gdX12_cell_4 : decode cX12_cell 4 = .ok (.ifCond .eq 22, 3) := by decide +kernel
theorem gdX12_cell_7 : decode cX12_cell 7 = .ok (.iload_n 2, 1) := by decide +kernel
theorem gdX12_cell_8 : decode cX12_cell 8 = .ok (.iconst 0, 1) := by decide +kernel
theorem gdX12_cell_9 : decode cX12_cell 9 = .ok (.iconst 4, 1) := by decide +kernel
theorem gdX12_cell_10 : decode cX12_cell 10 = .ok (.invokestatic 208, 3) := by decide +kernel
theorem gdX12_cell_13 : decode cX12_cell 13 = .ok (.ifCond .eq 13, 3) := by decide +kernel
theorem gdX12_cell_16 : decode cX12_cell 16 = .ok (.iload_n 3, 1) := by decide +kernel
theorem gdX12_cell_17 : decode cX12_cell 17 = .ok (.iconst 0, 1) := by decide +kernel
theorem gdX12_cell_18 : decode cX12_cell 18 = .ok (.bipush 99, 2) := by decide +kernel
theorem gdX12_cell_20 : decode cX12_cell 20 = .ok (.invokestatic 208, 3) := by decide +kernel
theorem gdX12_cell_23 : decode cX12_cell 23 = .ok (.ifCond .ne 5, 3) := by decide +kernel
theorem gdX12_cell_28 : decode cX12_cell 28 = .ok (.iload_n 2, 1) := by decide +kernel
theorem gdX12_cell_29 : decode cX12_cell 29 = .ok (.iconst 4, 1) := by decide +kernel
theorem gdX12_cell_30 : decode cX12_cell 30 = .ok (.if_icmp .ne 14, 3) := by decide +kernel
theorem gdX12_cell_33 : decode cX12_cell 33 = .ok (.aload_n 0, 1) := by decide +kernel
theorem gdX12_cell_34 : decode cX12_cell 34 = .ok (.iload_n 1, 1) := by decide +kernel
theorem gdX12_cell_35 : decode cX12_cell 35 = .ok (.invokevirtual 260, 3) := by decide +kernel
theorem gdX12_cell_38 : decode cX12_cell 38 = .ok (.ifCond .lt 6, 3) := by decide +kernel
theorem gdX12_cell_41 : decode cX12_cell 41 = .ok (.bipush (-4), 2) := by decide +kernel
theorem gdX12_cell_43 : decode cX12_cell 43 = .ok (.ireturn, 1) := by decide +kernel
theorem gdX12_isMark_0 : decode cX12_isMark 0 = .ok (.iload_n 1, 1) := by decide +kernel
theorem gdX12_isMark_1 : decode cX12_isMark 1 = .ok (.iconst 0, 1) := by decide +kernel
theorem gdX12_isMark_2 : decode cX12_isMark 2 = .ok (.aload_n 0, 1) := by decide +kernel
theorem gdX12_isMark_3 : decode cX12_isMark 3 = .ok (.getfield 305, 3) := by decide +kernel
theorem gdX12_isMark_6 : decode cX12_isMark 6 = .ok (.iconst 1, 1) := by decide +kernel
theorem gdX12_isMark_7 : decode cX12_isMark 7 = .ok (.isub, 1) := by decide +kernel
theorem gdX12_isMark_8 : decode cX12_isMark 8 = .ok (.invokestatic 208, 3) := by decide +kernel
theorem gdX12_isMark_11 : decode cX12_isMark 11 = .ok (.ireturn, 1) := by decide +kernel
theorem gdX12_isLine_25 : decode cX12_isLine 25 = .ok (.ireturn, 1) := by decide +kernel
theorem gdX12_isLine_20 : decode cX12_isLine 20 = .ok (.iconst 1, 1) := by decide +kernel
theorem gdX12_isLine_21 : decode cX12_isLine 21 = .ok (.goto 4, 3) := by decide +kernel
theorem gdX12_isLine_0 : decode cX12_isLine 0 = .ok (.aload_n 0, 1) := by decide +kernel
theorem gdX12_isLine_1 : decode cX12_isLine 1 = .ok (.getfield 83, 3) := by decide +kernel
theorem gdX12_isLine_4 : decode cX12_isLine 4 = .ok (.iload_n 1, 1) := by decide +kernel
theorem gdX12_isLine_5 : decode cX12_isLine 5 = .ok (.iaload, 1) := by decide +kernel
theorem gdX12_isLine_6 : decode cX12_isLine 6 = .ok (.iconst 1, 1) := by decide +kernel
theorem gdX12_isLine_7 : decode cX12_isLine 7 = .ok (.if_icmp .eq 13, 3) := by decide +kernel
theorem gdX12_isLine_10 : decode cX12_isLine 10 = .ok (.aload_n 0, 1) := by decide +kernel
theorem gdX12_isLine_11 : decode cX12_isLine 11 = .ok (.getfield 83, 3) := by decide +kernel
theorem gdX12_isLine_14 : decode cX12_isLine 14 = .ok (.iload_n 1, 1) := by decide +kernel
theorem gdX12_isLine_15 : decode cX12_isLine 15 = .ok (.iaload, 1) := by decide +kernel
theorem gdX12_isLine_16 : decode cX12_isLine 16 = .ok (.iconst 2, 1) := by decide +kernel
theorem gdX12_isLine_17 : decode cX12_isLine 17 = .ok (.if_icmp .ne 7, 3) := by decide +kernel
theorem gdX12_isLine_24 : decode cX12_isLine 24 = .ok (.iconst 0, 1) := by decide +kernel
theorem gdX12_askedLine_29 : decode cX12_askedLine 29 = .ok (.ireturn, 1) := by decide +kernel
theorem gdX12_askedLine_0 : decode cX12_askedLine 0 = .ok (.aload_n 0, 1) := by decide +kernel
theorem gdX12_askedLine_1 : decode cX12_askedLine 1 = .ok (.iload_n 1, 1) := by decide +kernel
theorem gdX12_askedLine_2 : decode cX12_askedLine 2 = .ok (.invokevirtual 308, 3) := by decide +kernel
theorem gdX12_askedLine_5 : decode cX12_askedLine 5 = .ok (.ifCond .ne 7, 3) := by decide +kernel
theorem gdX12_askedLine_12 : decode cX12_askedLine 12 = .ok (.aload_n 0, 1) := by decide +kernel
theorem gdX12_askedLine_13 : decode cX12_askedLine 13 = .ok (.iload_n 1, 1) := by decide +kernel
theorem gdX12_askedLine_14 : decode cX12_askedLine 14 = .ok (.invokevirtual 311, 3) := by decide +kernel
theorem gdX12_askedLine_17 : decode cX12_askedLine 17 = .ok (.ifCond .eq 7, 3) := by decide +kernel
theorem gdX12_askedLine_24 : decode cX12_askedLine 24 = .ok (.aload_n 0, 1) := by decide +kernel
theorem gdX12_askedLine_25 : decode cX12_askedLine 25 = .ok (.iconst 3, 1) := by decide +kernel
theorem gdX12_askedLine_26 : decode cX12_askedLine 26 = .ok (.invokevirtual 216, 3) := by decide +kernel
theorem gdX12_askedLine_20 : decode cX12_askedLine 20 = .ok (.iconst 0, 1) := by decide +kernel
theorem gdX12_askedLine_21 : decode cX12_askedLine 21 = .ok (.goto 8, 3) := by decide +kernel
theorem gdX12_askedLine_8 : decode cX12_askedLine 8 = .ok (.iconst (-1), 1) := by decide +kernel
theorem gdX12_askedLine_9 : decode cX12_askedLine 9 = .ok (.goto 20, 3) := by decide +kernel
theorem gdX12_cellOf_46 : decode cX12_cellOf 46 = .ok (.ireturn, 1) := by decide +kernel
theorem gdX12_cellOf_0 : decode cX12_cellOf 0 = .ok (.aload_n 0, 1) := by decide +kernel
theorem gdX12_cellOf_1 : decode cX12_cellOf 1 = .ok (.iload_n 1, 1) := by decide +kernel
theorem gdX12_cellOf_2 : decode cX12_cellOf 2 = .ok (.invokevirtual 348, 3) := by decide +kernel
theorem gdX12_cellOf_5 : decode cX12_cellOf 5 = .ok (.istore_n 3, 1) := by decide +kernel
theorem gdX12_cellOf_6 : decode cX12_cellOf 6 = .ok (.iload_n 3, 1) := by decide +kernel
theorem gdX12_cellOf_7 : decode cX12_cellOf 7 = .ok (.ifCond .ge 7, 3) := by decide +kernel
theorem gdX12_cellOf_14 : decode cX12_cellOf 14 = .ok (.iload_n 2, 1) := by decide +kernel
theorem gdX12_cellOf_15 : decode cX12_cellOf 15 = .ok (.iconst 0, 1) := by decide +kernel
theorem gdX12_cellOf_16 : decode cX12_cellOf 16 = .ok (.aload_n 0, 1) := by decide +kernel
theorem gdX12_cellOf_17 : decode cX12_cellOf 17 = .ok (.getfield 98, 3) := by decide +kernel
theorem gdX12_cellOf_20 : decode cX12_cellOf 20 = .ok (.iload_n 1, 1) := by decide +kernel
theorem gdX12_cellOf_21 : decode cX12_cellOf 21 = .ok (.iaload, 1) := by decide +kernel
theorem gdX12_cellOf_22 : decode cX12_cellOf 22 = .ok (.iconst 1, 1) := by decide +kernel
theorem gdX12_cellOf_23 : decode cX12_cellOf 23 = .ok (.isub, 1) := by decide +kernel
theorem gdX12_cellOf_24 : decode cX12_cellOf 24 = .ok (.invokestatic 208, 3) := by decide +kernel
theorem gdX12_cellOf_27 : decode cX12_cellOf 27 = .ok (.ifCond .eq 17, 3) := by decide +kernel
theorem gdX12_cellOf_44 : decode cX12_cellOf 44 = .ok (.bipush (-9), 2) := by decide +kernel
theorem gdX12_cellOf_30 : decode cX12_cellOf 30 = .ok (.aload_n 0, 1) := by decide +kernel
theorem gdX12_cellOf_31 : decode cX12_cellOf 31 = .ok (.getfield 101, 3) := by decide +kernel
theorem gdX12_cellOf_34 : decode cX12_cellOf 34 = .ok (.bipush 64, 2) := by decide +kernel
theorem gdX12_cellOf_36 : decode cX12_cellOf 36 = .ok (.iload_n 1, 1) := by decide +kernel
theorem gdX12_cellOf_37 : decode cX12_cellOf 37 = .ok (.imul, 1) := by decide +kernel
theorem gdX12_cellOf_38 : decode cX12_cellOf 38 = .ok (.iload_n 2, 1) := by decide +kernel
theorem gdX12_cellOf_39 : decode cX12_cellOf 39 = .ok (.iadd, 1) := by decide +kernel
theorem gdX12_cellOf_40 : decode cX12_cellOf 40 = .ok (.iaload, 1) := by decide +kernel
theorem gdX12_cellOf_41 : decode cX12_cellOf 41 = .ok (.goto 5, 3) := by decide +kernel
theorem gdX12_cellOf_10 : decode cX12_cellOf 10 = .ok (.iload_n 3, 1) := by decide +kernel
theorem gdX12_cellOf_11 : decode cX12_cellOf 11 = .ok (.goto 35, 3) := by decide +kernel
theorem gdX12_coins_0 : decode cX12_coins 0 = .ok (.aload_n 0, 1) := by decide +kernel
theorem gdX12_coins_1 : decode cX12_coins 1 = .ok (.getfield 413, 3) := by decide +kernel
theorem gdX12_coins_4 : decode cX12_coins 4 = .ok (.lreturn, 1) := by decide +kernel
theorem gdX12_copy_14 : decode cX12_copy 14 = .ok (.iconst (-1), 1) := by decide +kernel
theorem gdX12_copy_15 : decode cX12_copy 15 = .ok (.ireturn, 1) := by decide +kernel
theorem gdX12_copy_45 : decode cX12_copy 45 = .ok (.aload_n 0, 1) := by decide +kernel
theorem gdX12_copy_46 : decode cX12_copy 46 = .ok (.iconst 1, 1) := by decide +kernel
theorem gdX12_copy_47 : decode cX12_copy 47 = .ok (.invokevirtual 216, 3) := by decide +kernel
theorem gdX12_copy_50 : decode cX12_copy 50 = .ok (.ireturn, 1) := by decide +kernel
theorem gdX12_copy_95 : decode cX12_copy 95 = .ok (.aload_n 0, 1) := by decide +kernel
theorem gdX12_copy_96 : decode cX12_copy 96 = .ok (.iconst 2, 1) := by decide +kernel
theorem gdX12_copy_97 : decode cX12_copy 97 = .ok (.invokevirtual 216, 3) := by decide +kernel
theorem gdX12_copy_100 : decode cX12_copy 100 = .ok (.ireturn, 1) := by decide +kernel
theorem gdX12_copy_176 : decode cX12_copy 176 = .ok (.iconst 1, 1) := by decide +kernel
theorem gdX12_copy_177 : decode cX12_copy 177 = .ok (.ireturn, 1) := by decide +kernel
theorem gdX12_copy_141 : decode cX12_copy 141 = .ok (.iload 6, 2) := by decide +kernel
theorem gdX12_copy_143 : decode cX12_copy 143 = .ok (.iload 5, 2) := by decide +kernel
theorem gdX12_copy_145 : decode cX12_copy 145 = .ok (.if_icmp .ge 31, 3) := by decide +kernel
theorem gdX12_copy_148 : decode cX12_copy 148 = .ok (.aload_n 0, 1) := by decide +kernel
theorem gdX12_copy_149 : decode cX12_copy 149 = .ok (.getfield 16, 3) := by decide +kernel
theorem gdX12_copy_152 : decode cX12_copy 152 = .ok (.bipush 40, 2) := by decide +kernel
theorem gdX12_copy_154 : decode cX12_copy 154 = .ok (.iload_n 3, 1) := by decide +kernel
theorem gdX12_copy_155 : decode cX12_copy 155 = .ok (.imul, 1) := by decide +kernel
theorem gdX12_copy_156 : decode cX12_copy 156 = .ok (.iload 4, 2) := by decide +kernel
theorem gdX12_copy_158 : decode cX12_copy 158 = .ok (.iadd, 1) := by decide +kernel
theorem gdX12_copy_159 : decode cX12_copy 159 = .ok (.iload 6, 2) := by decide +kernel
theorem gdX12_copy_161 : decode cX12_copy 161 = .ok (.iadd, 1) := by decide +kernel
theorem gdX12_copy_162 : decode cX12_copy 162 = .ok (.aload_n 0, 1) := by decide +kernel
theorem gdX12_copy_163 : decode cX12_copy 163 = .ok (.getfield 19, 3) := by decide +kernel
theorem gdX12_copy_166 : decode cX12_copy 166 = .ok (.iload 6, 2) := by decide +kernel
theorem gdX12_copy_168 : decode cX12_copy 168 = .ok (.iaload, 1) := by decide +kernel
theorem gdX12_copy_169 : decode cX12_copy 169 = .ok (.iastore, 1) := by decide +kernel
theorem gdX12_copy_170 : decode cX12_copy 170 = .ok (.iinc 6 1, 3) := by decide +kernel
theorem gdX12_copy_173 : decode cX12_copy 173 = .ok (.goto (-32), 3) := by decide +kernel
theorem gdX12_copy_138 : decode cX12_copy 138 = .ok (.iconst 0, 1) := by decide +kernel
theorem gdX12_copy_139 : decode cX12_copy 139 = .ok (.istore 6, 2) := by decide +kernel
theorem gdX12_copy_104 : decode cX12_copy 104 = .ok (.iload 6, 2) := by decide +kernel
theorem gdX12_copy_106 : decode cX12_copy 106 = .ok (.iload 5, 2) := by decide +kernel
theorem gdX12_copy_108 : decode cX12_copy 108 = .ok (.if_icmp .ge 30, 3) := by decide +kernel
theorem gdX12_copy_111 : decode cX12_copy 111 = .ok (.aload_n 0, 1) := by decide +kernel
theorem gdX12_copy_112 : decode cX12_copy 112 = .ok (.getfield 19, 3) := by decide +kernel
theorem gdX12_copy_115 : decode cX12_copy 115 = .ok (.iload 6, 2) := by decide +kernel
theorem gdX12_copy_117 : decode cX12_copy 117 = .ok (.aload_n 0, 1) := by decide +kernel
theorem gdX12_copy_118 : decode cX12_copy 118 = .ok (.getfield 16, 3) := by decide +kernel
theorem gdX12_copy_121 : decode cX12_copy 121 = .ok (.bipush 40, 2) := by decide +kernel
theorem gdX12_copy_123 : decode cX12_copy 123 = .ok (.iload_n 1, 1) := by decide +kernel
theorem gdX12_copy_124 : decode cX12_copy 124 = .ok (.imul, 1) := by decide +kernel
theorem gdX12_copy_125 : decode cX12_copy 125 = .ok (.iload_n 2, 1) := by decide +kernel
theorem gdX12_copy_126 : decode cX12_copy 126 = .ok (.iadd, 1) := by decide +kernel
theorem gdX12_copy_127 : decode cX12_copy 127 = .ok (.iload 6, 2) := by decide +kernel
theorem gdX12_copy_129 : decode cX12_copy 129 = .ok (.iadd, 1) := by decide +kernel
theorem gdX12_copy_130 : decode cX12_copy 130 = .ok (.iaload, 1) := by decide +kernel
theorem gdX12_copy_131 : decode cX12_copy 131 = .ok (.iastore, 1) := by decide +kernel
theorem gdX12_copy_132 : decode cX12_copy 132 = .ok (.iinc 6 1, 3) := by decide +kernel
theorem gdX12_copy_135 : decode cX12_copy 135 = .ok (.goto (-31), 3) := by decide +kernel
theorem gdX12_copy_0 : decode cX12_copy 0 = .ok (.iload_n 1, 1) := by decide +kernel
theorem gdX12_copy_1 : decode cX12_copy 1 = .ok (.invokestatic 212, 3) := by decide +kernel
theorem gdX12_copy_4 : decode cX12_copy 4 = .ok (.ifCond .eq 10, 3) := by decide +kernel
theorem gdX12_copy_7 : decode cX12_copy 7 = .ok (.iload_n 3, 1) := by decide +kernel
theorem gdX12_copy_8 : decode cX12_copy 8 = .ok (.invokestatic 212, 3) := by decide +kernel
theorem gdX12_copy_11 : decode cX12_copy 11 = .ok (.ifCond .ne 5, 3) := by decide +kernel
theorem gdX12_copy_16 : decode cX12_copy 16 = .ok (.iload 5, 2) := by decide +kernel
theorem gdX12_copy_18 : decode cX12_copy 18 = .ok (.ifCond .ge 9, 3) := by decide +kernel
theorem gdX12_copy_27 : decode cX12_copy 27 = .ok (.aload_n 0, 1) := by decide +kernel
theorem gdX12_copy_28 : decode cX12_copy 28 = .ok (.getfield 13, 3) := by decide +kernel
theorem gdX12_copy_31 : decode cX12_copy 31 = .ok (.iload_n 1, 1) := by decide +kernel
theorem gdX12_copy_32 : decode cX12_copy 32 = .ok (.iaload, 1) := by decide +kernel
theorem gdX12_copy_33 : decode cX12_copy 33 = .ok (.ifCond .lt 12, 3) := by decide +kernel
theorem gdX12_copy_36 : decode cX12_copy 36 = .ok (.aload_n 0, 1) := by decide +kernel
theorem gdX12_copy_37 : decode cX12_copy 37 = .ok (.getfield 13, 3) := by decide +kernel
theorem gdX12_copy_40 : decode cX12_copy 40 = .ok (.iload_n 3, 1) := by decide +kernel
theorem gdX12_copy_41 : decode cX12_copy 41 = .ok (.iaload, 1) := by decide +kernel
theorem gdX12_copy_42 : decode cX12_copy 42 = .ok (.ifCond .ge 9, 3) := by decide +kernel
theorem gdX12_copy_51 : decode cX12_copy 51 = .ok (.iload_n 2, 1) := by decide +kernel
theorem gdX12_copy_52 : decode cX12_copy 52 = .ok (.ifCond .lt 43, 3) := by decide +kernel
theorem gdX12_copy_55 : decode cX12_copy 55 = .ok (.iload 4, 2) := by decide +kernel
theorem gdX12_copy_57 : decode cX12_copy 57 = .ok (.ifCond .lt 38, 3) := by decide +kernel
theorem gdX12_copy_60 : decode cX12_copy 60 = .ok (.iload_n 2, 1) := by decide +kernel
theorem gdX12_copy_61 : decode cX12_copy 61 = .ok (.i2l, 1) := by decide +kernel
theorem gdX12_copy_62 : decode cX12_copy 62 = .ok (.iload 5, 2) := by decide +kernel
theorem gdX12_copy_64 : decode cX12_copy 64 = .ok (.i2l, 1) := by decide +kernel
theorem gdX12_copy_65 : decode cX12_copy 65 = .ok (.ladd, 1) := by decide +kernel
theorem gdX12_copy_66 : decode cX12_copy 66 = .ok (.aload_n 0, 1) := by decide +kernel
theorem gdX12_copy_67 : decode cX12_copy 67 = .ok (.getfield 13, 3) := by decide +kernel
theorem gdX12_copy_70 : decode cX12_copy 70 = .ok (.iload_n 1, 1) := by decide +kernel
theorem gdX12_copy_71 : decode cX12_copy 71 = .ok (.iaload, 1) := by decide +kernel
theorem gdX12_copy_72 : decode cX12_copy 72 = .ok (.i2l, 1) := by decide +kernel
theorem gdX12_copy_73 : decode cX12_copy 73 = .ok (.lcmp, 1) := by decide +kernel
theorem gdX12_copy_74 : decode cX12_copy 74 = .ok (.ifCond .gt 21, 3) := by decide +kernel
theorem gdX12_copy_77 : decode cX12_copy 77 = .ok (.iload 4, 2) := by decide +kernel
theorem gdX12_copy_79 : decode cX12_copy 79 = .ok (.i2l, 1) := by decide +kernel
theorem gdX12_copy_80 : decode cX12_copy 80 = .ok (.iload 5, 2) := by decide +kernel
theorem gdX12_copy_82 : decode cX12_copy 82 = .ok (.i2l, 1) := by decide +kernel
theorem gdX12_copy_83 : decode cX12_copy 83 = .ok (.ladd, 1) := by decide +kernel
theorem gdX12_copy_84 : decode cX12_copy 84 = .ok (.aload_n 0, 1) := by decide +kernel
theorem gdX12_copy_85 : decode cX12_copy 85 = .ok (.getfield 13, 3) := by decide +kernel
theorem gdX12_copy_88 : decode cX12_copy 88 = .ok (.iload_n 3, 1) := by decide +kernel
theorem gdX12_copy_89 : decode cX12_copy 89 = .ok (.iaload, 1) := by decide +kernel
theorem gdX12_copy_90 : decode cX12_copy 90 = .ok (.i2l, 1) := by decide +kernel
theorem gdX12_copy_91 : decode cX12_copy 91 = .ok (.lcmp, 1) := by decide +kernel
theorem gdX12_copy_92 : decode cX12_copy 92 = .ok (.ifCond .le 9, 3) := by decide +kernel
theorem gdX12_copy_101 : decode cX12_copy 101 = .ok (.iconst 0, 1) := by decide +kernel
theorem gdX12_copy_102 : decode cX12_copy 102 = .ok (.istore 6, 2) := by decide +kernel
theorem gdX12_copy_21 : decode cX12_copy 21 = .ok (.aload_n 0, 1) := by decide +kernel
theorem gdX12_copy_22 : decode cX12_copy 22 = .ok (.iconst 5, 1) := by decide +kernel
theorem gdX12_copy_23 : decode cX12_copy 23 = .ok (.invokevirtual 216, 3) := by decide +kernel
theorem gdX12_copy_26 : decode cX12_copy 26 = .ok (.ireturn, 1) := by decide +kernel
theorem gdX12_cost_20 : decode cX12_cost 20 = .ok (.ireturn, 1) := by decide +kernel
theorem gdX12_cost_0 : decode cX12_cost 0 = .ok (.aload_n 0, 1) := by decide +kernel
theorem gdX12_cost_1 : decode cX12_cost 1 = .ok (.iload_n 1, 1) := by decide +kernel
theorem gdX12_cost_2 : decode cX12_cost 2 = .ok (.invokevirtual 348, 3) := by decide +kernel
theorem gdX12_cost_5 : decode cX12_cost 5 = .ok (.istore_n 2, 1) := by decide +kernel
theorem gdX12_cost_6 : decode cX12_cost 6 = .ok (.iload_n 2, 1) := by decide +kernel
theorem gdX12_cost_7 : decode cX12_cost 7 = .ok (.ifCond .ge 7, 3) := by decide +kernel
theorem gdX12_cost_14 : decode cX12_cost 14 = .ok (.aload_n 0, 1) := by decide +kernel
theorem gdX12_cost_15 : decode cX12_cost 15 = .ok (.getfield 92, 3) := by decide +kernel
theorem gdX12_cost_18 : decode cX12_cost 18 = .ok (.iload_n 1, 1) := by decide +kernel
theorem gdX12_cost_19 : decode cX12_cost 19 = .ok (.iaload, 1) := by decide +kernel
theorem gdX12_cost_10 : decode cX12_cost 10 = .ok (.iload_n 2, 1) := by decide +kernel
theorem gdX12_cost_11 : decode cX12_cost 11 = .ok (.goto 9, 3) := by decide +kernel
theorem gdX12_counts_90 : decode cX12_counts 90 = .ok (.iload_n 2, 1) := by decide +kernel
theorem gdX12_counts_91 : decode cX12_counts 91 = .ok (.ireturn, 1) := by decide +kernel
theorem gdX12_counts_82 : decode cX12_counts 82 = .ok (.iadd, 1) := by decide +kernel
theorem gdX12_counts_83 : decode cX12_counts 83 = .ok (.istore_n 2, 1) := by decide +kernel
theorem gdX12_counts_84 : decode cX12_counts 84 = .ok (.iinc 3 1, 3) := by decide +kernel
theorem gdX12_counts_87 : decode cX12_counts 87 = .ok (.goto (-28), 3) := by decide +kernel
theorem gdX12_counts_59 : decode cX12_counts 59 = .ok (.iload_n 3, 1) := by decide +kernel
theorem gdX12_counts_60 : decode cX12_counts 60 = .ok (.aload_n 0, 1) := by decide +kernel
theorem gdX12_counts_61 : decode cX12_counts 61 = .ok (.getfield 254, 3) := by decide +kernel
theorem gdX12_counts_64 : decode cX12_counts 64 = .ok (.if_icmp .ge 26, 3) := by decide +kernel
theorem gdX12_counts_67 : decode cX12_counts 67 = .ok (.iload_n 2, 1) := by decide +kernel
theorem gdX12_counts_68 : decode cX12_counts 68 = .ok (.aload_n 0, 1) := by decide +kernel
theorem gdX12_counts_69 : decode cX12_counts 69 = .ok (.getfield 55, 3) := by decide +kernel
theorem gdX12_counts_72 : decode cX12_counts 72 = .ok (.iload_n 3, 1) := by decide +kernel
theorem gdX12_counts_73 : decode cX12_counts 73 = .ok (.baload, 1) := by decide +kernel
theorem gdX12_counts_74 : decode cX12_counts 74 = .ok (.ifCond .eq 7, 3) := by decide +kernel
theorem gdX12_counts_81 : decode cX12_counts 81 = .ok (.iconst 1, 1) := by decide +kernel
theorem gdX12_counts_77 : decode cX12_counts 77 = .ok (.iconst 0, 1) := by decide +kernel
theorem gdX12_counts_78 : decode cX12_counts 78 = .ok (.goto 4, 3) := by decide +kernel
theorem gdX12_counts_130 : decode cX12_counts 130 = .ok (.iload_n 2, 1) := by decide +kernel
theorem gdX12_counts_131 : decode cX12_counts 131 = .ok (.ireturn, 1) := by decide +kernel
theorem gdX12_counts_122 : decode cX12_counts 122 = .ok (.iadd, 1) := by decide +kernel
theorem gdX12_counts_123 : decode cX12_counts 123 = .ok (.istore_n 2, 1) := by decide +kernel
theorem gdX12_counts_124 : decode cX12_counts 124 = .ok (.iinc 3 1, 3) := by decide +kernel
theorem gdX12_counts_127 : decode cX12_counts 127 = .ok (.goto (-28), 3) := by decide +kernel
theorem gdX12_counts_99 : decode cX12_counts 99 = .ok (.iload_n 3, 1) := by decide +kernel
theorem gdX12_counts_100 : decode cX12_counts 100 = .ok (.aload_n 0, 1) := by decide +kernel
theorem gdX12_counts_101 : decode cX12_counts 101 = .ok (.getfield 281, 3) := by decide +kernel
theorem gdX12_counts_104 : decode cX12_counts 104 = .ok (.if_icmp .ge 26, 3) := by decide +kernel
theorem gdX12_counts_107 : decode cX12_counts 107 = .ok (.iload_n 2, 1) := by decide +kernel
theorem gdX12_counts_108 : decode cX12_counts 108 = .ok (.aload_n 0, 1) := by decide +kernel
theorem gdX12_counts_109 : decode cX12_counts 109 = .ok (.getfield 71, 3) := by decide +kernel
theorem gdX12_counts_112 : decode cX12_counts 112 = .ok (.iload_n 3, 1) := by decide +kernel
theorem gdX12_counts_113 : decode cX12_counts 113 = .ok (.iaload, 1) := by decide +kernel
theorem gdX12_counts_114 : decode cX12_counts 114 = .ok (.ifCond .ge 7, 3) := by decide +kernel
theorem gdX12_counts_121 : decode cX12_counts 121 = .ok (.iconst 0, 1) := by decide +kernel
theorem gdX12_counts_117 : decode cX12_counts 117 = .ok (.iconst 1, 1) := by decide +kernel
theorem gdX12_counts_118 : decode cX12_counts 118 = .ok (.goto 4, 3) := by decide +kernel
theorem gdX12_counts_183 : decode cX12_counts 183 = .ok (.iload_n 2, 1) := by decide +kernel
theorem gdX12_counts_184 : decode cX12_counts 184 = .ok (.ireturn, 1) := by decide +kernel
theorem gdX12_counts_175 : decode cX12_counts 175 = .ok (.iadd, 1) := by decide +kernel
theorem gdX12_counts_176 : decode cX12_counts 176 = .ok (.istore_n 2, 1) := by decide +kernel
theorem gdX12_counts_177 : decode cX12_counts 177 = .ok (.iinc 3 1, 3) := by decide +kernel
theorem gdX12_counts_180 : decode cX12_counts 180 = .ok (.goto (-26), 3) := by decide +kernel
theorem gdX12_counts_154 : decode cX12_counts 154 = .ok (.iload_n 3, 1) := by decide +kernel
theorem gdX12_counts_155 : decode cX12_counts 155 = .ok (.bipush 6, 2) := by decide +kernel
theorem gdX12_counts_157 : decode cX12_counts 157 = .ok (.if_icmp .ge 26, 3) := by decide +kernel
theorem gdX12_counts_160 : decode cX12_counts 160 = .ok (.iload_n 2, 1) := by decide +kernel
theorem gdX12_counts_161 : decode cX12_counts 161 = .ok (.aload_n 0, 1) := by decide +kernel
theorem gdX12_counts_162 : decode cX12_counts 162 = .ok (.getfield 13, 3) := by decide +kernel
theorem gdX12_counts_165 : decode cX12_counts 165 = .ok (.iload_n 3, 1) := by decide +kernel
theorem gdX12_counts_166 : decode cX12_counts 166 = .ok (.iaload, 1) := by decide +kernel
theorem gdX12_counts_167 : decode cX12_counts 167 = .ok (.ifCond .lt 7, 3) := by decide +kernel
theorem gdX12_counts_174 : decode cX12_counts 174 = .ok (.iconst 0, 1) := by decide +kernel
theorem gdX12_counts_170 : decode cX12_counts 170 = .ok (.iconst 1, 1) := by decide +kernel
theorem gdX12_counts_171 : decode cX12_counts 171 = .ok (.goto 4, 3) := by decide +kernel
theorem gdX12_counts_215 : decode cX12_counts 215 = .ok (.iload_n 2, 1) := by decide +kernel
theorem gdX12_counts_216 : decode cX12_counts 216 = .ok (.ireturn, 1) := by decide +kernel
theorem gdX12_counts_207 : decode cX12_counts 207 = .ok (.iadd, 1) := by decide +kernel
theorem gdX12_counts_208 : decode cX12_counts 208 = .ok (.istore_n 2, 1) := by decide +kernel
theorem gdX12_counts_209 : decode cX12_counts 209 = .ok (.iinc 3 1, 3) := by decide +kernel
theorem gdX12_counts_212 : decode cX12_counts 212 = .ok (.goto (-25), 3) := by decide +kernel
theorem gdX12_counts_187 : decode cX12_counts 187 = .ok (.iload_n 3, 1) := by decide +kernel
theorem gdX12_counts_188 : decode cX12_counts 188 = .ok (.iconst 4, 1) := by decide +kernel
theorem gdX12_counts_189 : decode cX12_counts 189 = .ok (.if_icmp .ge 26, 3) := by decide +kernel
theorem gdX12_counts_192 : decode cX12_counts 192 = .ok (.iload_n 2, 1) := by decide +kernel
theorem gdX12_counts_193 : decode cX12_counts 193 = .ok (.aload_n 0, 1) := by decide +kernel
theorem gdX12_counts_194 : decode cX12_counts 194 = .ok (.getfield 22, 3) := by decide +kernel
theorem gdX12_counts_197 : decode cX12_counts 197 = .ok (.iload_n 3, 1) := by decide +kernel
theorem gdX12_counts_198 : decode cX12_counts 198 = .ok (.iaload, 1) := by decide +kernel
theorem gdX12_counts_199 : decode cX12_counts 199 = .ok (.ifCond .lt 7, 3) := by decide +kernel
theorem gdX12_counts_206 : decode cX12_counts 206 = .ok (.iconst 0, 1) := by decide +kernel
theorem gdX12_counts_202 : decode cX12_counts 202 = .ok (.iconst 1, 1) := by decide +kernel
theorem gdX12_counts_203 : decode cX12_counts 203 = .ok (.goto 4, 3) := by decide +kernel
theorem gdX12_counts_0 : decode cX12_counts 0 = .ok (.iconst 0, 1) := by decide +kernel
theorem gdX12_counts_1 : decode cX12_counts 1 = .ok (.istore_n 2, 1) := by decide +kernel
theorem gdX12_counts_2 : decode cX12_counts 2 = .ok (.iload_n 1, 1) := by decide +kernel
theorem gdX12_counts_3 : decode cX12_counts 3 = .ok (.tableswitch 182 0 8 #[49, 54, 89, 94, 129, 134, 139, 144, 149], 49) := by decide +kernel
theorem gdX12_counts_52 : decode cX12_counts 52 = .ok (.aload_n 0, 1) := by decide +kernel
theorem gdX12_counts_53 : decode cX12_counts 53 = .ok (.getfield 229, 3) := by decide +kernel
theorem gdX12_counts_56 : decode cX12_counts 56 = .ok (.ireturn, 1) := by decide +kernel
theorem gdX12_counts_57 : decode cX12_counts 57 = .ok (.iconst 0, 1) := by decide +kernel
theorem gdX12_counts_58 : decode cX12_counts 58 = .ok (.istore_n 3, 1) := by decide +kernel
theorem gdX12_counts_92 : decode cX12_counts 92 = .ok (.aload_n 0, 1) := by decide +kernel
theorem gdX12_counts_93 : decode cX12_counts 93 = .ok (.getfield 281, 3) := by decide +kernel
theorem gdX12_counts_96 : decode cX12_counts 96 = .ok (.ireturn, 1) := by decide +kernel
theorem gdX12_counts_97 : decode cX12_counts 97 = .ok (.iconst 0, 1) := by decide +kernel
theorem gdX12_counts_98 : decode cX12_counts 98 = .ok (.istore_n 3, 1) := by decide +kernel
theorem gdX12_counts_132 : decode cX12_counts 132 = .ok (.aload_n 0, 1) := by decide +kernel
theorem gdX12_counts_133 : decode cX12_counts 133 = .ok (.getfield 241, 3) := by decide +kernel
theorem gdX12_counts_136 : decode cX12_counts 136 = .ok (.ireturn, 1) := by decide +kernel
theorem gdX12_counts_137 : decode cX12_counts 137 = .ok (.aload_n 0, 1) := by decide +kernel
theorem gdX12_counts_138 : decode cX12_counts 138 = .ok (.getfield 305, 3) := by decide +kernel
theorem gdX12_counts_141 : decode cX12_counts 141 = .ok (.ireturn, 1) := by decide +kernel
theorem gdX12_counts_142 : decode cX12_counts 142 = .ok (.aload_n 0, 1) := by decide +kernel
theorem gdX12_counts_143 : decode cX12_counts 143 = .ok (.getfield 368, 3) := by decide +kernel
theorem gdX12_counts_146 : decode cX12_counts 146 = .ok (.ireturn, 1) := by decide +kernel
theorem gdX12_counts_147 : decode cX12_counts 147 = .ok (.aload_n 0, 1) := by decide +kernel
theorem gdX12_counts_148 : decode cX12_counts 148 = .ok (.getfield 263, 3) := by decide +kernel
theorem gdX12_counts_151 : decode cX12_counts 151 = .ok (.ireturn, 1) := by decide +kernel
theorem gdX12_counts_152 : decode cX12_counts 152 = .ok (.iconst 0, 1) := by decide +kernel
theorem gdX12_counts_153 : decode cX12_counts 153 = .ok (.istore_n 3, 1) := by decide +kernel
theorem gdX12_counts_185 : decode cX12_counts 185 = .ok (.iconst 0, 1) := by decide +kernel
theorem gdX12_counts_186 : decode cX12_counts 186 = .ok (.istore_n 3, 1) := by decide +kernel
theorem gdX12_count_19 : decode cX12_count 19 = .ok (.ireturn, 1) := by decide +kernel
theorem gdX12_count_0 : decode cX12_count 0 = .ok (.iload_n 1, 1) := by decide +kernel
theorem gdX12_count_1 : decode cX12_count 1 = .ok (.iconst 0, 1) := by decide +kernel
theorem gdX12_count_2 : decode cX12_count 2 = .ok (.bipush 9, 2) := by decide +kernel
theorem gdX12_count_4 : decode cX12_count 4 = .ok (.invokestatic 208, 3) := by decide +kernel
theorem gdX12_count_7 : decode cX12_count 7 = .ok (.ifCond .eq 11, 3) := by decide +kernel
theorem gdX12_count_18 : decode cX12_count 18 = .ok (.iconst (-1), 1) := by decide +kernel
theorem gdX12_count_10 : decode cX12_count 10 = .ok (.aload_n 0, 1) := by decide +kernel
theorem gdX12_count_11 : decode cX12_count 11 = .ok (.iload_n 1, 1) := by decide +kernel
theorem gdX12_count_12 : decode cX12_count 12 = .ok (.invokevirtual 443, 3) := by decide +kernel
theorem gdX12_count_15 : decode cX12_count 15 = .ok (.goto 4, 3) := by decide +kernel
theorem gdX12_mix_0 : decode cX12_mix 0 = .ok (.aload_n 0, 1) := by decide +kernel
theorem gdX12_mix_1 : decode cX12_mix 1 = .ok (.ldc2_w 446, 3) := by decide +kernel
theorem gdX12_mix_4 : decode cX12_mix 4 = .ok (.aload_n 0, 1) := by decide +kernel
theorem gdX12_mix_5 : decode cX12_mix 5 = .ok (.getfield 448, 3) := by decide +kernel
theorem gdX12_mix_8 : decode cX12_mix 8 = .ok (.lmul, 1) := by decide +kernel
theorem gdX12_mix_9 : decode cX12_mix 9 = .ok (.iload_n 1, 1) := by decide +kernel
theorem gdX12_mix_10 : decode cX12_mix 10 = .ok (.i2l, 1) := by decide +kernel
theorem gdX12_mix_11 : decode cX12_mix 11 = .ok (.ladd, 1) := by decide +kernel
theorem gdX12_mix_12 : decode cX12_mix 12 = .ok (.putfield 448, 3) := by decide +kernel
theorem gdX12_mix_15 : decode cX12_mix 15 = .ok (.return_, 1) := by decide +kernel
theorem gdX12_houseTells_77 : decode cX12_houseTells 77 = .ok (.ireturn, 1) := by decide +kernel
theorem gdX12_houseTells_0 : decode cX12_houseTells 0 = .ok (.iload_n 2, 1) := by decide +kernel
theorem gdX12_houseTells_1 : decode cX12_houseTells 1 = .ok (.tableswitch 77 0 4 #[35, 42, 49, 56, 62], 35) := by decide +kernel
theorem gdX12_houseTells_36 : decode cX12_houseTells 36 = .ok (.aload_n 0, 1) := by decide +kernel
theorem gdX12_houseTells_37 : decode cX12_houseTells 37 = .ok (.getfield 46, 3) := by decide +kernel
theorem gdX12_houseTells_40 : decode cX12_houseTells 40 = .ok (.iload_n 1, 1) := by decide +kernel
theorem gdX12_houseTells_41 : decode cX12_houseTells 41 = .ok (.iaload, 1) := by decide +kernel
theorem gdX12_houseTells_42 : decode cX12_houseTells 42 = .ok (.ireturn, 1) := by decide +kernel
theorem gdX12_houseTells_43 : decode cX12_houseTells 43 = .ok (.aload_n 0, 1) := by decide +kernel
theorem gdX12_houseTells_44 : decode cX12_houseTells 44 = .ok (.getfield 49, 3) := by decide +kernel
theorem gdX12_houseTells_47 : decode cX12_houseTells 47 = .ok (.iload_n 1, 1) := by decide +kernel
theorem gdX12_houseTells_48 : decode cX12_houseTells 48 = .ok (.iaload, 1) := by decide +kernel
theorem gdX12_houseTells_49 : decode cX12_houseTells 49 = .ok (.ireturn, 1) := by decide +kernel
theorem gdX12_houseTells_50 : decode cX12_houseTells 50 = .ok (.aload_n 0, 1) := by decide +kernel
theorem gdX12_houseTells_51 : decode cX12_houseTells 51 = .ok (.getfield 52, 3) := by decide +kernel
theorem gdX12_houseTells_54 : decode cX12_houseTells 54 = .ok (.iload_n 1, 1) := by decide +kernel
theorem gdX12_houseTells_55 : decode cX12_houseTells 55 = .ok (.iaload, 1) := by decide +kernel
theorem gdX12_houseTells_56 : decode cX12_houseTells 56 = .ok (.ireturn, 1) := by decide +kernel
theorem gdX12_houseTells_57 : decode cX12_houseTells 57 = .ok (.aload_n 0, 1) := by decide +kernel
theorem gdX12_houseTells_58 : decode cX12_houseTells 58 = .ok (.iload_n 1, 1) := by decide +kernel
theorem gdX12_houseTells_59 : decode cX12_houseTells 59 = .ok (.invokevirtual 284, 3) := by decide +kernel
theorem gdX12_houseTells_62 : decode cX12_houseTells 62 = .ok (.ireturn, 1) := by decide +kernel
theorem gdX12_houseTells_63 : decode cX12_houseTells 63 = .ok (.aload_n 0, 1) := by decide +kernel
theorem gdX12_houseTells_64 : decode cX12_houseTells 64 = .ok (.getfield 55, 3) := by decide +kernel
theorem gdX12_houseTells_67 : decode cX12_houseTells 67 = .ok (.iload_n 1, 1) := by decide +kernel
theorem gdX12_houseTells_68 : decode cX12_houseTells 68 = .ok (.baload, 1) := by decide +kernel
theorem gdX12_houseTells_69 : decode cX12_houseTells 69 = .ok (.ifCond .eq 7, 3) := by decide +kernel
theorem gdX12_houseTells_76 : decode cX12_houseTells 76 = .ok (.iconst 0, 1) := by decide +kernel
theorem gdX12_houseTells_72 : decode cX12_houseTells 72 = .ok (.iconst 1, 1) := by decide +kernel
theorem gdX12_houseTells_73 : decode cX12_houseTells 73 = .ok (.goto 4, 3) := by decide +kernel
theorem gdX12_houseTells_78 : decode cX12_houseTells 78 = .ok (.aload_n 0, 1) := by decide +kernel
theorem gdX12_houseTells_79 : decode cX12_houseTells 79 = .ok (.getfield 59, 3) := by decide +kernel
theorem gdX12_houseTells_82 : decode cX12_houseTells 82 = .ok (.iload_n 1, 1) := by decide +kernel
theorem gdX12_houseTells_83 : decode cX12_houseTells 83 = .ok (.iaload, 1) := by decide +kernel
theorem gdX12_houseTells_84 : decode cX12_houseTells 84 = .ok (.ireturn, 1) := by decide +kernel
theorem gdX12_valueOf_55 : decode cX12_valueOf 55 = .ok (.iload_n 3, 1) := by decide +kernel
theorem gdX12_valueOf_56 : decode cX12_valueOf 56 = .ok (.ireturn, 1) := by decide +kernel
theorem gdX12_valueOf_48 : decode cX12_valueOf 48 = .ok (.istore_n 3, 1) := by decide +kernel
theorem gdX12_valueOf_49 : decode cX12_valueOf 49 = .ok (.iinc 4 1, 3) := by decide +kernel
theorem gdX12_valueOf_52 : decode cX12_valueOf 52 = .ok (.goto (-46), 3) := by decide +kernel
theorem gdX12_valueOf_47 : decode cX12_valueOf 47 = .ok (.iload_n 3, 1) := by decide +kernel
theorem gdX12_valueOf_6 : decode cX12_valueOf 6 = .ok (.iload 4, 2) := by decide +kernel
theorem gdX12_valueOf_8 : decode cX12_valueOf 8 = .ok (.aload_n 0, 1) := by decide +kernel
theorem gdX12_valueOf_9 : decode cX12_valueOf 9 = .ok (.getfield 263, 3) := by decide +kernel
theorem gdX12_valueOf_12 : decode cX12_valueOf 12 = .ok (.if_icmp .ge 43, 3) := by decide +kernel
theorem gdX12_valueOf_15 : decode cX12_valueOf 15 = .ok (.aload_n 0, 1) := by decide +kernel
theorem gdX12_valueOf_16 : decode cX12_valueOf 16 = .ok (.getfield 62, 3) := by decide +kernel
theorem gdX12_valueOf_19 : decode cX12_valueOf 19 = .ok (.iload 4, 2) := by decide +kernel
theorem gdX12_valueOf_21 : decode cX12_valueOf 21 = .ok (.iaload, 1) := by decide +kernel
theorem gdX12_valueOf_22 : decode cX12_valueOf 22 = .ok (.iload_n 1, 1) := by decide +kernel
theorem gdX12_valueOf_23 : decode cX12_valueOf 23 = .ok (.if_icmp .ne 24, 3) := by decide +kernel
theorem gdX12_valueOf_26 : decode cX12_valueOf 26 = .ok (.aload_n 0, 1) := by decide +kernel
theorem gdX12_valueOf_27 : decode cX12_valueOf 27 = .ok (.getfield 65, 3) := by decide +kernel
theorem gdX12_valueOf_30 : decode cX12_valueOf 30 = .ok (.iload 4, 2) := by decide +kernel
theorem gdX12_valueOf_32 : decode cX12_valueOf 32 = .ok (.iaload, 1) := by decide +kernel
theorem gdX12_valueOf_33 : decode cX12_valueOf 33 = .ok (.iload_n 2, 1) := by decide +kernel
theorem gdX12_valueOf_34 : decode cX12_valueOf 34 = .ok (.if_icmp .gt 13, 3) := by decide +kernel
theorem gdX12_valueOf_37 : decode cX12_valueOf 37 = .ok (.aload_n 0, 1) := by decide +kernel
theorem gdX12_valueOf_38 : decode cX12_valueOf 38 = .ok (.getfield 68, 3) := by decide +kernel
theorem gdX12_valueOf_41 : decode cX12_valueOf 41 = .ok (.iload 4, 2) := by decide +kernel
theorem gdX12_valueOf_43 : decode cX12_valueOf 43 = .ok (.iaload, 1) := by decide +kernel
theorem gdX12_valueOf_44 : decode cX12_valueOf 44 = .ok (.goto 4, 3) := by decide +kernel
theorem gdX12_valueOf_0 : decode cX12_valueOf 0 = .ok (.bipush (-9), 2) := by decide +kernel
theorem gdX12_valueOf_2 : decode cX12_valueOf 2 = .ok (.istore_n 3, 1) := by decide +kernel
theorem gdX12_valueOf_3 : decode cX12_valueOf 3 = .ok (.iconst 0, 1) := by decide +kernel
theorem gdX12_valueOf_4 : decode cX12_valueOf 4 = .ok (.istore 4, 2) := by decide +kernel
theorem gdX12_personTells_55 : decode cX12_personTells 55 = .ok (.ireturn, 1) := by decide +kernel
theorem gdX12_personTells_0 : decode cX12_personTells 0 = .ok (.iload_n 2, 1) := by decide +kernel
theorem gdX12_personTells_1 : decode cX12_personTells 1 = .ok (.ifCond .ne 12, 3) := by decide +kernel
theorem gdX12_personTells_13 : decode cX12_personTells 13 = .ok (.iload_n 2, 1) := by decide +kernel
theorem gdX12_personTells_14 : decode cX12_personTells 14 = .ok (.iconst 1, 1) := by decide +kernel
theorem gdX12_personTells_15 : decode cX12_personTells 15 = .ok (.if_icmp .ne 12, 3) := by decide +kernel
theorem gdX12_personTells_27 : decode cX12_personTells 27 = .ok (.iload_n 2, 1) := by decide +kernel
theorem gdX12_personTells_28 : decode cX12_personTells 28 = .ok (.iconst 2, 1) := by decide +kernel
theorem gdX12_personTells_29 : decode cX12_personTells 29 = .ok (.if_icmp .ne 20, 3) := by decide +kernel
theorem gdX12_personTells_49 : decode cX12_personTells 49 = .ok (.aload_n 0, 1) := by decide +kernel
theorem gdX12_personTells_50 : decode cX12_personTells 50 = .ok (.getfield 80, 3) := by decide +kernel
theorem gdX12_personTells_53 : decode cX12_personTells 53 = .ok (.iload_n 1, 1) := by decide +kernel
theorem gdX12_personTells_54 : decode cX12_personTells 54 = .ok (.iaload, 1) := by decide +kernel
theorem gdX12_personTells_32 : decode cX12_personTells 32 = .ok (.aload_n 0, 1) := by decide +kernel
theorem gdX12_personTells_33 : decode cX12_personTells 33 = .ok (.getfield 77, 3) := by decide +kernel
theorem gdX12_personTells_36 : decode cX12_personTells 36 = .ok (.iload_n 1, 1) := by decide +kernel
theorem gdX12_personTells_37 : decode cX12_personTells 37 = .ok (.baload, 1) := by decide +kernel
theorem gdX12_personTells_38 : decode cX12_personTells 38 = .ok (.ifCond .eq 7, 3) := by decide +kernel
theorem gdX12_personTells_45 : decode cX12_personTells 45 = .ok (.iconst 0, 1) := by decide +kernel
theorem gdX12_personTells_46 : decode cX12_personTells 46 = .ok (.goto 9, 3) := by decide +kernel
theorem gdX12_personTells_41 : decode cX12_personTells 41 = .ok (.iconst 1, 1) := by decide +kernel
theorem gdX12_personTells_42 : decode cX12_personTells 42 = .ok (.goto 13, 3) := by decide +kernel
theorem gdX12_personTells_18 : decode cX12_personTells 18 = .ok (.aload_n 0, 1) := by decide +kernel
theorem gdX12_personTells_19 : decode cX12_personTells 19 = .ok (.getfield 74, 3) := by decide +kernel
theorem gdX12_personTells_22 : decode cX12_personTells 22 = .ok (.iload_n 1, 1) := by decide +kernel
theorem gdX12_personTells_23 : decode cX12_personTells 23 = .ok (.iaload, 1) := by decide +kernel
theorem gdX12_personTells_24 : decode cX12_personTells 24 = .ok (.goto 31, 3) := by decide +kernel
theorem gdX12_personTells_4 : decode cX12_personTells 4 = .ok (.aload_n 0, 1) := by decide +kernel
theorem gdX12_personTells_5 : decode cX12_personTells 5 = .ok (.getfield 71, 3) := by decide +kernel
theorem gdX12_personTells_8 : decode cX12_personTells 8 = .ok (.iload_n 1, 1) := by decide +kernel
theorem gdX12_personTells_9 : decode cX12_personTells 9 = .ok (.iaload, 1) := by decide +kernel
theorem gdX12_personTells_10 : decode cX12_personTells 10 = .ok (.goto 45, 3) := by decide +kernel
theorem gdX12_markTells_33 : decode cX12_markTells 33 = .ok (.ireturn, 1) := by decide +kernel
theorem gdX12_markTells_0 : decode cX12_markTells 0 = .ok (.iload_n 2, 1) := by decide +kernel
theorem gdX12_markTells_1 : decode cX12_markTells 1 = .ok (.ifCond .ne 12, 3) := by decide +kernel
theorem gdX12_markTells_13 : decode cX12_markTells 13 = .ok (.iload_n 2, 1) := by decide +kernel
theorem gdX12_markTells_14 : decode cX12_markTells 14 = .ok (.iconst 1, 1) := by decide +kernel
theorem gdX12_markTells_15 : decode cX12_markTells 15 = .ok (.if_icmp .ne 12, 3) := by decide +kernel
theorem gdX12_markTells_27 : decode cX12_markTells 27 = .ok (.aload_n 0, 1) := by decide +kernel
theorem gdX12_markTells_28 : decode cX12_markTells 28 = .ok (.getfield 89, 3) := by decide +kernel
theorem gdX12_markTells_31 : decode cX12_markTells 31 = .ok (.iload_n 1, 1) := by decide +kernel
theorem gdX12_markTells_32 : decode cX12_markTells 32 = .ok (.iaload, 1) := by decide +kernel
theorem gdX12_markTells_18 : decode cX12_markTells 18 = .ok (.aload_n 0, 1) := by decide +kernel
theorem gdX12_markTells_19 : decode cX12_markTells 19 = .ok (.getfield 86, 3) := by decide +kernel
theorem gdX12_markTells_22 : decode cX12_markTells 22 = .ok (.iload_n 1, 1) := by decide +kernel
theorem gdX12_markTells_23 : decode cX12_markTells 23 = .ok (.iaload, 1) := by decide +kernel
theorem gdX12_markTells_24 : decode cX12_markTells 24 = .ok (.goto 9, 3) := by decide +kernel
theorem gdX12_markTells_4 : decode cX12_markTells 4 = .ok (.aload_n 0, 1) := by decide +kernel
theorem gdX12_markTells_5 : decode cX12_markTells 5 = .ok (.getfield 83, 3) := by decide +kernel
theorem gdX12_markTells_8 : decode cX12_markTells 8 = .ok (.iload_n 1, 1) := by decide +kernel
theorem gdX12_markTells_9 : decode cX12_markTells 9 = .ok (.iaload, 1) := by decide +kernel
theorem gdX12_markTells_10 : decode cX12_markTells 10 = .ok (.goto 23, 3) := by decide +kernel
theorem gdX12_mixMark_84 : decode cX12_mixMark 84 = .ok (.return_, 1) := by decide +kernel
theorem gdX12_mixMark_53 : decode cX12_mixMark 53 = .ok (.iload_n 2, 1) := by decide +kernel
theorem gdX12_mixMark_54 : decode cX12_mixMark 54 = .ok (.aload_n 0, 1) := by decide +kernel
theorem gdX12_mixMark_55 : decode cX12_mixMark 55 = .ok (.getfield 98, 3) := by decide +kernel
theorem gdX12_mixMark_58 : decode cX12_mixMark 58 = .ok (.iload_n 1, 1) := by decide +kernel
theorem gdX12_mixMark_59 : decode cX12_mixMark 59 = .ok (.iaload, 1) := by decide +kernel
theorem gdX12_mixMark_60 : decode cX12_mixMark 60 = .ok (.if_icmp .ge 24, 3) := by decide +kernel
theorem gdX12_mixMark_63 : decode cX12_mixMark 63 = .ok (.aload_n 0, 1) := by decide +kernel
theorem gdX12_mixMark_64 : decode cX12_mixMark 64 = .ok (.aload_n 0, 1) := by decide +kernel
theorem gdX12_mixMark_65 : decode cX12_mixMark 65 = .ok (.getfield 101, 3) := by decide +kernel
theorem gdX12_mixMark_68 : decode cX12_mixMark 68 = .ok (.bipush 64, 2) := by decide +kernel
theorem gdX12_mixMark_70 : decode cX12_mixMark 70 = .ok (.iload_n 1, 1) := by decide +kernel
theorem gdX12_mixMark_71 : decode cX12_mixMark 71 = .ok (.imul, 1) := by decide +kernel
theorem gdX12_mixMark_72 : decode cX12_mixMark 72 = .ok (.iload_n 2, 1) := by decide +kernel
theorem gdX12_mixMark_73 : decode cX12_mixMark 73 = .ok (.iadd, 1) := by decide +kernel
theorem gdX12_mixMark_74 : decode cX12_mixMark 74 = .ok (.iaload, 1) := by decide +kernel
theorem gdX12_mixMark_75 : decode cX12_mixMark 75 = .ok (.invokevirtual 451, 3) := by decide +kernel
theorem gdX12_mixMark_78 : decode cX12_mixMark 78 = .ok (.iinc 2 1, 3) := by decide +kernel
theorem gdX12_mixMark_81 : decode cX12_mixMark 81 = .ok (.goto (-28), 3) := by decide +kernel
theorem gdX12_mixMark_23 : decode cX12_mixMark 23 = .ok (.aload_n 0, 1) := by decide +kernel
theorem gdX12_mixMark_24 : decode cX12_mixMark 24 = .ok (.iload_n 1, 1) := by decide +kernel
theorem gdX12_mixMark_25 : decode cX12_mixMark 25 = .ok (.invokevirtual 311, 3) := by decide +kernel
theorem gdX12_mixMark_28 : decode cX12_mixMark 28 = .ok (.ifCond .eq 56, 3) := by decide +kernel
theorem gdX12_mixMark_31 : decode cX12_mixMark 31 = .ok (.aload_n 0, 1) := by decide +kernel
theorem gdX12_mixMark_32 : decode cX12_mixMark 32 = .ok (.aload_n 0, 1) := by decide +kernel
theorem gdX12_mixMark_33 : decode cX12_mixMark 33 = .ok (.getfield 92, 3) := by decide +kernel
theorem gdX12_mixMark_36 : decode cX12_mixMark 36 = .ok (.iload_n 1, 1) := by decide +kernel
theorem gdX12_mixMark_37 : decode cX12_mixMark 37 = .ok (.iaload, 1) := by decide +kernel
theorem gdX12_mixMark_38 : decode cX12_mixMark 38 = .ok (.invokevirtual 451, 3) := by decide +kernel
theorem gdX12_mixMark_41 : decode cX12_mixMark 41 = .ok (.aload_n 0, 1) := by decide +kernel
theorem gdX12_mixMark_42 : decode cX12_mixMark 42 = .ok (.aload_n 0, 1) := by decide +kernel
theorem gdX12_mixMark_43 : decode cX12_mixMark 43 = .ok (.getfield 95, 3) := by decide +kernel
theorem gdX12_mixMark_46 : decode cX12_mixMark 46 = .ok (.iload_n 1, 1) := by decide +kernel
theorem gdX12_mixMark_47 : decode cX12_mixMark 47 = .ok (.iaload, 1) := by decide +kernel
theorem gdX12_mixMark_48 : decode cX12_mixMark 48 = .ok (.invokevirtual 451, 3) := by decide +kernel
theorem gdX12_mixMark_51 : decode cX12_mixMark 51 = .ok (.iconst 0, 1) := by decide +kernel
theorem gdX12_mixMark_52 : decode cX12_mixMark 52 = .ok (.istore_n 2, 1) := by decide +kernel
theorem gdX12_mixMark_2 : decode cX12_mixMark 2 = .ok (.iload_n 2, 1) := by decide +kernel
theorem gdX12_mixMark_3 : decode cX12_mixMark 3 = .ok (.iconst 2, 1) := by decide +kernel
theorem gdX12_mixMark_4 : decode cX12_mixMark 4 = .ok (.if_icmp .gt 19, 3) := by decide +kernel
theorem gdX12_mixMark_7 : decode cX12_mixMark 7 = .ok (.aload_n 0, 1) := by decide +kernel
theorem gdX12_mixMark_8 : decode cX12_mixMark 8 = .ok (.aload_n 0, 1) := by decide +kernel
theorem gdX12_mixMark_9 : decode cX12_mixMark 9 = .ok (.iload_n 1, 1) := by decide +kernel
theorem gdX12_mixMark_10 : decode cX12_mixMark 10 = .ok (.iload_n 2, 1) := by decide +kernel
theorem gdX12_mixMark_11 : decode cX12_mixMark 11 = .ok (.invokevirtual 358, 3) := by decide +kernel
theorem gdX12_mixMark_14 : decode cX12_mixMark 14 = .ok (.invokevirtual 451, 3) := by decide +kernel
theorem gdX12_mixMark_17 : decode cX12_mixMark 17 = .ok (.iinc 2 1, 3) := by decide +kernel
theorem gdX12_mixMark_20 : decode cX12_mixMark 20 = .ok (.goto (-18), 3) := by decide +kernel
theorem gdX12_mixMark_0 : decode cX12_mixMark 0 = .ok (.iconst 0, 1) := by decide +kernel
theorem gdX12_mixMark_1 : decode cX12_mixMark 1 = .ok (.istore_n 2, 1) := by decide +kernel
theorem gdX12_digest_351 : decode cX12_digest 351 = .ok (.aload_n 0, 1) := by decide +kernel
theorem gdX12_digest_352 : decode cX12_digest 352 = .ok (.getfield 448, 3) := by decide +kernel
theorem gdX12_digest_355 : decode cX12_digest 355 = .ok (.lreturn, 1) := by decide +kernel
theorem gdX12_digest_345 : decode cX12_digest 345 = .ok (.iinc 1 1, 3) := by decide +kernel
theorem gdX12_digest_348 : decode cX12_digest 348 = .ok (.goto (-64), 3) := by decide +kernel
theorem gdX12_digest_314 : decode cX12_digest 314 = .ok (.iload_n 2, 1) := by decide +kernel
theorem gdX12_digest_315 : decode cX12_digest 315 = .ok (.aload_n 0, 1) := by decide +kernel
theorem gdX12_digest_316 : decode cX12_digest 316 = .ok (.getfield 22, 3) := by decide +kernel
theorem gdX12_digest_319 : decode cX12_digest 319 = .ok (.iload_n 1, 1) := by decide +kernel
theorem gdX12_digest_320 : decode cX12_digest 320 = .ok (.iaload, 1) := by decide +kernel
theorem gdX12_digest_321 : decode cX12_digest 321 = .ok (.if_icmp .ge 24, 3) := by decide +kernel
theorem gdX12_digest_324 : decode cX12_digest 324 = .ok (.aload_n 0, 1) := by decide +kernel
theorem gdX12_digest_325 : decode cX12_digest 325 = .ok (.aload_n 0, 1) := by decide +kernel
theorem gdX12_digest_326 : decode cX12_digest 326 = .ok (.getfield 25, 3) := by decide +kernel
theorem gdX12_digest_329 : decode cX12_digest 329 = .ok (.bipush 40, 2) := by decide +kernel
theorem gdX12_digest_331 : decode cX12_digest 331 = .ok (.iload_n 1, 1) := by decide +kernel
theorem gdX12_digest_332 : decode cX12_digest 332 = .ok (.imul, 1) := by decide +kernel
theorem gdX12_digest_333 : decode cX12_digest 333 = .ok (.iload_n 2, 1) := by decide +kernel
theorem gdX12_digest_334 : decode cX12_digest 334 = .ok (.iadd, 1) := by decide +kernel
theorem gdX12_digest_335 : decode cX12_digest 335 = .ok (.iaload, 1) := by decide +kernel
theorem gdX12_digest_336 : decode cX12_digest 336 = .ok (.invokevirtual 451, 3) := by decide +kernel
theorem gdX12_digest_339 : decode cX12_digest 339 = .ok (.iinc 2 1, 3) := by decide +kernel
theorem gdX12_digest_342 : decode cX12_digest 342 = .ok (.goto (-28), 3) := by decide +kernel
theorem gdX12_digest_309 : decode cX12_digest 309 = .ok (.invokevirtual 451, 3) := by decide +kernel
theorem gdX12_digest_312 : decode cX12_digest 312 = .ok (.iconst 0, 1) := by decide +kernel
theorem gdX12_digest_313 : decode cX12_digest 313 = .ok (.istore_n 2, 1) := by decide +kernel
theorem gdX12_digest_284 : decode cX12_digest 284 = .ok (.iload_n 1, 1) := by decide +kernel
theorem gdX12_digest_285 : decode cX12_digest 285 = .ok (.iconst 4, 1) := by decide +kernel
theorem gdX12_digest_286 : decode cX12_digest 286 = .ok (.if_icmp .ge 65, 3) := by decide +kernel
theorem gdX12_digest_289 : decode cX12_digest 289 = .ok (.aload_n 0, 1) := by decide +kernel
theorem gdX12_digest_290 : decode cX12_digest 290 = .ok (.aload_n 0, 1) := by decide +kernel
theorem gdX12_digest_291 : decode cX12_digest 291 = .ok (.getfield 22, 3) := by decide +kernel
theorem gdX12_digest_294 : decode cX12_digest 294 = .ok (.iload_n 1, 1) := by decide +kernel
theorem gdX12_digest_295 : decode cX12_digest 295 = .ok (.iaload, 1) := by decide +kernel
theorem gdX12_digest_296 : decode cX12_digest 296 = .ok (.ifCond .ge 7, 3) := by decide +kernel
theorem gdX12_digest_303 : decode cX12_digest 303 = .ok (.aload_n 0, 1) := by decide +kernel
theorem gdX12_digest_304 : decode cX12_digest 304 = .ok (.getfield 22, 3) := by decide +kernel
theorem gdX12_digest_307 : decode cX12_digest 307 = .ok (.iload_n 1, 1) := by decide +kernel
theorem gdX12_digest_308 : decode cX12_digest 308 = .ok (.iaload, 1) := by decide +kernel
theorem gdX12_digest_299 : decode cX12_digest 299 = .ok (.iconst (-1), 1) := by decide +kernel
theorem gdX12_digest_300 : decode cX12_digest 300 = .ok (.goto 9, 3) := by decide +kernel
theorem gdX12_digest_282 : decode cX12_digest 282 = .ok (.iconst 0, 1) := by decide +kernel
theorem gdX12_digest_283 : decode cX12_digest 283 = .ok (.istore_n 1, 1) := by decide +kernel
theorem gdX12_digest_276 : decode cX12_digest 276 = .ok (.iinc 1 1, 3) := by decide +kernel
theorem gdX12_digest_279 : decode cX12_digest 279 = .ok (.goto (-65), 3) := by decide +kernel
theorem gdX12_digest_245 : decode cX12_digest 245 = .ok (.iload_n 2, 1) := by decide +kernel
theorem gdX12_digest_246 : decode cX12_digest 246 = .ok (.aload_n 0, 1) := by decide +kernel
theorem gdX12_digest_247 : decode cX12_digest 247 = .ok (.getfield 13, 3) := by decide +kernel
theorem gdX12_digest_250 : decode cX12_digest 250 = .ok (.iload_n 1, 1) := by decide +kernel
theorem gdX12_digest_251 : decode cX12_digest 251 = .ok (.iaload, 1) := by decide +kernel
theorem gdX12_digest_252 : decode cX12_digest 252 = .ok (.if_icmp .ge 24, 3) := by decide +kernel
theorem gdX12_digest_255 : decode cX12_digest 255 = .ok (.aload_n 0, 1) := by decide +kernel
theorem gdX12_digest_256 : decode cX12_digest 256 = .ok (.aload_n 0, 1) := by decide +kernel
theorem gdX12_digest_257 : decode cX12_digest 257 = .ok (.getfield 16, 3) := by decide +kernel
theorem gdX12_digest_260 : decode cX12_digest 260 = .ok (.bipush 40, 2) := by decide +kernel
theorem gdX12_digest_262 : decode cX12_digest 262 = .ok (.iload_n 1, 1) := by decide +kernel
theorem gdX12_digest_263 : decode cX12_digest 263 = .ok (.imul, 1) := by decide +kernel
theorem gdX12_digest_264 : decode cX12_digest 264 = .ok (.iload_n 2, 1) := by decide +kernel
theorem gdX12_digest_265 : decode cX12_digest 265 = .ok (.iadd, 1) := by decide +kernel
theorem gdX12_digest_266 : decode cX12_digest 266 = .ok (.iaload, 1) := by decide +kernel
theorem gdX12_digest_267 : decode cX12_digest 267 = .ok (.invokevirtual 451, 3) := by decide +kernel
theorem gdX12_digest_270 : decode cX12_digest 270 = .ok (.iinc 2 1, 3) := by decide +kernel
theorem gdX12_digest_273 : decode cX12_digest 273 = .ok (.goto (-28), 3) := by decide +kernel
theorem gdX12_digest_240 : decode cX12_digest 240 = .ok (.invokevirtual 451, 3) := by decide +kernel
theorem gdX12_digest_243 : decode cX12_digest 243 = .ok (.iconst 0, 1) := by decide +kernel
theorem gdX12_digest_244 : decode cX12_digest 244 = .ok (.istore_n 2, 1) := by decide +kernel
theorem gdX12_digest_214 : decode cX12_digest 214 = .ok (.iload_n 1, 1) := by decide +kernel
theorem gdX12_digest_215 : decode cX12_digest 215 = .ok (.bipush 6, 2) := by decide +kernel
theorem gdX12_digest_217 : decode cX12_digest 217 = .ok (.if_icmp .ge 65, 3) := by decide +kernel
theorem gdX12_digest_220 : decode cX12_digest 220 = .ok (.aload_n 0, 1) := by decide +kernel
theorem gdX12_digest_221 : decode cX12_digest 221 = .ok (.aload_n 0, 1) := by decide +kernel
theorem gdX12_digest_222 : decode cX12_digest 222 = .ok (.getfield 13, 3) := by decide +kernel
theorem gdX12_digest_225 : decode cX12_digest 225 = .ok (.iload_n 1, 1) := by decide +kernel
theorem gdX12_digest_226 : decode cX12_digest 226 = .ok (.iaload, 1) := by decide +kernel
theorem gdX12_digest_227 : decode cX12_digest 227 = .ok (.ifCond .ge 7, 3) := by decide +kernel
theorem gdX12_digest_234 : decode cX12_digest 234 = .ok (.aload_n 0, 1) := by decide +kernel
theorem gdX12_digest_235 : decode cX12_digest 235 = .ok (.getfield 13, 3) := by decide +kernel
theorem gdX12_digest_238 : decode cX12_digest 238 = .ok (.iload_n 1, 1) := by decide +kernel
theorem gdX12_digest_239 : decode cX12_digest 239 = .ok (.iaload, 1) := by decide +kernel
theorem gdX12_digest_230 : decode cX12_digest 230 = .ok (.iconst (-1), 1) := by decide +kernel
theorem gdX12_digest_231 : decode cX12_digest 231 = .ok (.goto 9, 3) := by decide +kernel
theorem gdX12_digest_212 : decode cX12_digest 212 = .ok (.iconst 0, 1) := by decide +kernel
theorem gdX12_digest_213 : decode cX12_digest 213 = .ok (.istore_n 1, 1) := by decide +kernel
theorem gdX12_digest_193 : decode cX12_digest 193 = .ok (.iload_n 1, 1) := by decide +kernel
theorem gdX12_digest_194 : decode cX12_digest 194 = .ok (.aload_n 0, 1) := by decide +kernel
theorem gdX12_digest_195 : decode cX12_digest 195 = .ok (.getfield 305, 3) := by decide +kernel
theorem gdX12_digest_198 : decode cX12_digest 198 = .ok (.if_icmp .ge 14, 3) := by decide +kernel
theorem gdX12_digest_201 : decode cX12_digest 201 = .ok (.aload_n 0, 1) := by decide +kernel
theorem gdX12_digest_202 : decode cX12_digest 202 = .ok (.iload_n 1, 1) := by decide +kernel
theorem gdX12_digest_203 : decode cX12_digest 203 = .ok (.invokevirtual 457, 3) := by decide +kernel
theorem gdX12_digest_206 : decode cX12_digest 206 = .ok (.iinc 1 1, 3) := by decide +kernel
theorem gdX12_digest_209 : decode cX12_digest 209 = .ok (.goto (-16), 3) := by decide +kernel
theorem gdX12_digest_191 : decode cX12_digest 191 = .ok (.iconst 0, 1) := by decide +kernel
theorem gdX12_digest_192 : decode cX12_digest 192 = .ok (.istore_n 1, 1) := by decide +kernel
theorem gdX12_digest_157 : decode cX12_digest 157 = .ok (.iload_n 1, 1) := by decide +kernel
theorem gdX12_digest_158 : decode cX12_digest 158 = .ok (.aload_n 0, 1) := by decide +kernel
theorem gdX12_digest_159 : decode cX12_digest 159 = .ok (.getfield 241, 3) := by decide +kernel
theorem gdX12_digest_162 : decode cX12_digest 162 = .ok (.if_icmp .ge 29, 3) := by decide +kernel
theorem gdX12_digest_165 : decode cX12_digest 165 = .ok (.aload_n 0, 1) := by decide +kernel
theorem gdX12_digest_166 : decode cX12_digest 166 = .ok (.aload_n 0, 1) := by decide +kernel
theorem gdX12_digest_167 : decode cX12_digest 167 = .ok (.getfield 28, 3) := by decide +kernel
theorem gdX12_digest_170 : decode cX12_digest 170 = .ok (.iload_n 1, 1) := by decide +kernel
theorem gdX12_digest_171 : decode cX12_digest 171 = .ok (.iaload, 1) := by decide +kernel
theorem gdX12_digest_172 : decode cX12_digest 172 = .ok (.invokevirtual 451, 3) := by decide +kernel
theorem gdX12_digest_175 : decode cX12_digest 175 = .ok (.aload_n 0, 1) := by decide +kernel
theorem gdX12_digest_176 : decode cX12_digest 176 = .ok (.aload_n 0, 1) := by decide +kernel
theorem gdX12_digest_177 : decode cX12_digest 177 = .ok (.getfield 31, 3) := by decide +kernel
theorem gdX12_digest_180 : decode cX12_digest 180 = .ok (.iload_n 1, 1) := by decide +kernel
theorem gdX12_digest_181 : decode cX12_digest 181 = .ok (.iaload, 1) := by decide +kernel
theorem gdX12_digest_182 : decode cX12_digest 182 = .ok (.invokevirtual 451, 3) := by decide +kernel
theorem gdX12_digest_185 : decode cX12_digest 185 = .ok (.iinc 1 1, 3) := by decide +kernel
theorem gdX12_digest_188 : decode cX12_digest 188 = .ok (.goto (-31), 3) := by decide +kernel
theorem gdX12_digest_155 : decode cX12_digest 155 = .ok (.iconst 0, 1) := by decide +kernel
theorem gdX12_digest_156 : decode cX12_digest 156 = .ok (.istore_n 1, 1) := by decide +kernel
theorem gdX12_digest_149 : decode cX12_digest 149 = .ok (.iinc 1 1, 3) := by decide +kernel
theorem gdX12_digest_152 : decode cX12_digest 152 = .ok (.goto (-34), 3) := by decide +kernel
theorem gdX12_digest_128 : decode cX12_digest 128 = .ok (.iload_n 2, 1) := by decide +kernel
theorem gdX12_digest_129 : decode cX12_digest 129 = .ok (.iconst 3, 1) := by decide +kernel
theorem gdX12_digest_130 : decode cX12_digest 130 = .ok (.if_icmp .gt 19, 3) := by decide +kernel
theorem gdX12_digest_133 : decode cX12_digest 133 = .ok (.aload_n 0, 1) := by decide +kernel
theorem gdX12_digest_134 : decode cX12_digest 134 = .ok (.aload_n 0, 1) := by decide +kernel
theorem gdX12_digest_135 : decode cX12_digest 135 = .ok (.iload_n 1, 1) := by decide +kernel
theorem gdX12_digest_136 : decode cX12_digest 136 = .ok (.iload_n 2, 1) := by decide +kernel
theorem gdX12_digest_137 : decode cX12_digest 137 = .ok (.invokevirtual 299, 3) := by decide +kernel
theorem gdX12_digest_140 : decode cX12_digest 140 = .ok (.invokevirtual 451, 3) := by decide +kernel
theorem gdX12_digest_143 : decode cX12_digest 143 = .ok (.iinc 2 1, 3) := by decide +kernel
theorem gdX12_digest_146 : decode cX12_digest 146 = .ok (.goto (-18), 3) := by decide +kernel
theorem gdX12_digest_118 : decode cX12_digest 118 = .ok (.iload_n 1, 1) := by decide +kernel
theorem gdX12_digest_119 : decode cX12_digest 119 = .ok (.aload_n 0, 1) := by decide +kernel
theorem gdX12_digest_120 : decode cX12_digest 120 = .ok (.getfield 281, 3) := by decide +kernel
theorem gdX12_digest_123 : decode cX12_digest 123 = .ok (.if_icmp .ge 32, 3) := by decide +kernel
theorem gdX12_digest_126 : decode cX12_digest 126 = .ok (.iconst 0, 1) := by decide +kernel
theorem gdX12_digest_127 : decode cX12_digest 127 = .ok (.istore_n 2, 1) := by decide +kernel
theorem gdX12_digest_116 : decode cX12_digest 116 = .ok (.iconst 0, 1) := by decide +kernel
theorem gdX12_digest_117 : decode cX12_digest 117 = .ok (.istore_n 1, 1) := by decide +kernel
theorem gdX12_digest_97 : decode cX12_digest 97 = .ok (.aload_n 0, 1) := by decide +kernel
theorem gdX12_digest_98 : decode cX12_digest 98 = .ok (.aload_n 0, 1) := by decide +kernel
theorem gdX12_digest_99 : decode cX12_digest 99 = .ok (.iload_n 1, 1) := by decide +kernel
theorem gdX12_digest_100 : decode cX12_digest 100 = .ok (.aload_n 0, 1) := by decide +kernel
theorem gdX12_digest_101 : decode cX12_digest 101 = .ok (.getfield 229, 3) := by decide +kernel
theorem gdX12_digest_104 : decode cX12_digest 104 = .ok (.invokevirtual 277, 3) := by decide +kernel
theorem gdX12_digest_107 : decode cX12_digest 107 = .ok (.invokevirtual 451, 3) := by decide +kernel
theorem gdX12_digest_110 : decode cX12_digest 110 = .ok (.iinc 1 1, 3) := by decide +kernel
theorem gdX12_digest_113 : decode cX12_digest 113 = .ok (.goto (-47), 3) := by decide +kernel
theorem gdX12_digest_76 : decode cX12_digest 76 = .ok (.iload_n 2, 1) := by decide +kernel
theorem gdX12_digest_77 : decode cX12_digest 77 = .ok (.iconst 5, 1) := by decide +kernel
theorem gdX12_digest_78 : decode cX12_digest 78 = .ok (.if_icmp .gt 19, 3) := by decide +kernel
theorem gdX12_digest_81 : decode cX12_digest 81 = .ok (.aload_n 0, 1) := by decide +kernel
theorem gdX12_digest_82 : decode cX12_digest 82 = .ok (.aload_n 0, 1) := by decide +kernel
theorem gdX12_digest_83 : decode cX12_digest 83 = .ok (.iload_n 1, 1) := by decide +kernel
theorem gdX12_digest_84 : decode cX12_digest 84 = .ok (.iload_n 2, 1) := by decide +kernel
theorem gdX12_digest_85 : decode cX12_digest 85 = .ok (.invokevirtual 287, 3) := by decide +kernel
theorem gdX12_digest_88 : decode cX12_digest 88 = .ok (.invokevirtual 451, 3) := by decide +kernel
theorem gdX12_digest_91 : decode cX12_digest 91 = .ok (.iinc 2 1, 3) := by decide +kernel
theorem gdX12_digest_94 : decode cX12_digest 94 = .ok (.goto (-18), 3) := by decide +kernel
theorem gdX12_digest_66 : decode cX12_digest 66 = .ok (.iload_n 1, 1) := by decide +kernel
theorem gdX12_digest_67 : decode cX12_digest 67 = .ok (.aload_n 0, 1) := by decide +kernel
theorem gdX12_digest_68 : decode cX12_digest 68 = .ok (.getfield 254, 3) := by decide +kernel
theorem gdX12_digest_71 : decode cX12_digest 71 = .ok (.if_icmp .ge 45, 3) := by decide +kernel
theorem gdX12_digest_74 : decode cX12_digest 74 = .ok (.iconst 0, 1) := by decide +kernel
theorem gdX12_digest_75 : decode cX12_digest 75 = .ok (.istore_n 2, 1) := by decide +kernel
theorem gdX12_digest_64 : decode cX12_digest 64 = .ok (.iconst 0, 1) := by decide +kernel
theorem gdX12_digest_65 : decode cX12_digest 65 = .ok (.istore_n 1, 1) := by decide +kernel
theorem gdX12_digest_32 : decode cX12_digest 32 = .ok (.iload_n 1, 1) := by decide +kernel
theorem gdX12_digest_33 : decode cX12_digest 33 = .ok (.bipush 64, 2) := by decide +kernel
theorem gdX12_digest_35 : decode cX12_digest 35 = .ok (.if_icmp .ge 29, 3) := by decide +kernel
theorem gdX12_digest_38 : decode cX12_digest 38 = .ok (.aload_n 0, 1) := by decide +kernel
theorem gdX12_digest_39 : decode cX12_digest 39 = .ok (.aload_n 0, 1) := by decide +kernel
theorem gdX12_digest_40 : decode cX12_digest 40 = .ok (.getfield 40, 3) := by decide +kernel
theorem gdX12_digest_43 : decode cX12_digest 43 = .ok (.iload_n 1, 1) := by decide +kernel
theorem gdX12_digest_44 : decode cX12_digest 44 = .ok (.iaload, 1) := by decide +kernel
theorem gdX12_digest_45 : decode cX12_digest 45 = .ok (.invokevirtual 451, 3) := by decide +kernel
theorem gdX12_digest_48 : decode cX12_digest 48 = .ok (.aload_n 0, 1) := by decide +kernel
theorem gdX12_digest_49 : decode cX12_digest 49 = .ok (.aload_n 0, 1) := by decide +kernel
theorem gdX12_digest_50 : decode cX12_digest 50 = .ok (.getfield 43, 3) := by decide +kernel
theorem gdX12_digest_53 : decode cX12_digest 53 = .ok (.iload_n 1, 1) := by decide +kernel
theorem gdX12_digest_54 : decode cX12_digest 54 = .ok (.iaload, 1) := by decide +kernel
theorem gdX12_digest_55 : decode cX12_digest 55 = .ok (.invokevirtual 451, 3) := by decide +kernel
theorem gdX12_digest_58 : decode cX12_digest 58 = .ok (.iinc 1 1, 3) := by decide +kernel
theorem gdX12_digest_61 : decode cX12_digest 61 = .ok (.goto (-29), 3) := by decide +kernel
theorem gdX12_digest_30 : decode cX12_digest 30 = .ok (.iconst 0, 1) := by decide +kernel
theorem gdX12_digest_31 : decode cX12_digest 31 = .ok (.istore_n 1, 1) := by decide +kernel
theorem gdX12_digest_9 : decode cX12_digest 9 = .ok (.iload_n 1, 1) := by decide +kernel
theorem gdX12_digest_10 : decode cX12_digest 10 = .ok (.bipush 9, 2) := by decide +kernel
theorem gdX12_digest_12 : decode cX12_digest 12 = .ok (.if_icmp .gt 18, 3) := by decide +kernel
theorem gdX12_digest_15 : decode cX12_digest 15 = .ok (.aload_n 0, 1) := by decide +kernel
theorem gdX12_digest_16 : decode cX12_digest 16 = .ok (.aload_n 0, 1) := by decide +kernel
theorem gdX12_digest_17 : decode cX12_digest 17 = .ok (.iload_n 1, 1) := by decide +kernel
theorem gdX12_digest_18 : decode cX12_digest 18 = .ok (.invokevirtual 443, 3) := by decide +kernel
theorem gdX12_digest_21 : decode cX12_digest 21 = .ok (.invokevirtual 451, 3) := by decide +kernel
theorem gdX12_digest_24 : decode cX12_digest 24 = .ok (.iinc 1 1, 3) := by decide +kernel
theorem gdX12_digest_27 : decode cX12_digest 27 = .ok (.goto (-18), 3) := by decide +kernel
theorem gdX12_digest_0 : decode cX12_digest 0 = .ok (.aload_n 0, 1) := by decide +kernel
theorem gdX12_digest_1 : decode cX12_digest 1 = .ok (.ldc2_w 455, 3) := by decide +kernel
theorem gdX12_digest_4 : decode cX12_digest 4 = .ok (.putfield 448, 3) := by decide +kernel
theorem gdX12_digest_7 : decode cX12_digest 7 = .ok (.iconst 0, 1) := by decide +kernel
theorem gdX12_digest_8 : decode cX12_digest 8 = .ok (.istore_n 1, 1) := by decide +kernel
theorem gdX12_heard_55 : decode cX12_heard 55 = .ok (.iload_n 3, 1) := by decide +kernel
theorem gdX12_heard_56 : decode cX12_heard 56 = .ok (.ireturn, 1) := by decide +kernel
theorem gdX12_heard_48 : decode cX12_heard 48 = .ok (.istore_n 3, 1) := by decide +kernel
theorem gdX12_heard_49 : decode cX12_heard 49 = .ok (.iinc 4 1, 3) := by decide +kernel
theorem gdX12_heard_52 : decode cX12_heard 52 = .ok (.goto (-46), 3) := by decide +kernel
theorem gdX12_heard_47 : decode cX12_heard 47 = .ok (.iload_n 3, 1) := by decide +kernel
theorem gdX12_heard_6 : decode cX12_heard 6 = .ok (.iload 4, 2) := by decide +kernel
theorem gdX12_heard_8 : decode cX12_heard 8 = .ok (.aload_n 0, 1) := by decide +kernel
theorem gdX12_heard_9 : decode cX12_heard 9 = .ok (.getfield 371, 3) := by decide +kernel
theorem gdX12_heard_12 : decode cX12_heard 12 = .ok (.if_icmp .ge 43, 3) := by decide +kernel
theorem gdX12_heard_15 : decode cX12_heard 15 = .ok (.aload_n 0, 1) := by decide +kernel
theorem gdX12_heard_16 : decode cX12_heard 16 = .ok (.getfield 138, 3) := by decide +kernel
theorem gdX12_heard_19 : decode cX12_heard 19 = .ok (.iload 4, 2) := by decide +kernel
theorem gdX12_heard_21 : decode cX12_heard 21 = .ok (.iaload, 1) := by decide +kernel
theorem gdX12_heard_22 : decode cX12_heard 22 = .ok (.iload_n 1, 1) := by decide +kernel
theorem gdX12_heard_23 : decode cX12_heard 23 = .ok (.if_icmp .ne 24, 3) := by decide +kernel
theorem gdX12_heard_26 : decode cX12_heard 26 = .ok (.aload_n 0, 1) := by decide +kernel
theorem gdX12_heard_27 : decode cX12_heard 27 = .ok (.getfield 141, 3) := by decide +kernel
theorem gdX12_heard_30 : decode cX12_heard 30 = .ok (.iload 4, 2) := by decide +kernel
theorem gdX12_heard_32 : decode cX12_heard 32 = .ok (.iaload, 1) := by decide +kernel
theorem gdX12_heard_33 : decode cX12_heard 33 = .ok (.iload_n 2, 1) := by decide +kernel
theorem gdX12_heard_34 : decode cX12_heard 34 = .ok (.if_icmp .ne 13, 3) := by decide +kernel
theorem gdX12_heard_37 : decode cX12_heard 37 = .ok (.aload_n 0, 1) := by decide +kernel
theorem gdX12_heard_38 : decode cX12_heard 38 = .ok (.getfield 144, 3) := by decide +kernel
theorem gdX12_heard_41 : decode cX12_heard 41 = .ok (.iload 4, 2) := by decide +kernel
theorem gdX12_heard_43 : decode cX12_heard 43 = .ok (.iaload, 1) := by decide +kernel
theorem gdX12_heard_44 : decode cX12_heard 44 = .ok (.goto 4, 3) := by decide +kernel
theorem gdX12_heard_0 : decode cX12_heard 0 = .ok (.bipush (-9), 2) := by decide +kernel
theorem gdX12_heard_2 : decode cX12_heard 2 = .ok (.istore_n 3, 1) := by decide +kernel
theorem gdX12_heard_3 : decode cX12_heard 3 = .ok (.iconst 0, 1) := by decide +kernel
theorem gdX12_heard_4 : decode cX12_heard 4 = .ok (.istore 4, 2) := by decide +kernel
theorem okm_X12_isCell : okM yX12_isCell cX12_isCell 1 (some .boolean) 1 := ⟨w_1790, w_103, by decide +kernel, by decide +kernel, by decide +kernel⟩
theorem okm_X12_isWorth : okM yX12_isWorth cX12_isWorth 1 (some .boolean) 1 := ⟨w_1801, w_103, by decide +kernel, by decide +kernel, by decide +kernel⟩
theorem okm_X12_on : okM yX12_on cX12_on 4 (some .int) 1 := ⟨w_1794, w_103, by decide +kernel, by decide +kernel, by decide +kernel⟩
theorem okw_X12_on : okV yX12_on := ⟨w_1793, w_43⟩
theorem okm_X12_tell : okM yX12_tell cX12_tell 3 none 2 := ⟨w_1806, w_103, by decide +kernel, by decide +kernel, by decide +kernel⟩
theorem okw_X12_tell : okV yX12_tell := ⟨w_1805, w_44⟩
theorem okm_X12_isBuilding : okM yX12_isBuilding cX12_isBuilding 2 (some .boolean) 1 := ⟨w_1814, w_103, by decide +kernel, by decide +kernel, by decide +kernel⟩
theorem okw_X12_isBuilding : okV yX12_isBuilding := ⟨w_1813, w_45⟩
theorem okm_X12_isPerson : okM yX12_isPerson cX12_isPerson 2 (some .boolean) 1 := ⟨w_1854, w_103, by decide +kernel, by decide +kernel, by decide +kernel⟩
theorem okw_X12_isPerson : okV yX12_isPerson := ⟨w_1853, w_51⟩
theorem okm_X12_isMark : okM yX12_isMark cX12_isMark 2 (some .boolean) 1 := ⟨w_1906, w_103, by decide +kernel, by decide +kernel, by decide +kernel⟩
theorem okw_X12_isMark : okV yX12_isMark := ⟨w_1905, w_60⟩
theorem okm_X12_isLine : okM yX12_isLine cX12_isLine 2 (some .boolean) 1 := ⟨w_1910, w_103, by decide +kernel, by decide +kernel, by decide +kernel⟩
theorem okw_X12_isLine : okV yX12_isLine := ⟨w_1909, w_61⟩
theorem okm_X12_askedLine : okM yX12_askedLine cX12_askedLine 2 (some .int) 1 := ⟨w_1928, w_103, by decide +kernel, by decide +kernel, by decide +kernel⟩
theorem okw_X12_askedLine : okV yX12_askedLine := ⟨w_1927, w_63⟩
theorem okm_X12_counts : okM yX12_counts cX12_counts 4 (some .int) 1 := ⟨w_2137, w_103, by decide +kernel, by decide +kernel, by decide +kernel⟩
theorem okw_X12_counts : okV yX12_counts := ⟨w_2136, w_85⟩
theorem okm_X12_mix : okM yX12_mix cX12_mix 2 none 1 := ⟨w_2154, w_103, by decide +kernel, by decide +kernel, by decide +kernel⟩
theorem okw_X12_mix : okV yX12_mix := ⟨w_2153, w_86⟩
theorem okm_X12_markTells : okM yX12_markTells cX12_markTells 3 (some .int) 2 := ⟨w_1964, w_103, by decide +kernel, by decide +kernel, by decide +kernel⟩
theorem okw_X12_markTells : okV yX12_markTells := ⟨w_1963, w_66⟩
theorem okm_X12_mixMark : okM yX12_mixMark cX12_mixMark 3 none 1 := ⟨w_2159, w_103, by decide +kernel, by decide +kernel, by decide +kernel⟩
theorem okw_X12_mixMark : okV yX12_mixMark := ⟨w_2158, w_87⟩
theorem okm_X12_personTells : okM yX12_personTells cX12_personTells 3 (some .int) 2 := ⟨w_1858, w_103, by decide +kernel, by decide +kernel, by decide +kernel⟩
theorem okw_X12_personTells : okV yX12_personTells := ⟨w_1857, w_52⟩
theorem okm_X12_valueOf : okM yX12_valueOf cX12_valueOf 5 (some .int) 2 := ⟨w_1818, w_103, by decide +kernel, by decide +kernel, by decide +kernel⟩
theorem okw_X12_valueOf : okV yX12_valueOf := ⟨w_1817, w_46⟩
theorem okm_X12_houseTells : okM yX12_houseTells cX12_houseTells 3 (some .int) 2 := ⟨w_1830, w_103, by decide +kernel, by decide +kernel, by decide +kernel⟩
theorem okw_X12_houseTells : okV yX12_houseTells := ⟨w_1829, w_47⟩
set_option maxHeartbeats 4000000 in
set_option maxRecDepth 100000 in
theorem c_X12_isCell (l : Launch) (g : GG) (ws : va_W) (x0 : Int) (v : Int) (h : s_X12_isCell x0 = some v) : CI l g yX12_isCell cX12_isCell 1 (some .boolean) 1 22 ws [iv x0] v ws := by
  refine met_I (by decide) (Nat.le_of_ble_eq_true rfl) ?_
  intro X E hQ
  show Go X 0 ws [(0, iv x0)] []
  unfold s_X12_isCell at h
  refine g_iload_n E gdX12_isCell_0 rfl 0 rfl ?_
  refine g_iconst E gdX12_isCell_1 ?_
  refine g_bipush E gdX12_isCell_2 (by decide) ?_
  obtain ⟨r1, hc2, h⟩ := qB_of h
  refine g_Si (r := r1) (As := [iv x0, iv 0, iv 63]) (rest := []) (w := ws) E (c_X12_in l g ws x0 0 63 r1 hc2) okm_X12_in w_1706 w_1705 rfl rfl (Nat.le_of_ble_eq_true rfl) ⟨Nat.le_of_ble_eq_true rfl, Nat.le_of_ble_eq_true rfl⟩ gdX12_isCell_4 ?_
  obtain ⟨hz, h⟩ := qZ_of h
  exact g_zret E hQ hz (Option.some.inj h) rfl gdX12_isCell_7
set_option maxHeartbeats 4000000 in
set_option maxRecDepth 100000 in
theorem c_X12_isWorth (l : Launch) (g : GG) (ws : va_W) (x0 : Int) (v : Int) (h : s_X12_isWorth x0 = some v) : CI l g yX12_isWorth cX12_isWorth 1 (some .boolean) 1 22 ws [iv x0] v ws := by
  refine met_I (by decide) (Nat.le_of_ble_eq_true rfl) ?_
  intro X E hQ
  show Go X 0 ws [(0, iv x0)] []
  unfold s_X12_isWorth at h
  refine g_iload_n E gdX12_isWorth_0 rfl 0 rfl ?_
  refine g_iconst E gdX12_isWorth_1 ?_
  refine g_ldcw (k := 100000) E gdX12_isWorth_2 w_1802 (by decide) ?_
  obtain ⟨r1, hc2, h⟩ := qB_of h
  refine g_Si (r := r1) (As := [iv x0, iv 1, iv 100000]) (rest := []) (w := ws) E (c_X12_in l g ws x0 1 100000 r1 hc2) okm_X12_in w_1706 w_1705 rfl rfl (Nat.le_of_ble_eq_true rfl) ⟨Nat.le_of_ble_eq_true rfl, Nat.le_of_ble_eq_true rfl⟩ gdX12_isWorth_5 ?_
  obtain ⟨hz, h⟩ := qZ_of h
  exact g_zret E hQ hz (Option.some.inj h) rfl gdX12_isWorth_8
set_option maxHeartbeats 4000000 in
set_option maxRecDepth 100000 in
theorem c_X12_on (l : Launch) (g : GG) (ad : Nat → Nat) (o : OO) (x1 : Int) (v : Int) (h : s_X12_on o x1 = some v) : CI l g yX12_on cX12_on 4 (some .int) 0 0 (wM g ad o) [.ref (ad 0), iv x1] v (wM g ad o) := by
  refine met_I (by decide) (Nat.le_of_ble_eq_true rfl) ?_
  intro X E hQ
  show Go X 0 (wM g ad o) [(0, .ref (ad 0)), (1, iv x1)] []
  have j44 : ∀ (x2 : Int), b_X12_on_44 o x2 = some v → Go X 44 (wM g ad o) [(2, iv x2)] [] := by
    intro x2 h
    unfold b_X12_on_44 at h
    refine g_iload_n E gdX12_on_44 rfl 0 rfl ?_
    exact g_iret E hQ (Option.some.inj h) rfl gdX12_on_45
  have j37 : ∀ (x1 : Int) (x3 : Int) (y0 : Int) (v : (Int × Int) ⊕ ((Int))), b_X12_on_37 o x1 x3 y0 = some v → (∀ (x2 : Int) (x3 : Int), v = .inl (x2, x3) → Go X 5 (wM g ad o) [(0, .ref (ad 0)), (1, iv x1), (2, iv x2), (3, iv x3)] []) → (∀ (x2 : Int), v = .inr (x2) → Go X 44 (wM g ad o) [(2, iv x2)] []) → Go X 37 (wM g ad o) [(0, .ref (ad 0)), (1, iv x1), (3, iv x3)] [iv y0] := by
    intro x1 x3 y0 v h k0 k1
    unfold b_X12_on_37 at h
    refine g_istore_n E [(2, iv y0), (0, .ref (ad 0)), (1, iv x1), (3, iv x3)] gdX12_on_37 rfl (by decide) rfl ?_
    refine g_iinc E [(3, iv (x3 + 1)), (2, iv y0), (0, .ref (ad 0)), (1, iv x1)] gdX12_on_38 3 rfl (by decide) rfl ?_
    refine g_goto E 5 gdX12_on_41 (by decide) ?_
    refine g_sub E [2, 3, 1, 0] rfl ?_
    exact k0 y0 (x3 + 1) (Option.some.inj h).symm
  have j36 : ∀ (x1 : Int) (x2 : Int) (x3 : Int) (v : (Int × Int) ⊕ ((Int))), b_X12_on_36 o x1 x2 x3 = some v → (∀ (x2 : Int) (x3 : Int), v = .inl (x2, x3) → Go X 5 (wM g ad o) [(0, .ref (ad 0)), (1, iv x1), (2, iv x2), (3, iv x3)] []) → (∀ (x2 : Int), v = .inr (x2) → Go X 44 (wM g ad o) [(2, iv x2)] []) → Go X 36 (wM g ad o) [(0, .ref (ad 0)), (1, iv x1), (2, iv x2), (3, iv x3)] [] := by
    intro x1 x2 x3 v h k0 k1
    unfold b_X12_on_36 at h
    refine g_iload_n E gdX12_on_36 rfl 2 rfl ?_
    refine g_sub E [0, 1, 3] rfl ?_
    exact j37 x1 x3 x2 v h k0 k1
  have l5 : ∀ (x1 : Int) (r : (Int)) (s0 : Int × Int), loopW (fun s => l_X12_on_5 o x1 s.1 s.2) s0 = some r → (∀ (x2 : Int), r = (x2) → Go X 44 (wM g ad o) [(2, iv x2)] []) → Go X 5 (wM g ad o) [(0, .ref (ad 0)), (1, iv x1), (2, iv s0.1), (3, iv s0.2)] [] := by
    intro x1 r s0 h k1
    refine loop_rule (Head := fun s0 => Go X 5 (wM g ad o) [(0, .ref (ad 0)), (1, iv x1), (2, iv s0.1), (3, iv s0.2)] []) h ?_
    intro s v h kk kx
    obtain ⟨x2, x3⟩ := s
    have h : l_X12_on_5 o x1 x2 x3 = some v := h
    have k0 : ∀ (x2 : Int) (x3 : Int), v = .inl (x2, x3) → Go X 5 (wM g ad o) [(0, .ref (ad 0)), (1, iv x1), (2, iv x2), (3, iv x3)] [] := fun x2 x3 e => kk (x2, x3) e
    have k1 : ∀ (x2 : Int), v = .inr (x2) → Go X 44 (wM g ad o) [(2, iv x2)] [] := fun x2 e => k1 x2 (kx _ e).symm
    unfold l_X12_on_5 at h
    refine g_iload_n E gdX12_on_5 rfl 3 rfl ?_
    refine g_aload_n E gdX12_on_6 rfl 0 rfl ?_
    refine g_get (T := TX12) E fw_X12 0 (wM_0 g ad o) rfl 17 (by decide) w_1483 rfl rfl gdX12_on_7 ?_
    refine g_icmp_ge E 44 gdX12_on_10 (by decide) h (fun h => ?_) (fun h => ?_)
    ·
      refine g_sub E [2] rfl ?_
      exact k1 x2 (Option.some.inj h).symm
    ·
      refine g_aload_n E gdX12_on_13 rfl 0 rfl ?_
      refine g_get (T := TX12) E fw_X12 0 (wM_0 g ad o) rfl 18 (by decide) w_1484 rfl rfl gdX12_on_14 ?_
      refine g_iload_n E gdX12_on_17 rfl 3 rfl ?_
      obtain ⟨hi1, h⟩ := qIn_of h
      refine g_iald E 13 (wM_13 g ad o) (by decide) hi1 gdX12_on_18 ?_
      obtain ⟨n2, e_n2, h⟩ := qNm_of h
      refine g_nmi e_n2 ?_
      refine g_iload_n E gdX12_on_19 rfl 1 rfl ?_
      refine g_icmp_ne E 36 gdX12_on_20 (by decide) h (fun h => ?_) (fun h => ?_)
      ·
        exact j36 x1 x2 x3 v h k0 k1
      ·
        refine g_aload_n E gdX12_on_23 rfl 0 rfl ?_
        refine g_get (T := TX12) E fw_X12 0 (wM_0 g ad o) rfl 21 (by decide) w_1487 rfl rfl gdX12_on_24 ?_
        refine g_iload_n E gdX12_on_27 rfl 3 rfl ?_
        obtain ⟨hi3, h⟩ := qIn_of h
        refine g_zald E 16 (wM_16 g ad o) (by decide) hi3 gdX12_on_28 ?_
        obtain ⟨n4, e_n4, h⟩ := qNm_of h
        refine g_nmi e_n4 ?_
        refine g_if_ne E 36 gdX12_on_29 (by decide) h (fun h => ?_) (fun h => ?_)
        ·
          exact j36 x1 x2 x3 v h k0 k1
        ·
          refine g_iload_n E gdX12_on_32 rfl 3 rfl ?_
          refine g_goto E 37 gdX12_on_33 (by decide) ?_
          refine g_sub E [0, 1, 3] rfl ?_
          exact j37 x1 x3 x3 v h k0 k1
  have j5 : ∀ (x1 : Int) (x2 : Int) (x3 : Int), e_X12_on_5 o x1 x2 x3 = some v → Go X 5 (wM g ad o) [(0, .ref (ad 0)), (1, iv x1), (2, iv x2), (3, iv x3)] [] := by
    intro x1 x2 x3 h
    unfold e_X12_on_5 at h
    obtain ⟨r, hr, h⟩ := qB_of h
    refine l5 x1 r _ hr ?_
    ·
      intro u0 e
      have e := e.symm
      subst e
      have h : b_X12_on_44 o u0 = some v := h
      exact j44 u0 h
  unfold s_X12_on at h
  refine g_bipush E gdX12_on_0 (by decide) ?_
  refine g_istore_n E [(2, iv (-9)), (0, .ref (ad 0)), (1, iv x1)] gdX12_on_2 rfl (by decide) rfl ?_
  refine g_iconst E gdX12_on_3 ?_
  refine g_istore_n E [(3, iv 0), (2, iv (-9)), (0, .ref (ad 0)), (1, iv x1)] gdX12_on_4 rfl (by decide) rfl ?_
  refine g_sub E [2, 3, 1, 0] rfl ?_
  exact j5 x1 (-9) 0 h
set_option maxHeartbeats 4000000 in
set_option maxRecDepth 100000 in
theorem c_X12_tell (l : Launch) (g : GG) (ad : Nat → Nat) (o : OO) (x1 : Int) (x2 : Int) (v : OO) (h : s_X12_tell o x1 x2 = some v) : CV l g yX12_tell cX12_tell 3 0 0 (wM g ad o) [.ref (ad 0), iv x1, iv x2] (wM g ad v) := by
  refine met_V (by decide) (Nat.le_of_ble_eq_true rfl) ?_
  intro X E hQ
  show Go X 0 (wM g ad o) [(0, .ref (ad 0)), (1, iv x1), (2, iv x2)] []
  unfold s_X12_tell at h
  refine g_aload_n E gdX12_tell_0 rfl 0 rfl ?_
  refine g_get (T := TX12) E fw_X12 0 (wM_0 g ad o) rfl 24 (by decide) w_1490 rfl rfl gdX12_tell_1 ?_
  refine g_aload_n E gdX12_tell_4 rfl 0 rfl ?_
  refine g_get (T := TX12) E fw_X12 0 (wM_0 g ad o) rfl 23 (by decide) w_1489 rfl rfl gdX12_tell_5 ?_
  refine g_iload_n E gdX12_tell_8 rfl 1 rfl ?_
  obtain ⟨hi1, h⟩ := qIn_of h
  obtain ⟨o2, e_o2, h⟩ := qNm_of h
  refine g_iast (ws' := wM g ad o2) E 18 (wM_18 g ad o) (by decide) hi1 (by rw [e_o2]; exact wM_s18 g ad o _ _) gdX12_tell_9 ?_
  refine g_aload_n E gdX12_tell_10 rfl 0 rfl ?_
  refine g_get (T := TX12) E fw_X12 0 (wM_0 g ad o2) rfl 25 (by decide) w_1491 rfl rfl gdX12_tell_11 ?_
  refine g_aload_n E gdX12_tell_14 rfl 0 rfl ?_
  refine g_get (T := TX12) E fw_X12 0 (wM_0 g ad o2) rfl 23 (by decide) w_1489 rfl rfl gdX12_tell_15 ?_
  refine g_aload_n E gdX12_tell_18 rfl 0 rfl ?_
  refine g_get (T := TX12) E fw_X12 0 (wM_0 g ad o2) rfl 4 (by decide) w_1470 rfl rfl gdX12_tell_19 ?_
  obtain ⟨hi3, h⟩ := qIn_of h
  obtain ⟨o4, e_o4, h⟩ := qNm_of h
  refine g_iast (ws' := wM g ad o4) E 19 (wM_19 g ad o2) (by decide) hi3 (by rw [e_o4]; exact wM_s19 g ad o2 _ _) gdX12_tell_22 ?_
  refine g_aload_n E gdX12_tell_23 rfl 0 rfl ?_
  refine g_get (T := TX12) E fw_X12 0 (wM_0 g ad o4) rfl 26 (by decide) w_1492 rfl rfl gdX12_tell_24 ?_
  refine g_aload_n E gdX12_tell_27 rfl 0 rfl ?_
  refine g_get (T := TX12) E fw_X12 0 (wM_0 g ad o4) rfl 23 (by decide) w_1489 rfl rfl gdX12_tell_28 ?_
  refine g_iload_n E gdX12_tell_31 rfl 2 rfl ?_
  obtain ⟨hi5, h⟩ := qIn_of h
  obtain ⟨o6, e_o6, h⟩ := qNm_of h
  refine g_iast (ws' := wM g ad o6) E 20 (wM_20 g ad o4) (by decide) hi5 (by rw [e_o6]; exact wM_s20 g ad o4 _ _) gdX12_tell_32 ?_
  refine g_aload_n E gdX12_tell_33 rfl 0 rfl ?_
  refine g_dup E gdX12_tell_34 rfl ?_
  refine g_get (T := TX12) E fw_X12 0 (wM_0 g ad o6) rfl 23 (by decide) w_1489 rfl rfl gdX12_tell_35 ?_
  refine g_iconst E gdX12_tell_38 ?_
  refine g_iadd E gdX12_tell_39 ?_
  obtain ⟨o7, e_o7, h⟩ := qNm_of h
  refine g_puti (T := TX12) (ws' := wM g ad o7) E fw_X12 tyX12 tyX12_ok nmX12 0 (wM_0 g ad o6) rfl 23 (by decide) w_1489 rfl rfl (by decide +kernel) (Nat.le_of_ble_eq_true rfl) (by rw [e_o7]; exact wM_p0_23 g ad o6 _) gdX12_tell_40 ?_
  exact g_vret E hQ (by rw [← Option.some.inj h]) gdX12_tell_43
set_option maxHeartbeats 4000000 in
set_option maxRecDepth 100000 in
theorem c_X12_building (l : Launch) (g : GG) (ad : Nat → Nat) (o : OO) (x1 : Int) (x2 : Int) (x3 : Int) (x4 : Int) (v : Int × OO) (h : s_X12_building o x1 x2 x3 x4 = some v) : CI l g yX12_building cX12_building 5 (some .int) 2 42 (wM g ad o) [.ref (ad 0), iv x1, iv x2, iv x3, iv x4] v.1 (wM g ad v.2) := by
  refine met_I (by decide) (Nat.le_of_ble_eq_true rfl) ?_
  intro X E hQ
  show Go X 0 (wM g ad o) [(0, .ref (ad 0)), (1, iv x1), (2, iv x2), (3, iv x3), (4, iv x4)] []
  have j34 : ∀ (o : OO), b_X12_building_34 o = some v → Go X 34 (wM g ad o) [] [] := by
    intro o h
    unfold b_X12_building_34 at h
    refine g_iconst E gdX12_building_34 ?_
    exact g_iret E hQ (by rw [← Option.some.inj h]) (by rw [← Option.some.inj h]) gdX12_building_35
  have j54 : ∀ (o : OO), b_X12_building_54 o = some v → Go X 54 (wM g ad o) [] [] := by
    intro o h
    unfold b_X12_building_54 at h
    refine g_bipush E gdX12_building_54 (by decide) ?_
    exact g_iret E hQ (by rw [← Option.some.inj h]) (by rw [← Option.some.inj h]) gdX12_building_56
  have j75 : ∀ (o : OO), b_X12_building_75 o = some v → Go X 75 (wM g ad o) [] [] := by
    intro o h
    unfold b_X12_building_75 at h
    refine g_bipush E gdX12_building_75 (by decide) ?_
    exact g_iret E hQ (by rw [← Option.some.inj h]) (by rw [← Option.some.inj h]) gdX12_building_77
  unfold s_X12_building at h
  refine g_iload_n E gdX12_building_0 rfl 1 rfl ?_
  obtain ⟨r1, hc2, h⟩ := qB_of h
  refine g_Si (r := r1) (As := [iv x1]) (rest := []) (w := wM g ad o) E (c_X12_isCell l g (wM g ad o) x1 r1 hc2) okm_X12_isCell w_1789 w_1788 rfl rfl (Nat.le_of_ble_eq_true rfl) ⟨Nat.le_of_ble_eq_true rfl, Nat.le_of_ble_eq_true rfl⟩ gdX12_building_1 ?_
  refine g_if_eq E 34 gdX12_building_4 (by decide) h (fun h => ?_) (fun h => ?_)
  ·
    refine g_sub E [] rfl ?_
    exact j34 o h
  ·
    refine g_iload_n E gdX12_building_7 rfl 2 rfl ?_
    refine g_iconst E gdX12_building_8 ?_
    refine g_iconst E gdX12_building_9 ?_
    obtain ⟨r3, hc4, h⟩ := qB_of h
    refine g_Si (r := r3) (As := [iv x2, iv 0, iv 2]) (rest := []) (w := wM g ad o) E (c_X12_in l g (wM g ad o) x2 0 2 r3 hc4) okm_X12_in w_1706 w_1705 rfl rfl (Nat.le_of_ble_eq_true rfl) ⟨Nat.le_of_ble_eq_true rfl, Nat.le_of_ble_eq_true rfl⟩ gdX12_building_10 ?_
    refine g_if_eq E 34 gdX12_building_13 (by decide) h (fun h => ?_) (fun h => ?_)
    ·
      refine g_sub E [] rfl ?_
      exact j34 o h
    ·
      refine g_iload_n E gdX12_building_16 rfl 3 rfl ?_
      refine g_iconst E gdX12_building_17 ?_
      refine g_bipush E gdX12_building_18 (by decide) ?_
      obtain ⟨r5, hc6, h⟩ := qB_of h
      refine g_Si (r := r5) (As := [iv x3, iv 0, iv 20]) (rest := []) (w := wM g ad o) E (c_X12_in l g (wM g ad o) x3 0 20 r5 hc6) okm_X12_in w_1706 w_1705 rfl rfl (Nat.le_of_ble_eq_true rfl) ⟨Nat.le_of_ble_eq_true rfl, Nat.le_of_ble_eq_true rfl⟩ gdX12_building_20 ?_
      refine g_if_eq E 34 gdX12_building_23 (by decide) h (fun h => ?_) (fun h => ?_)
      ·
        refine g_sub E [] rfl ?_
        exact j34 o h
      ·
        refine g_iload E gdX12_building_26 4 rfl ?_
        obtain ⟨r7, hc8, h⟩ := qB_of h
        refine g_Si (r := r7) (As := [iv x4]) (rest := []) (w := wM g ad o) E (c_X12_isWorth l g (wM g ad o) x4 r7 hc8) okm_X12_isWorth w_1800 w_1799 rfl rfl (Nat.le_of_ble_eq_true rfl) ⟨Nat.le_of_ble_eq_true rfl, Nat.le_of_ble_eq_true rfl⟩ gdX12_building_28 ?_
        refine g_if_ne E 36 gdX12_building_31 (by decide) h (fun h => ?_) (fun h => ?_)
        ·
          refine g_aload_n E gdX12_building_36 rfl 0 rfl ?_
          refine g_get (T := TX12) E fw_X12 0 (wM_0 g ad o) rfl 17 (by decide) w_1483 rfl rfl gdX12_building_37 ?_
          refine g_bipush E gdX12_building_40 (by decide) ?_
          refine g_icmp_eq E 54 gdX12_building_42 (by decide) h (fun h => ?_) (fun h => ?_)
          ·
            refine g_sub E [] rfl ?_
            exact j54 o h
          ·
            refine g_aload_n E gdX12_building_45 rfl 0 rfl ?_
            refine g_get (T := TX12) E fw_X12 0 (wM_0 g ad o) rfl 23 (by decide) w_1489 rfl rfl gdX12_building_46 ?_
            refine g_bipush E gdX12_building_49 (by decide) ?_
            refine g_icmp_ne E 57 gdX12_building_51 (by decide) h (fun h => ?_) (fun h => ?_)
            ·
              refine g_aload_n E gdX12_building_57 rfl 0 rfl ?_
              refine g_get (T := TX12) E fw_X12 0 (wM_0 g ad o) rfl 15 (by decide) w_1481 rfl rfl gdX12_building_58 ?_
              refine g_iload_n E gdX12_building_61 rfl 1 rfl ?_
              obtain ⟨hi9, h⟩ := qIn_of h
              refine g_iald E 11 (wM_11 g ad o) (by decide) hi9 gdX12_building_62 ?_
              obtain ⟨n10, e_n10, h⟩ := qNm_of h
              refine g_nmi e_n10 ?_
              refine g_iconst E gdX12_building_63 ?_
              refine g_icmp_eq E 75 gdX12_building_64 (by decide) h (fun h => ?_) (fun h => ?_)
              ·
                refine g_sub E [] rfl ?_
                exact j75 o h
              ·
                refine g_aload_n E gdX12_building_67 rfl 0 rfl ?_
                refine g_iload_n E gdX12_building_68 rfl 1 rfl ?_
                obtain ⟨r11, hc12, h⟩ := qB_of h
                refine g_Vi (r := r11) (As := [iv x1]) (rest := []) (w := wM g ad o) E (c_X12_on l g ad o x1 r11 hc12) okm_X12_on okw_X12_on w_1791 rfl (wM_0 g ad o) rfl rfl (Nat.le_of_ble_eq_true rfl) ⟨Nat.le_of_ble_eq_true rfl, Nat.le_of_ble_eq_true rfl⟩ gdX12_building_69 ?_
                refine g_if_lt E 78 gdX12_building_72 (by decide) h (fun h => ?_) (fun h => ?_)
                ·
                  refine g_aload_n E gdX12_building_78 rfl 0 rfl ?_
                  refine g_get (T := TX12) E fw_X12 0 (wM_0 g ad o) rfl 18 (by decide) w_1484 rfl rfl gdX12_building_79 ?_
                  refine g_aload_n E gdX12_building_82 rfl 0 rfl ?_
                  refine g_get (T := TX12) E fw_X12 0 (wM_0 g ad o) rfl 17 (by decide) w_1483 rfl rfl gdX12_building_83 ?_
                  refine g_iload_n E gdX12_building_86 rfl 1 rfl ?_
                  obtain ⟨hi13, h⟩ := qIn_of h
                  obtain ⟨o14, e_o14, h⟩ := qNm_of h
                  refine g_iast (ws' := wM g ad o14) E 13 (wM_13 g ad o) (by decide) hi13 (by rw [e_o14]; exact wM_s13 g ad o _ _) gdX12_building_87 ?_
                  refine g_aload_n E gdX12_building_88 rfl 0 rfl ?_
                  refine g_get (T := TX12) E fw_X12 0 (wM_0 g ad o14) rfl 19 (by decide) w_1485 rfl rfl gdX12_building_89 ?_
                  refine g_aload_n E gdX12_building_92 rfl 0 rfl ?_
                  refine g_get (T := TX12) E fw_X12 0 (wM_0 g ad o14) rfl 17 (by decide) w_1483 rfl rfl gdX12_building_93 ?_
                  refine g_iload_n E gdX12_building_96 rfl 2 rfl ?_
                  obtain ⟨hi15, h⟩ := qIn_of h
                  obtain ⟨o16, e_o16, h⟩ := qNm_of h
                  refine g_iast (ws' := wM g ad o16) E 14 (wM_14 g ad o14) (by decide) hi15 (by rw [e_o16]; exact wM_s14 g ad o14 _ _) gdX12_building_97 ?_
                  refine g_aload_n E gdX12_building_98 rfl 0 rfl ?_
                  refine g_get (T := TX12) E fw_X12 0 (wM_0 g ad o16) rfl 20 (by decide) w_1486 rfl rfl gdX12_building_99 ?_
                  refine g_aload_n E gdX12_building_102 rfl 0 rfl ?_
                  refine g_get (T := TX12) E fw_X12 0 (wM_0 g ad o16) rfl 17 (by decide) w_1483 rfl rfl gdX12_building_103 ?_
                  refine g_iload_n E gdX12_building_106 rfl 3 rfl ?_
                  obtain ⟨hi17, h⟩ := qIn_of h
                  obtain ⟨o18, e_o18, h⟩ := qNm_of h
                  refine g_iast (ws' := wM g ad o18) E 15 (wM_15 g ad o16) (by decide) hi17 (by rw [e_o18]; exact wM_s15 g ad o16 _ _) gdX12_building_107 ?_
                  refine g_aload_n E gdX12_building_108 rfl 0 rfl ?_
                  refine g_get (T := TX12) E fw_X12 0 (wM_0 g ad o18) rfl 22 (by decide) w_1488 rfl rfl gdX12_building_109 ?_
                  refine g_aload_n E gdX12_building_112 rfl 0 rfl ?_
                  refine g_get (T := TX12) E fw_X12 0 (wM_0 g ad o18) rfl 17 (by decide) w_1483 rfl rfl gdX12_building_113 ?_
                  refine g_bipush E gdX12_building_116 (by decide) ?_
                  obtain ⟨hi19, h⟩ := qIn_of h
                  obtain ⟨o20, e_o20, h⟩ := qNm_of h
                  refine g_iast (ws' := wM g ad o20) E 17 (wM_17 g ad o18) (by decide) hi19 (by rw [e_o20]; exact wM_s17 g ad o18 _ _) gdX12_building_118 ?_
                  refine g_aload_n E gdX12_building_119 rfl 0 rfl ?_
                  refine g_aload_n E gdX12_building_120 rfl 0 rfl ?_
                  refine g_get (T := TX12) E fw_X12 0 (wM_0 g ad o20) rfl 17 (by decide) w_1483 rfl rfl gdX12_building_121 ?_
                  refine g_iload E gdX12_building_124 4 rfl ?_
                  obtain ⟨o23, hc22, h⟩ := qB_of h
                  refine g_Vv (As := [iv (o20.1 0 17), iv x4]) (rest := []) (w := wM g ad o23) E (c_X12_tell l g ad o20 (o20.1 0 17) x4 o23 hc22) okm_X12_tell okw_X12_tell w_1803 rfl (wM_0 g ad o20) rfl rfl (Nat.le_of_ble_eq_true rfl) ⟨Nat.le_of_ble_eq_true rfl, Nat.le_of_ble_eq_true rfl⟩ gdX12_building_126 ?_
                  refine g_aload_n E gdX12_building_129 rfl 0 rfl ?_
                  refine g_dup E gdX12_building_130 rfl ?_
                  refine g_get (T := TX12) E fw_X12 0 (wM_0 g ad o23) rfl 17 (by decide) w_1483 rfl rfl gdX12_building_131 ?_
                  refine g_iconst E gdX12_building_134 ?_
                  refine g_iadd E gdX12_building_135 ?_
                  obtain ⟨o24, e_o24, h⟩ := qNm_of h
                  refine g_puti (T := TX12) (ws' := wM g ad o24) E fw_X12 tyX12 tyX12_ok nmX12 0 (wM_0 g ad o23) rfl 17 (by decide) w_1483 rfl rfl (by decide +kernel) (Nat.le_of_ble_eq_true rfl) (by rw [e_o24]; exact wM_p0_17 g ad o23 _) gdX12_building_136 ?_
                  refine g_aload_n E gdX12_building_139 rfl 0 rfl ?_
                  refine g_get (T := TX12) E fw_X12 0 (wM_0 g ad o24) rfl 17 (by decide) w_1483 rfl rfl gdX12_building_140 ?_
                  refine g_iconst E gdX12_building_143 ?_
                  refine g_isub E gdX12_building_144 ?_
                  exact g_iret E hQ (by rw [← Option.some.inj h]) (by rw [← Option.some.inj h]) gdX12_building_145
                ·
                  refine g_sub E [] rfl ?_
                  exact j75 o h
            ·
              refine g_sub E [] rfl ?_
              exact j54 o h
        ·
          refine g_sub E [] rfl ?_
          exact j34 o h
set_option maxHeartbeats 4000000 in
set_option maxRecDepth 100000 in
theorem c_X12_isBuilding (l : Launch) (g : GG) (ad : Nat → Nat) (o : OO) (x1 : Int) (v : Int) (h : s_X12_isBuilding o x1 = some v) : CI l g yX12_isBuilding cX12_isBuilding 2 (some .boolean) 1 22 (wM g ad o) [.ref (ad 0), iv x1] v (wM g ad o) := by
  refine met_I (by decide) (Nat.le_of_ble_eq_true rfl) ?_
  intro X E hQ
  show Go X 0 (wM g ad o) [(0, .ref (ad 0)), (1, iv x1)] []
  unfold s_X12_isBuilding at h
  refine g_iload_n E gdX12_isBuilding_0 rfl 1 rfl ?_
  refine g_iconst E gdX12_isBuilding_1 ?_
  refine g_aload_n E gdX12_isBuilding_2 rfl 0 rfl ?_
  refine g_get (T := TX12) E fw_X12 0 (wM_0 g ad o) rfl 17 (by decide) w_1483 rfl rfl gdX12_isBuilding_3 ?_
  refine g_iconst E gdX12_isBuilding_6 ?_
  refine g_isub E gdX12_isBuilding_7 ?_
  obtain ⟨r1, hc2, h⟩ := qB_of h
  refine g_Si (r := r1) (As := [iv x1, iv 0, iv ((o.1 0 17) - 1)]) (rest := []) (w := wM g ad o) E (c_X12_in l g (wM g ad o) x1 0 ((o.1 0 17) - 1) r1 hc2) okm_X12_in w_1706 w_1705 rfl rfl (Nat.le_of_ble_eq_true rfl) ⟨Nat.le_of_ble_eq_true rfl, Nat.le_of_ble_eq_true rfl⟩ gdX12_isBuilding_8 ?_
  obtain ⟨hz, h⟩ := qZ_of h
  exact g_zret E hQ hz (Option.some.inj h) rfl gdX12_isBuilding_11
set_option maxHeartbeats 4000000 in
set_option maxRecDepth 100000 in
theorem c_X12_isPerson (l : Launch) (g : GG) (ad : Nat → Nat) (o : OO) (x1 : Int) (v : Int) (h : s_X12_isPerson o x1 = some v) : CI l g yX12_isPerson cX12_isPerson 2 (some .boolean) 1 22 (wM g ad o) [.ref (ad 0), iv x1] v (wM g ad o) := by
  refine met_I (by decide) (Nat.le_of_ble_eq_true rfl) ?_
  intro X E hQ
  show Go X 0 (wM g ad o) [(0, .ref (ad 0)), (1, iv x1)] []
  unfold s_X12_isPerson at h
  refine g_iload_n E gdX12_isPerson_0 rfl 1 rfl ?_
  refine g_iconst E gdX12_isPerson_1 ?_
  refine g_aload_n E gdX12_isPerson_2 rfl 0 rfl ?_
  refine g_get (T := TX12) E fw_X12 0 (wM_0 g ad o) rfl 27 (by decide) w_1493 rfl rfl gdX12_isPerson_3 ?_
  refine g_iconst E gdX12_isPerson_6 ?_
  refine g_isub E gdX12_isPerson_7 ?_
  obtain ⟨r1, hc2, h⟩ := qB_of h
  refine g_Si (r := r1) (As := [iv x1, iv 0, iv ((o.1 0 27) - 1)]) (rest := []) (w := wM g ad o) E (c_X12_in l g (wM g ad o) x1 0 ((o.1 0 27) - 1) r1 hc2) okm_X12_in w_1706 w_1705 rfl rfl (Nat.le_of_ble_eq_true rfl) ⟨Nat.le_of_ble_eq_true rfl, Nat.le_of_ble_eq_true rfl⟩ gdX12_isPerson_8 ?_
  obtain ⟨hz, h⟩ := qZ_of h
  exact g_zret E hQ hz (Option.some.inj h) rfl gdX12_isPerson_11
set_option maxHeartbeats 4000000 in
set_option maxRecDepth 100000 in
theorem c_X12_buy (l : Launch) (g : GG) (ad : Nat → Nat) (o : OO) (x1 : Int) (x2 : Int) (v : Int × OO) (h : s_X12_buy o x1 x2 = some v) : CI l g yX12_buy cX12_buy 3 (some .int) 2 43 (wM g ad o) [.ref (ad 0), iv x1, iv x2] v.1 (wM g ad v.2) := by
  refine met_I (by decide) (Nat.le_of_ble_eq_true rfl) ?_
  intro X E hQ
  show Go X 0 (wM g ad o) [(0, .ref (ad 0)), (1, iv x1), (2, iv x2)] []
  have j16 : ∀ (o : OO), b_X12_buy_16 o = some v → Go X 16 (wM g ad o) [] [] := by
    intro o h
    unfold b_X12_buy_16 at h
    refine g_iconst E gdX12_buy_16 ?_
    exact g_iret E hQ (by rw [← Option.some.inj h]) (by rw [← Option.some.inj h]) gdX12_buy_17
  unfold s_X12_buy at h
  refine g_aload_n E gdX12_buy_0 rfl 0 rfl ?_
  refine g_iload_n E gdX12_buy_1 rfl 1 rfl ?_
  obtain ⟨r1, hc2, h⟩ := qB_of h
  refine g_Vi (r := r1) (As := [iv x1]) (rest := []) (w := wM g ad o) E (c_X12_isBuilding l g ad o x1 r1 hc2) okm_X12_isBuilding okw_X12_isBuilding w_1811 rfl (wM_0 g ad o) rfl rfl (Nat.le_of_ble_eq_true rfl) ⟨Nat.le_of_ble_eq_true rfl, Nat.le_of_ble_eq_true rfl⟩ gdX12_buy_2 ?_
  refine g_if_eq E 16 gdX12_buy_5 (by decide) h (fun h => ?_) (fun h => ?_)
  ·
    refine g_sub E [] rfl ?_
    exact j16 o h
  ·
    refine g_aload_n E gdX12_buy_8 rfl 0 rfl ?_
    refine g_iload_n E gdX12_buy_9 rfl 2 rfl ?_
    obtain ⟨r3, hc4, h⟩ := qB_of h
    refine g_Vi (r := r3) (As := [iv x2]) (rest := []) (w := wM g ad o) E (c_X12_isPerson l g ad o x2 r3 hc4) okm_X12_isPerson okw_X12_isPerson w_1851 rfl (wM_0 g ad o) rfl rfl (Nat.le_of_ble_eq_true rfl) ⟨Nat.le_of_ble_eq_true rfl, Nat.le_of_ble_eq_true rfl⟩ gdX12_buy_10 ?_
    refine g_if_ne E 18 gdX12_buy_13 (by decide) h (fun h => ?_) (fun h => ?_)
    ·
      refine g_aload_n E gdX12_buy_18 rfl 0 rfl ?_
      refine g_get (T := TX12) E fw_X12 0 (wM_0 g ad o) rfl 48 (by decide) w_1514 rfl rfl gdX12_buy_19 ?_
      refine g_bipush E gdX12_buy_22 (by decide) ?_
      refine g_icmp_ne E 30 gdX12_buy_24 (by decide) h (fun h => ?_) (fun h => ?_)
      ·
        refine g_aload_n E gdX12_buy_30 rfl 0 rfl ?_
        refine g_get (T := TX12) E fw_X12 0 (wM_0 g ad o) rfl 21 (by decide) w_1487 rfl rfl gdX12_buy_31 ?_
        refine g_iload_n E gdX12_buy_34 rfl 1 rfl ?_
        obtain ⟨hi5, h⟩ := qIn_of h
        refine g_zald E 16 (wM_16 g ad o) (by decide) hi5 gdX12_buy_35 ?_
        obtain ⟨n6, e_n6, h⟩ := qNm_of h
        refine g_nmi e_n6 ?_
        refine g_if_eq E 42 gdX12_buy_36 (by decide) h (fun h => ?_) (fun h => ?_)
        ·
          refine g_aload_n E gdX12_buy_42 rfl 0 rfl ?_
          refine g_get (T := TX12) E fw_X12 0 (wM_0 g ad o) rfl 49 (by decide) w_1515 rfl rfl gdX12_buy_43 ?_
          refine g_aload_n E gdX12_buy_46 rfl 0 rfl ?_
          refine g_get (T := TX12) E fw_X12 0 (wM_0 g ad o) rfl 48 (by decide) w_1514 rfl rfl gdX12_buy_47 ?_
          refine g_iload_n E gdX12_buy_50 rfl 1 rfl ?_
          obtain ⟨hi7, h⟩ := qIn_of h
          obtain ⟨o8, e_o8, h⟩ := qNm_of h
          refine g_iast (ws' := wM g ad o8) E 40 (wM_40 g ad o) (by decide) hi7 (by rw [e_o8]; exact wM_s40 g ad o _ _) gdX12_buy_51 ?_
          refine g_aload_n E gdX12_buy_52 rfl 0 rfl ?_
          refine g_get (T := TX12) E fw_X12 0 (wM_0 g ad o8) rfl 50 (by decide) w_1516 rfl rfl gdX12_buy_53 ?_
          refine g_aload_n E gdX12_buy_56 rfl 0 rfl ?_
          refine g_get (T := TX12) E fw_X12 0 (wM_0 g ad o8) rfl 48 (by decide) w_1514 rfl rfl gdX12_buy_57 ?_
          refine g_iload_n E gdX12_buy_60 rfl 2 rfl ?_
          obtain ⟨hi9, h⟩ := qIn_of h
          obtain ⟨o10, e_o10, h⟩ := qNm_of h
          refine g_iast (ws' := wM g ad o10) E 41 (wM_41 g ad o8) (by decide) hi9 (by rw [e_o10]; exact wM_s41 g ad o8 _ _) gdX12_buy_61 ?_
          refine g_aload_n E gdX12_buy_62 rfl 0 rfl ?_
          refine g_get (T := TX12) E fw_X12 0 (wM_0 g ad o10) rfl 51 (by decide) w_1517 rfl rfl gdX12_buy_63 ?_
          refine g_aload_n E gdX12_buy_66 rfl 0 rfl ?_
          refine g_get (T := TX12) E fw_X12 0 (wM_0 g ad o10) rfl 48 (by decide) w_1514 rfl rfl gdX12_buy_67 ?_
          refine g_aload_n E gdX12_buy_70 rfl 0 rfl ?_
          refine g_get (T := TX12) E fw_X12 0 (wM_0 g ad o10) rfl 4 (by decide) w_1470 rfl rfl gdX12_buy_71 ?_
          obtain ⟨hi11, h⟩ := qIn_of h
          obtain ⟨o12, e_o12, h⟩ := qNm_of h
          refine g_iast (ws' := wM g ad o12) E 42 (wM_42 g ad o10) (by decide) hi11 (by rw [e_o12]; exact wM_s42 g ad o10 _ _) gdX12_buy_74 ?_
          refine g_aload_n E gdX12_buy_75 rfl 0 rfl ?_
          refine g_dup E gdX12_buy_76 rfl ?_
          refine g_get (T := TX12) E fw_X12 0 (wM_0 g ad o12) rfl 48 (by decide) w_1514 rfl rfl gdX12_buy_77 ?_
          refine g_iconst E gdX12_buy_80 ?_
          refine g_iadd E gdX12_buy_81 ?_
          obtain ⟨o13, e_o13, h⟩ := qNm_of h
          refine g_puti (T := TX12) (ws' := wM g ad o13) E fw_X12 tyX12 tyX12_ok nmX12 0 (wM_0 g ad o12) rfl 48 (by decide) w_1514 rfl rfl (by decide +kernel) (Nat.le_of_ble_eq_true rfl) (by rw [e_o13]; exact wM_p0_48 g ad o12 _) gdX12_buy_82 ?_
          refine g_aload_n E gdX12_buy_85 rfl 0 rfl ?_
          refine g_get (T := TX12) E fw_X12 0 (wM_0 g ad o13) rfl 22 (by decide) w_1488 rfl rfl gdX12_buy_86 ?_
          refine g_iload_n E gdX12_buy_89 rfl 1 rfl ?_
          refine g_iload_n E gdX12_buy_90 rfl 2 rfl ?_
          obtain ⟨hi14, h⟩ := qIn_of h
          obtain ⟨o15, e_o15, h⟩ := qNm_of h
          refine g_iast (ws' := wM g ad o15) E 17 (wM_17 g ad o13) (by decide) hi14 (by rw [e_o15]; exact wM_s17 g ad o13 _ _) gdX12_buy_91 ?_
          refine g_aload_n E gdX12_buy_92 rfl 0 rfl ?_
          refine g_get (T := TX12) E fw_X12 0 (wM_0 g ad o15) rfl 48 (by decide) w_1514 rfl rfl gdX12_buy_93 ?_
          exact g_iret E hQ (by rw [← Option.some.inj h]) (by rw [← Option.some.inj h]) gdX12_buy_96
        ·
          refine g_bipush E gdX12_buy_39 (by decide) ?_
          exact g_iret E hQ (by rw [← Option.some.inj h]) (by rw [← Option.some.inj h]) gdX12_buy_41
      ·
        refine g_bipush E gdX12_buy_27 (by decide) ?_
        exact g_iret E hQ (by rw [← Option.some.inj h]) (by rw [← Option.some.inj h]) gdX12_buy_29
    ·
      refine g_sub E [] rfl ?_
      exact j16 o h
set_option maxHeartbeats 4000000 in
set_option maxRecDepth 100000 in
theorem c_X12_cell (l : Launch) (g : GG) (ad : Nat → Nat) (o : OO) (x1 : Int) (x2 : Int) (x3 : Int) (v : Int × OO) (h : s_X12_cell o x1 x2 x3 = some v) : CI l g yX12_cell cX12_cell 4 (some .int) 2 42 (wM g ad o) [.ref (ad 0), iv x1, iv x2, iv x3] v.1 (wM g ad v.2) := by
  refine met_I (by decide) (Nat.le_of_ble_eq_true rfl) ?_
  intro X E hQ
  show Go X 0 (wM g ad o) [(0, .ref (ad 0)), (1, iv x1), (2, iv x2), (3, iv x3)] []
  have j26 : ∀ (o : OO), b_X12_cell_26 o = some v → Go X 26 (wM g ad o) [] [] := by
    intro o h
    unfold b_X12_cell_26 at h
    refine g_iconst E gdX12_cell_26 ?_
    exact g_iret E hQ (by rw [← Option.some.inj h]) (by rw [← Option.some.inj h]) gdX12_cell_27
  have j44 : ∀ (o : OO) (x1 : Int) (x2 : Int) (x3 : Int), b_X12_cell_44 o x1 x2 x3 = some v → Go X 44 (wM g ad o) [(0, .ref (ad 0)), (1, iv x1), (2, iv x2), (3, iv x3)] [] := by
    intro o x1 x2 x3 h
    unfold b_X12_cell_44 at h
    refine g_aload_n E gdX12_cell_44 rfl 0 rfl ?_
    refine g_get (T := TX12) E fw_X12 0 (wM_0 g ad o) rfl 15 (by decide) w_1481 rfl rfl gdX12_cell_45 ?_
    refine g_iload_n E gdX12_cell_48 rfl 1 rfl ?_
    refine g_iload_n E gdX12_cell_49 rfl 2 rfl ?_
    obtain ⟨hi1, h⟩ := qIn_of h
    obtain ⟨o2, e_o2, h⟩ := qNm_of h
    refine g_iast (ws' := wM g ad o2) E 11 (wM_11 g ad o) (by decide) hi1 (by rw [e_o2]; exact wM_s11 g ad o _ _) gdX12_cell_50 ?_
    refine g_aload_n E gdX12_cell_51 rfl 0 rfl ?_
    refine g_get (T := TX12) E fw_X12 0 (wM_0 g ad o2) rfl 16 (by decide) w_1482 rfl rfl gdX12_cell_52 ?_
    refine g_iload_n E gdX12_cell_55 rfl 1 rfl ?_
    refine g_iload_n E gdX12_cell_56 rfl 3 rfl ?_
    obtain ⟨hi3, h⟩ := qIn_of h
    obtain ⟨o4, e_o4, h⟩ := qNm_of h
    refine g_iast (ws' := wM g ad o4) E 12 (wM_12 g ad o2) (by decide) hi3 (by rw [e_o4]; exact wM_s12 g ad o2 _ _) gdX12_cell_57 ?_
    refine g_iconst E gdX12_cell_58 ?_
    exact g_iret E hQ (by rw [← Option.some.inj h]) (by rw [← Option.some.inj h]) gdX12_cell_59
  unfold s_X12_cell at h
  refine g_iload_n E gdX12_cell_0 rfl 1 rfl ?_
  obtain ⟨r5, hc6, h⟩ := qB_of h
  refine g_Si (r := r5) (As := [iv x1]) (rest := []) (w := wM g ad o) E (c_X12_isCell l g (wM g ad o) x1 r5 hc6) okm_X12_isCell w_1789 w_1788 rfl rfl (Nat.le_of_ble_eq_true rfl) ⟨Nat.le_of_ble_eq_true rfl, Nat.le_of_ble_eq_true rfl⟩ gdX12_cell_1 ?_
  refine g_if_eq E 26 gdX12_cell_4 (by decide) h (fun h => ?_) (fun h => ?_)
  ·
    refine g_sub E [] rfl ?_
    exact j26 o h
  ·
    refine g_iload_n E gdX12_cell_7 rfl 2 rfl ?_
    refine g_iconst E gdX12_cell_8 ?_
    refine g_iconst E gdX12_cell_9 ?_
    obtain ⟨r7, hc8, h⟩ := qB_of h
    refine g_Si (r := r7) (As := [iv x2, iv 0, iv 4]) (rest := []) (w := wM g ad o) E (c_X12_in l g (wM g ad o) x2 0 4 r7 hc8) okm_X12_in w_1706 w_1705 rfl rfl (Nat.le_of_ble_eq_true rfl) ⟨Nat.le_of_ble_eq_true rfl, Nat.le_of_ble_eq_true rfl⟩ gdX12_cell_10 ?_
    refine g_if_eq E 26 gdX12_cell_13 (by decide) h (fun h => ?_) (fun h => ?_)
    ·
      refine g_sub E [] rfl ?_
      exact j26 o h
    ·
      refine g_iload_n E gdX12_cell_16 rfl 3 rfl ?_
      refine g_iconst E gdX12_cell_17 ?_
      refine g_bipush E gdX12_cell_18 (by decide) ?_
      obtain ⟨r9, hc10, h⟩ := qB_of h
      refine g_Si (r := r9) (As := [iv x3, iv 0, iv 99]) (rest := []) (w := wM g ad o) E (c_X12_in l g (wM g ad o) x3 0 99 r9 hc10) okm_X12_in w_1706 w_1705 rfl rfl (Nat.le_of_ble_eq_true rfl) ⟨Nat.le_of_ble_eq_true rfl, Nat.le_of_ble_eq_true rfl⟩ gdX12_cell_20 ?_
      refine g_if_ne E 28 gdX12_cell_23 (by decide) h (fun h => ?_) (fun h => ?_)
      ·
        refine g_iload_n E gdX12_cell_28 rfl 2 rfl ?_
        refine g_iconst E gdX12_cell_29 ?_
        refine g_icmp_ne E 44 gdX12_cell_30 (by decide) h (fun h => ?_) (fun h => ?_)
        ·
          exact j44 o x1 x2 x3 h
        ·
          refine g_aload_n E gdX12_cell_33 rfl 0 rfl ?_
          refine g_iload_n E gdX12_cell_34 rfl 1 rfl ?_
          obtain ⟨r11, hc12, h⟩ := qB_of h
          refine g_Vi (r := r11) (As := [iv x1]) (rest := []) (w := wM g ad o) E (c_X12_on l g ad o x1 r11 hc12) okm_X12_on okw_X12_on w_1791 rfl (wM_0 g ad o) rfl rfl (Nat.le_of_ble_eq_true rfl) ⟨Nat.le_of_ble_eq_true rfl, Nat.le_of_ble_eq_true rfl⟩ gdX12_cell_35 ?_
          refine g_if_lt E 44 gdX12_cell_38 (by decide) h (fun h => ?_) (fun h => ?_)
          ·
            exact j44 o x1 x2 x3 h
          ·
            refine g_bipush E gdX12_cell_41 (by decide) ?_
            exact g_iret E hQ (by rw [← Option.some.inj h]) (by rw [← Option.some.inj h]) gdX12_cell_43
      ·
        refine g_sub E [] rfl ?_
        exact j26 o h
set_option maxHeartbeats 4000000 in
set_option maxRecDepth 100000 in
theorem c_X12_isMark (l : Launch) (g : GG) (ad : Nat → Nat) (o : OO) (x1 : Int) (v : Int) (h : s_X12_isMark o x1 = some v) : CI l g yX12_isMark cX12_isMark 2 (some .boolean) 1 22 (wM g ad o) [.ref (ad 0), iv x1] v (wM g ad o) := by
  refine met_I (by decide) (Nat.le_of_ble_eq_true rfl) ?_
  intro X E hQ
  show Go X 0 (wM g ad o) [(0, .ref (ad 0)), (1, iv x1)] []
  unfold s_X12_isMark at h
  refine g_iload_n E gdX12_isMark_0 rfl 1 rfl ?_
  refine g_iconst E gdX12_isMark_1 ?_
  refine g_aload_n E gdX12_isMark_2 rfl 0 rfl ?_
  refine g_get (T := TX12) E fw_X12 0 (wM_0 g ad o) rfl 32 (by decide) w_1498 rfl rfl gdX12_isMark_3 ?_
  refine g_iconst E gdX12_isMark_6 ?_
  refine g_isub E gdX12_isMark_7 ?_
  obtain ⟨r1, hc2, h⟩ := qB_of h
  refine g_Si (r := r1) (As := [iv x1, iv 0, iv ((o.1 0 32) - 1)]) (rest := []) (w := wM g ad o) E (c_X12_in l g (wM g ad o) x1 0 ((o.1 0 32) - 1) r1 hc2) okm_X12_in w_1706 w_1705 rfl rfl (Nat.le_of_ble_eq_true rfl) ⟨Nat.le_of_ble_eq_true rfl, Nat.le_of_ble_eq_true rfl⟩ gdX12_isMark_8 ?_
  obtain ⟨hz, h⟩ := qZ_of h
  exact g_zret E hQ hz (Option.some.inj h) rfl gdX12_isMark_11
set_option maxHeartbeats 4000000 in
set_option maxRecDepth 100000 in
theorem c_X12_isLine (l : Launch) (g : GG) (ad : Nat → Nat) (o : OO) (x1 : Int) (v : Int) (h : s_X12_isLine o x1 = some v) : CI l g yX12_isLine cX12_isLine 2 (some .boolean) 0 0 (wM g ad o) [.ref (ad 0), iv x1] v (wM g ad o) := by
  refine met_I (by decide) (Nat.le_of_ble_eq_true rfl) ?_
  intro X E hQ
  show Go X 0 (wM g ad o) [(0, .ref (ad 0)), (1, iv x1)] []
  have j25 : ∀ (y0 : Int), b_X12_isLine_25 o y0 = some v → Go X 25 (wM g ad o) [] [iv y0] := by
    intro y0 h
    unfold b_X12_isLine_25 at h
    obtain ⟨hz, h⟩ := qZ_of h
    exact g_zret E hQ hz (Option.some.inj h) rfl gdX12_isLine_25
  have j20 : b_X12_isLine_20 o = some v → Go X 20 (wM g ad o) [] [] := by
    intro h
    unfold b_X12_isLine_20 at h
    refine g_iconst E gdX12_isLine_20 ?_
    refine g_goto E 25 gdX12_isLine_21 (by decide) ?_
    exact j25 1 h
  unfold s_X12_isLine at h
  refine g_aload_n E gdX12_isLine_0 rfl 0 rfl ?_
  refine g_get (T := TX12) E fw_X12 0 (wM_0 g ad o) rfl 33 (by decide) w_1499 rfl rfl gdX12_isLine_1 ?_
  refine g_iload_n E gdX12_isLine_4 rfl 1 rfl ?_
  obtain ⟨hi1, h⟩ := qIn_of h
  refine g_iald E 25 (wM_25 g ad o) (by decide) hi1 gdX12_isLine_5 ?_
  obtain ⟨n2, e_n2, h⟩ := qNm_of h
  refine g_nmi e_n2 ?_
  refine g_iconst E gdX12_isLine_6 ?_
  refine g_icmp_eq E 20 gdX12_isLine_7 (by decide) h (fun h => ?_) (fun h => ?_)
  ·
    refine g_sub E [] rfl ?_
    exact j20  h
  ·
    refine g_aload_n E gdX12_isLine_10 rfl 0 rfl ?_
    refine g_get (T := TX12) E fw_X12 0 (wM_0 g ad o) rfl 33 (by decide) w_1499 rfl rfl gdX12_isLine_11 ?_
    refine g_iload_n E gdX12_isLine_14 rfl 1 rfl ?_
    obtain ⟨hi3, h⟩ := qIn_of h
    refine g_iald E 25 (wM_25 g ad o) (by decide) hi3 gdX12_isLine_15 ?_
    obtain ⟨n4, e_n4, h⟩ := qNm_of h
    refine g_nmi e_n4 ?_
    refine g_iconst E gdX12_isLine_16 ?_
    refine g_icmp_ne E 24 gdX12_isLine_17 (by decide) h (fun h => ?_) (fun h => ?_)
    ·
      refine g_iconst E gdX12_isLine_24 ?_
      refine g_sub E [] rfl ?_
      exact j25 0 h
    ·
      refine g_sub E [] rfl ?_
      exact j20  h
set_option maxHeartbeats 4000000 in
set_option maxRecDepth 100000 in
theorem c_X12_askedLine (l : Launch) (g : GG) (ad : Nat → Nat) (o : OO) (x1 : Int) (v : Int × OO) (h : s_X12_askedLine o x1 = some v) : CI l g yX12_askedLine cX12_askedLine 2 (some .int) 2 43 (wM g ad o) [.ref (ad 0), iv x1] v.1 (wM g ad v.2) := by
  refine met_I (by decide) (Nat.le_of_ble_eq_true rfl) ?_
  intro X E hQ
  show Go X 0 (wM g ad o) [(0, .ref (ad 0)), (1, iv x1)] []
  have j29 : ∀ (o : OO) (y0 : Int), b_X12_askedLine_29 o y0 = some v → Go X 29 (wM g ad o) [] [iv y0] := by
    intro o y0 h
    unfold b_X12_askedLine_29 at h
    exact g_iret E hQ (by rw [← Option.some.inj h]) (by rw [← Option.some.inj h]) gdX12_askedLine_29
  unfold s_X12_askedLine at h
  refine g_aload_n E gdX12_askedLine_0 rfl 0 rfl ?_
  refine g_iload_n E gdX12_askedLine_1 rfl 1 rfl ?_
  obtain ⟨r1, hc2, h⟩ := qB_of h
  refine g_Vi (r := r1) (As := [iv x1]) (rest := []) (w := wM g ad o) E (c_X12_isMark l g ad o x1 r1 hc2) okm_X12_isMark okw_X12_isMark w_1903 rfl (wM_0 g ad o) rfl rfl (Nat.le_of_ble_eq_true rfl) ⟨Nat.le_of_ble_eq_true rfl, Nat.le_of_ble_eq_true rfl⟩ gdX12_askedLine_2 ?_
  refine g_if_ne E 12 gdX12_askedLine_5 (by decide) h (fun h => ?_) (fun h => ?_)
  ·
    refine g_aload_n E gdX12_askedLine_12 rfl 0 rfl ?_
    refine g_iload_n E gdX12_askedLine_13 rfl 1 rfl ?_
    obtain ⟨r3, hc4, h⟩ := qB_of h
    refine g_Vi (r := r3) (As := [iv x1]) (rest := []) (w := wM g ad o) E (c_X12_isLine l g ad o x1 r3 hc4) okm_X12_isLine okw_X12_isLine w_1907 rfl (wM_0 g ad o) rfl rfl (Nat.le_of_ble_eq_true rfl) ⟨Nat.le_of_ble_eq_true rfl, Nat.le_of_ble_eq_true rfl⟩ gdX12_askedLine_14 ?_
    refine g_if_eq E 24 gdX12_askedLine_17 (by decide) h (fun h => ?_) (fun h => ?_)
    ·
      refine g_aload_n E gdX12_askedLine_24 rfl 0 rfl ?_
      refine g_iconst E gdX12_askedLine_25 ?_
      obtain ⟨r5, o7, hc6, h⟩ := qB2_of h
      refine g_Vi (r := r5) (As := [iv 3]) (rest := []) (w := wM g ad o7) E (c_X12_meets l g ad o 3 (r5, o7) hc6) okm_X12_meets okw_X12_meets w_1708 rfl (wM_0 g ad o) rfl rfl (Nat.le_of_ble_eq_true rfl) ⟨Nat.le_of_ble_eq_true rfl, Nat.le_of_ble_eq_true rfl⟩ gdX12_askedLine_26 ?_
      refine g_sub E [] rfl ?_
      exact j29 o7 r5 h
    ·
      refine g_iconst E gdX12_askedLine_20 ?_
      refine g_goto E 29 gdX12_askedLine_21 (by decide) ?_
      refine g_sub E [] rfl ?_
      exact j29 o 0 h
  ·
    refine g_iconst E gdX12_askedLine_8 ?_
    refine g_goto E 29 gdX12_askedLine_9 (by decide) ?_
    refine g_sub E [] rfl ?_
    exact j29 o (-1) h
set_option maxHeartbeats 4000000 in
set_option maxRecDepth 100000 in
theorem c_X12_cellOf (l : Launch) (g : GG) (ad : Nat → Nat) (o : OO) (x1 : Int) (x2 : Int) (v : Int × OO) (h : s_X12_cellOf o x1 x2 = some v) : CI l g yX12_cellOf cX12_cellOf 4 (some .int) 3 64 (wM g ad o) [.ref (ad 0), iv x1, iv x2] v.1 (wM g ad v.2) := by
  refine met_I (by decide) (Nat.le_of_ble_eq_true rfl) ?_
  intro X E hQ
  show Go X 0 (wM g ad o) [(0, .ref (ad 0)), (1, iv x1), (2, iv x2)] []
  have j46 : ∀ (o : OO) (y0 : Int), b_X12_cellOf_46 o y0 = some v → Go X 46 (wM g ad o) [] [iv y0] := by
    intro o y0 h
    unfold b_X12_cellOf_46 at h
    exact g_iret E hQ (by rw [← Option.some.inj h]) (by rw [← Option.some.inj h]) gdX12_cellOf_46
  unfold s_X12_cellOf at h
  refine g_aload_n E gdX12_cellOf_0 rfl 0 rfl ?_
  refine g_iload_n E gdX12_cellOf_1 rfl 1 rfl ?_
  obtain ⟨r1, o3, hc2, h⟩ := qB2_of h
  refine g_Vi (r := r1) (As := [iv x1]) (rest := []) (w := wM g ad o3) E (c_X12_askedLine l g ad o x1 (r1, o3) hc2) okm_X12_askedLine okw_X12_askedLine w_1925 rfl (wM_0 g ad o) rfl rfl (Nat.le_of_ble_eq_true rfl) ⟨Nat.le_of_ble_eq_true rfl, Nat.le_of_ble_eq_true rfl⟩ gdX12_cellOf_2 ?_
  refine g_istore_n E [(3, iv r1), (0, .ref (ad 0)), (1, iv x1), (2, iv x2)] gdX12_cellOf_5 rfl (by decide) rfl ?_
  refine g_iload_n E gdX12_cellOf_6 rfl 0 rfl ?_
  refine g_if_ge E 14 gdX12_cellOf_7 (by decide) h (fun h => ?_) (fun h => ?_)
  ·
    refine g_iload_n E gdX12_cellOf_14 rfl 3 rfl ?_
    refine g_iconst E gdX12_cellOf_15 ?_
    refine g_aload_n E gdX12_cellOf_16 rfl 1 rfl ?_
    refine g_get (T := TX12) E fw_X12 0 (wM_0 g ad o3) rfl 38 (by decide) w_1504 rfl rfl gdX12_cellOf_17 ?_
    refine g_iload_n E gdX12_cellOf_20 rfl 2 rfl ?_
    obtain ⟨hi4, h⟩ := qIn_of h
    refine g_iald E 30 (wM_30 g ad o3) (by decide) hi4 gdX12_cellOf_21 ?_
    obtain ⟨n5, e_n5, h⟩ := qNm_of h
    refine g_nmi e_n5 ?_
    refine g_iconst E gdX12_cellOf_22 ?_
    refine g_isub E gdX12_cellOf_23 ?_
    obtain ⟨r6, hc7, h⟩ := qB_of h
    refine g_Si (r := r6) (As := [iv x2, iv 0, iv (n5 - 1)]) (rest := []) (w := wM g ad o3) E (c_X12_in l g (wM g ad o3) x2 0 (n5 - 1) r6 hc7) okm_X12_in w_1706 w_1705 rfl rfl (Nat.le_of_ble_eq_true rfl) ⟨Nat.le_of_ble_eq_true rfl, Nat.le_of_ble_eq_true rfl⟩ gdX12_cellOf_24 ?_
    refine g_if_eq E 44 gdX12_cellOf_27 (by decide) h (fun h => ?_) (fun h => ?_)
    ·
      refine g_bipush E gdX12_cellOf_44 (by decide) ?_
      refine g_sub E [] rfl ?_
      exact j46 o3 (-9) h
    ·
      refine g_aload_n E gdX12_cellOf_30 rfl 1 rfl ?_
      refine g_get (T := TX12) E fw_X12 0 (wM_0 g ad o3) rfl 39 (by decide) w_1505 rfl rfl gdX12_cellOf_31 ?_
      refine g_bipush E gdX12_cellOf_34 (by decide) ?_
      refine g_iload_n E gdX12_cellOf_36 rfl 2 rfl ?_
      refine g_imul E gdX12_cellOf_37 ?_
      refine g_iload_n E gdX12_cellOf_38 rfl 3 rfl ?_
      refine g_iadd E gdX12_cellOf_39 ?_
      obtain ⟨hi8, h⟩ := qIn_of h
      refine g_iald E 31 (wM_31 g ad o3) (by decide) hi8 gdX12_cellOf_40 ?_
      obtain ⟨n9, e_n9, h⟩ := qNm_of h
      refine g_nmi e_n9 ?_
      refine g_goto E 46 gdX12_cellOf_41 (by decide) ?_
      refine g_sub E [] rfl ?_
      exact j46 o3 n9 h
  ·
    refine g_iload_n E gdX12_cellOf_10 rfl 0 rfl ?_
    refine g_goto E 46 gdX12_cellOf_11 (by decide) ?_
    refine g_sub E [] rfl ?_
    exact j46 o3 r1 h
set_option maxHeartbeats 4000000 in
set_option maxRecDepth 100000 in
theorem c_X12_coins (l : Launch) (g : GG) (ad : Nat → Nat) (o : OO) (v : Int64) (h : s_X12_coins o = some v) : CL l g yX12_coins cX12_coins 1 (some .long) 0 0 (wM g ad o) [.ref (ad 0)] v (wM g ad o) := by
  refine met_L (by decide) (Nat.le_of_ble_eq_true rfl) ?_
  intro X E hQ
  show Go X 0 (wM g ad o) [(0, .ref (ad 0))] []
  unfold s_X12_coins at h
  refine g_aload_n E gdX12_coins_0 rfl 0 rfl ?_
  refine g_get (T := TX12) E fw_X12 0 (wM_0 g ad o) rfl 64 (by decide) w_1530 rfl rfl gdX12_coins_1 ?_
  exact g_lret E hQ (Option.some.inj h) rfl gdX12_coins_4
set_option maxHeartbeats 4000000 in
set_option maxRecDepth 100000 in
theorem c_X12_copy (l : Launch) (g : GG) (ad : Nat → Nat) (o : OO) (x1 : Int) (x2 : Int) (x3 : Int) (x4 : Int) (x5 : Int) (v : Int × OO) (h : s_X12_copy o x1 x2 x3 x4 x5 = some v) : CI l g yX12_copy cX12_copy 7 (some .int) 2 42 (wM g ad o) [.ref (ad 0), iv x1, iv x2, iv x3, iv x4, iv x5] v.1 (wM g ad v.2) := by
  refine met_I (by decide) (Nat.le_of_ble_eq_true rfl) ?_
  intro X E hQ
  show Go X 0 (wM g ad o) [(0, .ref (ad 0)), (1, iv x1), (2, iv x2), (3, iv x3), (4, iv x4), (5, iv x5)] []
  have j14 : ∀ (o : OO), b_X12_copy_14 o = some v → Go X 14 (wM g ad o) [] [] := by
    intro o h
    unfold b_X12_copy_14 at h
    refine g_iconst E gdX12_copy_14 ?_
    exact g_iret E hQ (by rw [← Option.some.inj h]) (by rw [← Option.some.inj h]) gdX12_copy_15
  have j45 : ∀ (o : OO), b_X12_copy_45 o = some v → Go X 45 (wM g ad o) [(0, .ref (ad 0))] [] := by
    intro o h
    unfold b_X12_copy_45 at h
    refine g_aload_n E gdX12_copy_45 rfl 0 rfl ?_
    refine g_iconst E gdX12_copy_46 ?_
    obtain ⟨r1, o3, hc2, h⟩ := qB2_of h
    refine g_Vi (r := r1) (As := [iv 1]) (rest := []) (w := wM g ad o3) E (c_X12_meets l g ad o 1 (r1, o3) hc2) okm_X12_meets okw_X12_meets w_1708 rfl (wM_0 g ad o) rfl rfl (Nat.le_of_ble_eq_true rfl) ⟨Nat.le_of_ble_eq_true rfl, Nat.le_of_ble_eq_true rfl⟩ gdX12_copy_47 ?_
    exact g_iret E hQ (by rw [← Option.some.inj h]) (by rw [← Option.some.inj h]) gdX12_copy_50
  have j95 : ∀ (o : OO), b_X12_copy_95 o = some v → Go X 95 (wM g ad o) [(0, .ref (ad 0))] [] := by
    intro o h
    unfold b_X12_copy_95 at h
    refine g_aload_n E gdX12_copy_95 rfl 0 rfl ?_
    refine g_iconst E gdX12_copy_96 ?_
    obtain ⟨r4, o6, hc5, h⟩ := qB2_of h
    refine g_Vi (r := r4) (As := [iv 2]) (rest := []) (w := wM g ad o6) E (c_X12_meets l g ad o 2 (r4, o6) hc5) okm_X12_meets okw_X12_meets w_1708 rfl (wM_0 g ad o) rfl rfl (Nat.le_of_ble_eq_true rfl) ⟨Nat.le_of_ble_eq_true rfl, Nat.le_of_ble_eq_true rfl⟩ gdX12_copy_97 ?_
    exact g_iret E hQ (by rw [← Option.some.inj h]) (by rw [← Option.some.inj h]) gdX12_copy_100
  have j176 : ∀ (o : OO), b_X12_copy_176 o = some v → Go X 176 (wM g ad o) [] [] := by
    intro o h
    unfold b_X12_copy_176 at h
    refine g_iconst E gdX12_copy_176 ?_
    exact g_iret E hQ (by rw [← Option.some.inj h]) (by rw [← Option.some.inj h]) gdX12_copy_177
  have l141 : ∀ (x3 : Int) (x4 : Int) (x5 : Int) (r : (OO)) (s0 : OO × Int), loopW (fun s => l_X12_copy_141 x3 x4 x5 s.1 s.2) s0 = some r → (∀ (o : OO), r = (o) → Go X 176 (wM g ad o) [] []) → Go X 141 (wM g ad s0.1) [(0, .ref (ad 0)), (3, iv x3), (4, iv x4), (5, iv x5), (6, iv s0.2)] [] := by
    intro x3 x4 x5 r s0 h k1
    refine loop_rule (Head := fun s0 => Go X 141 (wM g ad s0.1) [(0, .ref (ad 0)), (3, iv x3), (4, iv x4), (5, iv x5), (6, iv s0.2)] []) h ?_
    intro s v h kk kx
    obtain ⟨o, x6⟩ := s
    have h : l_X12_copy_141 x3 x4 x5 o x6 = some v := h
    have k0 : ∀ (o : OO) (x6 : Int), v = .inl (o, x6) → Go X 141 (wM g ad o) [(0, .ref (ad 0)), (3, iv x3), (4, iv x4), (5, iv x5), (6, iv x6)] [] := fun o x6 e => kk (o, x6) e
    have k1 : ∀ (o : OO), v = .inr (o) → Go X 176 (wM g ad o) [] [] := fun o e => k1 o (kx _ e).symm
    unfold l_X12_copy_141 at h
    refine g_iload E gdX12_copy_141 4 rfl ?_
    refine g_iload E gdX12_copy_143 3 rfl ?_
    refine g_icmp_ge E 176 gdX12_copy_145 (by decide) h (fun h => ?_) (fun h => ?_)
    ·
      refine g_sub E [] rfl ?_
      exact k1 o (Option.some.inj h).symm
    ·
      refine g_aload_n E gdX12_copy_148 rfl 0 rfl ?_
      refine g_get (T := TX12) E fw_X12 0 (wM_0 g ad o) rfl 6 (by decide) w_1472 rfl rfl gdX12_copy_149 ?_
      refine g_bipush E gdX12_copy_152 (by decide) ?_
      refine g_iload_n E gdX12_copy_154 rfl 1 rfl ?_
      refine g_imul E gdX12_copy_155 ?_
      refine g_iload E gdX12_copy_156 2 rfl ?_
      refine g_iadd E gdX12_copy_158 ?_
      refine g_iload E gdX12_copy_159 4 rfl ?_
      refine g_iadd E gdX12_copy_161 ?_
      refine g_aload_n E gdX12_copy_162 rfl 0 rfl ?_
      refine g_get (T := TX12) E fw_X12 0 (wM_0 g ad o) rfl 7 (by decide) w_1473 rfl rfl gdX12_copy_163 ?_
      refine g_iload E gdX12_copy_166 4 rfl ?_
      obtain ⟨hi7, h⟩ := qIn_of h
      refine g_iald E 4 (wM_4 g ad o) (by decide) hi7 gdX12_copy_168 ?_
      obtain ⟨n8, e_n8, h⟩ := qNm_of h
      refine g_nmi e_n8 ?_
      obtain ⟨hi9, h⟩ := qIn_of h
      obtain ⟨o10, e_o10, h⟩ := qNm_of h
      refine g_iast (ws' := wM g ad o10) E 3 (wM_3 g ad o) (by decide) hi9 (by rw [e_o10]; exact wM_s3 g ad o _ _) gdX12_copy_169 ?_
      refine g_iinc E [(6, iv (x6 + 1)), (0, .ref (ad 0)), (3, iv x3), (4, iv x4), (5, iv x5)] gdX12_copy_170 4 rfl (by decide) rfl ?_
      refine g_goto E 141 gdX12_copy_173 (by decide) ?_
      refine g_sub E [1, 2, 3, 4, 0] rfl ?_
      exact k0 o10 (x6 + 1) (Option.some.inj h).symm
  have j141 : ∀ (o : OO) (x3 : Int) (x4 : Int) (x5 : Int) (x6 : Int), e_X12_copy_141 o x3 x4 x5 x6 = some v → Go X 141 (wM g ad o) [(0, .ref (ad 0)), (3, iv x3), (4, iv x4), (5, iv x5), (6, iv x6)] [] := by
    intro o x3 x4 x5 x6 h
    unfold e_X12_copy_141 at h
    obtain ⟨r, hr, h⟩ := qB_of h
    refine l141 x3 x4 x5 r _ hr ?_
    ·
      intro u0 e
      have e := e.symm
      subst e
      have h : b_X12_copy_176 u0 = some v := h
      exact j176 u0 h
  have j138 : ∀ (o : OO) (x3 : Int) (x4 : Int) (x5 : Int), b_X12_copy_138 o x3 x4 x5 = some v → Go X 138 (wM g ad o) [(0, .ref (ad 0)), (3, iv x3), (4, iv x4), (5, iv x5)] [] := by
    intro o x3 x4 x5 h
    unfold b_X12_copy_138 at h
    refine g_iconst E gdX12_copy_138 ?_
    refine g_istore E [(6, iv 0), (0, .ref (ad 0)), (3, iv x3), (4, iv x4), (5, iv x5)] gdX12_copy_139 (by decide) rfl ?_
    refine g_sub E [1, 2, 3, 4, 0] rfl ?_
    exact j141 o x3 x4 x5 0 h
  have l104 : ∀ (x1 : Int) (x2 : Int) (x3 : Int) (x4 : Int) (x5 : Int) (r : (OO)) (s0 : OO × Int), loopW (fun s => l_X12_copy_104 x1 x2 x3 x4 x5 s.1 s.2) s0 = some r → (∀ (o : OO), r = (o) → Go X 138 (wM g ad o) [(0, .ref (ad 0)), (3, iv x3), (4, iv x4), (5, iv x5)] []) → Go X 104 (wM g ad s0.1) [(0, .ref (ad 0)), (1, iv x1), (2, iv x2), (3, iv x3), (4, iv x4), (5, iv x5), (6, iv s0.2)] [] := by
    intro x1 x2 x3 x4 x5 r s0 h k1
    refine loop_rule (Head := fun s0 => Go X 104 (wM g ad s0.1) [(0, .ref (ad 0)), (1, iv x1), (2, iv x2), (3, iv x3), (4, iv x4), (5, iv x5), (6, iv s0.2)] []) h ?_
    intro s v h kk kx
    obtain ⟨o, x6⟩ := s
    have h : l_X12_copy_104 x1 x2 x3 x4 x5 o x6 = some v := h
    have k0 : ∀ (o : OO) (x6 : Int), v = .inl (o, x6) → Go X 104 (wM g ad o) [(0, .ref (ad 0)), (1, iv x1), (2, iv x2), (3, iv x3), (4, iv x4), (5, iv x5), (6, iv x6)] [] := fun o x6 e => kk (o, x6) e
    have k1 : ∀ (o : OO), v = .inr (o) → Go X 138 (wM g ad o) [(0, .ref (ad 0)), (3, iv x3), (4, iv x4), (5, iv x5)] [] := fun o e => k1 o (kx _ e).symm
    unfold l_X12_copy_104 at h
    refine g_iload E gdX12_copy_104 6 rfl ?_
    refine g_iload E gdX12_copy_106 5 rfl ?_
    refine g_icmp_ge E 138 gdX12_copy_108 (by decide) h (fun h => ?_) (fun h => ?_)
    ·
      refine g_sub E [0, 3, 4, 5] rfl ?_
      exact k1 o (Option.some.inj h).symm
    ·
      refine g_aload_n E gdX12_copy_111 rfl 0 rfl ?_
      refine g_get (T := TX12) E fw_X12 0 (wM_0 g ad o) rfl 7 (by decide) w_1473 rfl rfl gdX12_copy_112 ?_
      refine g_iload E gdX12_copy_115 6 rfl ?_
      refine g_aload_n E gdX12_copy_117 rfl 0 rfl ?_
      refine g_get (T := TX12) E fw_X12 0 (wM_0 g ad o) rfl 6 (by decide) w_1472 rfl rfl gdX12_copy_118 ?_
      refine g_bipush E gdX12_copy_121 (by decide) ?_
      refine g_iload_n E gdX12_copy_123 rfl 1 rfl ?_
      refine g_imul E gdX12_copy_124 ?_
      refine g_iload_n E gdX12_copy_125 rfl 2 rfl ?_
      refine g_iadd E gdX12_copy_126 ?_
      refine g_iload E gdX12_copy_127 6 rfl ?_
      refine g_iadd E gdX12_copy_129 ?_
      obtain ⟨n11, e_n11, h⟩ := qNm_of h
      refine g_nmi e_n11 ?_
      obtain ⟨hi12, h⟩ := qIn_of h
      refine g_iald E 3 (wM_3 g ad o) (by decide) hi12 gdX12_copy_130 ?_
      obtain ⟨n13, e_n13, h⟩ := qNm_of h
      refine g_nmi e_n13 ?_
      obtain ⟨hi14, h⟩ := qIn_of h
      obtain ⟨o15, e_o15, h⟩ := qNm_of h
      refine g_iast (ws' := wM g ad o15) E 4 (wM_4 g ad o) (by decide) hi14 (by rw [e_o15]; exact wM_s4 g ad o _ _) gdX12_copy_131 ?_
      refine g_iinc E [(6, iv (x6 + 1)), (0, .ref (ad 0)), (1, iv x1), (2, iv x2), (3, iv x3), (4, iv x4), (5, iv x5)] gdX12_copy_132 6 rfl (by decide) rfl ?_
      refine g_goto E 104 gdX12_copy_135 (by decide) ?_
      refine g_sub E [1, 2, 3, 4, 5, 6, 0] rfl ?_
      exact k0 o15 (x6 + 1) (Option.some.inj h).symm
  have j104 : ∀ (o : OO) (x1 : Int) (x2 : Int) (x3 : Int) (x4 : Int) (x5 : Int) (x6 : Int), e_X12_copy_104 o x1 x2 x3 x4 x5 x6 = some v → Go X 104 (wM g ad o) [(0, .ref (ad 0)), (1, iv x1), (2, iv x2), (3, iv x3), (4, iv x4), (5, iv x5), (6, iv x6)] [] := by
    intro o x1 x2 x3 x4 x5 x6 h
    unfold e_X12_copy_104 at h
    obtain ⟨r, hr, h⟩ := qB_of h
    refine l104 x1 x2 x3 x4 x5 r _ hr ?_
    ·
      intro u0 e
      have e := e.symm
      subst e
      have h : b_X12_copy_138 u0 x3 x4 x5 = some v := h
      exact j138 u0 x3 x4 x5 h
  unfold s_X12_copy at h
  refine g_iload_n E gdX12_copy_0 rfl 1 rfl ?_
  obtain ⟨r16, hc17, h⟩ := qB_of h
  refine g_Si (r := r16) (As := [iv x1]) (rest := []) (w := wM g ad o) E (c_X12_isRow l g (wM g ad o) x1 r16 hc17) okm_X12_isRow w_1703 w_1702 rfl rfl (Nat.le_of_ble_eq_true rfl) ⟨Nat.le_of_ble_eq_true rfl, Nat.le_of_ble_eq_true rfl⟩ gdX12_copy_1 ?_
  refine g_if_eq E 14 gdX12_copy_4 (by decide) h (fun h => ?_) (fun h => ?_)
  ·
    refine g_sub E [] rfl ?_
    exact j14 o h
  ·
    refine g_iload_n E gdX12_copy_7 rfl 3 rfl ?_
    obtain ⟨r18, hc19, h⟩ := qB_of h
    refine g_Si (r := r18) (As := [iv x3]) (rest := []) (w := wM g ad o) E (c_X12_isRow l g (wM g ad o) x3 r18 hc19) okm_X12_isRow w_1703 w_1702 rfl rfl (Nat.le_of_ble_eq_true rfl) ⟨Nat.le_of_ble_eq_true rfl, Nat.le_of_ble_eq_true rfl⟩ gdX12_copy_8 ?_
    refine g_if_ne E 16 gdX12_copy_11 (by decide) h (fun h => ?_) (fun h => ?_)
    ·
      refine g_iload E gdX12_copy_16 5 rfl ?_
      refine g_if_ge E 27 gdX12_copy_18 (by decide) h (fun h => ?_) (fun h => ?_)
      ·
        refine g_aload_n E gdX12_copy_27 rfl 0 rfl ?_
        refine g_get (T := TX12) E fw_X12 0 (wM_0 g ad o) rfl 5 (by decide) w_1471 rfl rfl gdX12_copy_28 ?_
        refine g_iload_n E gdX12_copy_31 rfl 1 rfl ?_
        obtain ⟨hi20, h⟩ := qIn_of h
        refine g_iald E 2 (wM_2 g ad o) (by decide) hi20 gdX12_copy_32 ?_
        obtain ⟨n21, e_n21, h⟩ := qNm_of h
        refine g_nmi e_n21 ?_
        refine g_if_lt E 45 gdX12_copy_33 (by decide) h (fun h => ?_) (fun h => ?_)
        ·
          refine g_sub E [0] rfl ?_
          exact j45 o h
        ·
          refine g_aload_n E gdX12_copy_36 rfl 0 rfl ?_
          refine g_get (T := TX12) E fw_X12 0 (wM_0 g ad o) rfl 5 (by decide) w_1471 rfl rfl gdX12_copy_37 ?_
          refine g_iload_n E gdX12_copy_40 rfl 3 rfl ?_
          obtain ⟨hi22, h⟩ := qIn_of h
          refine g_iald E 2 (wM_2 g ad o) (by decide) hi22 gdX12_copy_41 ?_
          obtain ⟨n23, e_n23, h⟩ := qNm_of h
          refine g_nmi e_n23 ?_
          refine g_if_ge E 51 gdX12_copy_42 (by decide) h (fun h => ?_) (fun h => ?_)
          ·
            refine g_iload_n E gdX12_copy_51 rfl 2 rfl ?_
            refine g_if_lt E 95 gdX12_copy_52 (by decide) h (fun h => ?_) (fun h => ?_)
            ·
              refine g_sub E [0] rfl ?_
              exact j95 o h
            ·
              refine g_iload E gdX12_copy_55 4 rfl ?_
              refine g_if_lt E 95 gdX12_copy_57 (by decide) h (fun h => ?_) (fun h => ?_)
              ·
                refine g_sub E [0] rfl ?_
                exact j95 o h
              ·
                refine g_iload_n E gdX12_copy_60 rfl 2 rfl ?_
                refine g_i2l E gdX12_copy_61 ?_
                refine g_iload E gdX12_copy_62 5 rfl ?_
                refine g_i2l E gdX12_copy_64 ?_
                refine g_ladd E gdX12_copy_65 ?_
                refine g_aload_n E gdX12_copy_66 rfl 0 rfl ?_
                refine g_get (T := TX12) E fw_X12 0 (wM_0 g ad o) rfl 5 (by decide) w_1471 rfl rfl gdX12_copy_67 ?_
                refine g_iload_n E gdX12_copy_70 rfl 1 rfl ?_
                obtain ⟨hi24, h⟩ := qIn_of h
                refine g_iald E 2 (wM_2 g ad o) (by decide) hi24 gdX12_copy_71 ?_
                obtain ⟨n25, e_n25, h⟩ := qNm_of h
                refine g_nmi e_n25 ?_
                refine g_i2l E gdX12_copy_72 ?_
                refine g_lcmp_gt E 95 gdX12_copy_73 gdX12_copy_74 (by decide) h (fun h => ?_) (fun h => ?_)
                ·
                  refine g_sub E [0] rfl ?_
                  exact j95 o h
                ·
                  refine g_iload E gdX12_copy_77 4 rfl ?_
                  refine g_i2l E gdX12_copy_79 ?_
                  refine g_iload E gdX12_copy_80 5 rfl ?_
                  refine g_i2l E gdX12_copy_82 ?_
                  refine g_ladd E gdX12_copy_83 ?_
                  refine g_aload_n E gdX12_copy_84 rfl 0 rfl ?_
                  refine g_get (T := TX12) E fw_X12 0 (wM_0 g ad o) rfl 5 (by decide) w_1471 rfl rfl gdX12_copy_85 ?_
                  refine g_iload_n E gdX12_copy_88 rfl 3 rfl ?_
                  obtain ⟨hi26, h⟩ := qIn_of h
                  refine g_iald E 2 (wM_2 g ad o) (by decide) hi26 gdX12_copy_89 ?_
                  obtain ⟨n27, e_n27, h⟩ := qNm_of h
                  refine g_nmi e_n27 ?_
                  refine g_i2l E gdX12_copy_90 ?_
                  refine g_lcmp_le E 101 gdX12_copy_91 gdX12_copy_92 (by decide) h (fun h => ?_) (fun h => ?_)
                  ·
                    refine g_iconst E gdX12_copy_101 ?_
                    refine g_istore E [(6, iv 0), (0, .ref (ad 0)), (1, iv x1), (2, iv x2), (3, iv x3), (4, iv x4), (5, iv x5)] gdX12_copy_102 (by decide) rfl ?_
                    refine g_sub E [1, 2, 3, 4, 5, 6, 0] rfl ?_
                    exact j104 o x1 x2 x3 x4 x5 0 h
                  ·
                    refine g_sub E [0] rfl ?_
                    exact j95 o h
          ·
            refine g_sub E [0] rfl ?_
            exact j45 o h
      ·
        refine g_aload_n E gdX12_copy_21 rfl 0 rfl ?_
        refine g_iconst E gdX12_copy_22 ?_
        obtain ⟨r28, o30, hc29, h⟩ := qB2_of h
        refine g_Vi (r := r28) (As := [iv 5]) (rest := []) (w := wM g ad o30) E (c_X12_meets l g ad o 5 (r28, o30) hc29) okm_X12_meets okw_X12_meets w_1708 rfl (wM_0 g ad o) rfl rfl (Nat.le_of_ble_eq_true rfl) ⟨Nat.le_of_ble_eq_true rfl, Nat.le_of_ble_eq_true rfl⟩ gdX12_copy_23 ?_
        exact g_iret E hQ (by rw [← Option.some.inj h]) (by rw [← Option.some.inj h]) gdX12_copy_26
    ·
      refine g_sub E [] rfl ?_
      exact j14 o h
set_option maxHeartbeats 4000000 in
set_option maxRecDepth 100000 in
theorem c_X12_cost (l : Launch) (g : GG) (ad : Nat → Nat) (o : OO) (x1 : Int) (v : Int × OO) (h : s_X12_cost o x1 = some v) : CI l g yX12_cost cX12_cost 3 (some .int) 3 64 (wM g ad o) [.ref (ad 0), iv x1] v.1 (wM g ad v.2) := by
  refine met_I (by decide) (Nat.le_of_ble_eq_true rfl) ?_
  intro X E hQ
  show Go X 0 (wM g ad o) [(0, .ref (ad 0)), (1, iv x1)] []
  have j20 : ∀ (o : OO) (y0 : Int), b_X12_cost_20 o y0 = some v → Go X 20 (wM g ad o) [] [iv y0] := by
    intro o y0 h
    unfold b_X12_cost_20 at h
    exact g_iret E hQ (by rw [← Option.some.inj h]) (by rw [← Option.some.inj h]) gdX12_cost_20
  unfold s_X12_cost at h
  refine g_aload_n E gdX12_cost_0 rfl 0 rfl ?_
  refine g_iload_n E gdX12_cost_1 rfl 1 rfl ?_
  obtain ⟨r1, o3, hc2, h⟩ := qB2_of h
  refine g_Vi (r := r1) (As := [iv x1]) (rest := []) (w := wM g ad o3) E (c_X12_askedLine l g ad o x1 (r1, o3) hc2) okm_X12_askedLine okw_X12_askedLine w_1925 rfl (wM_0 g ad o) rfl rfl (Nat.le_of_ble_eq_true rfl) ⟨Nat.le_of_ble_eq_true rfl, Nat.le_of_ble_eq_true rfl⟩ gdX12_cost_2 ?_
  refine g_istore_n E [(2, iv r1), (0, .ref (ad 0)), (1, iv x1)] gdX12_cost_5 rfl (by decide) rfl ?_
  refine g_iload_n E gdX12_cost_6 rfl 0 rfl ?_
  refine g_if_ge E 14 gdX12_cost_7 (by decide) h (fun h => ?_) (fun h => ?_)
  ·
    refine g_aload_n E gdX12_cost_14 rfl 1 rfl ?_
    refine g_get (T := TX12) E fw_X12 0 (wM_0 g ad o3) rfl 36 (by decide) w_1502 rfl rfl gdX12_cost_15 ?_
    refine g_iload_n E gdX12_cost_18 rfl 2 rfl ?_
    obtain ⟨hi4, h⟩ := qIn_of h
    refine g_iald E 28 (wM_28 g ad o3) (by decide) hi4 gdX12_cost_19 ?_
    obtain ⟨n5, e_n5, h⟩ := qNm_of h
    refine g_nmi e_n5 ?_
    refine g_sub E [] rfl ?_
    exact j20 o3 n5 h
  ·
    refine g_iload_n E gdX12_cost_10 rfl 0 rfl ?_
    refine g_goto E 20 gdX12_cost_11 (by decide) ?_
    refine g_sub E [] rfl ?_
    exact j20 o3 r1 h
set_option maxHeartbeats 4000000 in
set_option maxRecDepth 100000 in
theorem c_X12_counts (l : Launch) (g : GG) (ad : Nat → Nat) (o : OO) (x1 : Int) (v : Int) (h : s_X12_counts o x1 = some v) : CI l g yX12_counts cX12_counts 4 (some .int) 0 0 (wM g ad o) [.ref (ad 0), iv x1] v (wM g ad o) := by
  refine met_I (by decide) (Nat.le_of_ble_eq_true rfl) ?_
  intro X E hQ
  show Go X 0 (wM g ad o) [(0, .ref (ad 0)), (1, iv x1)] []
  have j90 : ∀ (x2 : Int), b_X12_counts_90 o x2 = some v → Go X 90 (wM g ad o) [(2, iv x2)] [] := by
    intro x2 h
    unfold b_X12_counts_90 at h
    refine g_iload_n E gdX12_counts_90 rfl 0 rfl ?_
    exact g_iret E hQ (Option.some.inj h) rfl gdX12_counts_91
  have j82 : ∀ (x3 : Int) (y0 : Int) (y1 : Int) (v : (Int × Int) ⊕ ((Int))), b_X12_counts_82 o x3 y0 y1 = some v → (∀ (x2 : Int) (x3 : Int), v = .inl (x2, x3) → Go X 59 (wM g ad o) [(0, .ref (ad 0)), (2, iv x2), (3, iv x3)] []) → (∀ (x2 : Int), v = .inr (x2) → Go X 90 (wM g ad o) [(2, iv x2)] []) → Go X 82 (wM g ad o) [(0, .ref (ad 0)), (3, iv x3)] [iv y1, iv y0] := by
    intro x3 y0 y1 v h k0 k1
    unfold b_X12_counts_82 at h
    refine g_iadd E gdX12_counts_82 ?_
    obtain ⟨n1, e_n1, h⟩ := qNm_of h
    refine g_nmi e_n1 ?_
    refine g_istore_n E [(2, iv n1), (0, .ref (ad 0)), (3, iv x3)] gdX12_counts_83 rfl (by decide) rfl ?_
    refine g_iinc E [(3, iv (x3 + 1)), (2, iv n1), (0, .ref (ad 0))] gdX12_counts_84 2 rfl (by decide) rfl ?_
    refine g_goto E 59 gdX12_counts_87 (by decide) ?_
    refine g_sub E [2, 1, 0] rfl ?_
    exact k0 n1 (x3 + 1) (Option.some.inj h).symm
  have l59 : ∀  (r : (Int)) (s0 : Int × Int), loopW (fun s => l_X12_counts_59 o s.1 s.2) s0 = some r → (∀ (x2 : Int), r = (x2) → Go X 90 (wM g ad o) [(2, iv x2)] []) → Go X 59 (wM g ad o) [(0, .ref (ad 0)), (2, iv s0.1), (3, iv s0.2)] [] := by
    intro r s0 h k1
    refine loop_rule (Head := fun s0 => Go X 59 (wM g ad o) [(0, .ref (ad 0)), (2, iv s0.1), (3, iv s0.2)] []) h ?_
    intro s v h kk kx
    obtain ⟨x2, x3⟩ := s
    have h : l_X12_counts_59 o x2 x3 = some v := h
    have k0 : ∀ (x2 : Int) (x3 : Int), v = .inl (x2, x3) → Go X 59 (wM g ad o) [(0, .ref (ad 0)), (2, iv x2), (3, iv x3)] [] := fun x2 x3 e => kk (x2, x3) e
    have k1 : ∀ (x2 : Int), v = .inr (x2) → Go X 90 (wM g ad o) [(2, iv x2)] [] := fun x2 e => k1 x2 (kx _ e).symm
    unfold l_X12_counts_59 at h
    refine g_iload_n E gdX12_counts_59 rfl 2 rfl ?_
    refine g_aload_n E gdX12_counts_60 rfl 0 rfl ?_
    refine g_get (T := TX12) E fw_X12 0 (wM_0 g ad o) rfl 17 (by decide) w_1483 rfl rfl gdX12_counts_61 ?_
    refine g_icmp_ge E 90 gdX12_counts_64 (by decide) h (fun h => ?_) (fun h => ?_)
    ·
      refine g_sub E [1] rfl ?_
      exact k1 x2 (Option.some.inj h).symm
    ·
      refine g_iload_n E gdX12_counts_67 rfl 1 rfl ?_
      refine g_aload_n E gdX12_counts_68 rfl 0 rfl ?_
      refine g_get (T := TX12) E fw_X12 0 (wM_0 g ad o) rfl 21 (by decide) w_1487 rfl rfl gdX12_counts_69 ?_
      refine g_iload_n E gdX12_counts_72 rfl 2 rfl ?_
      obtain ⟨hi2, h⟩ := qIn_of h
      refine g_zald E 16 (wM_16 g ad o) (by decide) hi2 gdX12_counts_73 ?_
      obtain ⟨n3, e_n3, h⟩ := qNm_of h
      refine g_nmi e_n3 ?_
      refine g_if_eq E 81 gdX12_counts_74 (by decide) h (fun h => ?_) (fun h => ?_)
      ·
        refine g_iconst E gdX12_counts_81 ?_
        refine g_sub E [0, 2] rfl ?_
        exact j82 x3 x2 1 v h k0 k1
      ·
        refine g_iconst E gdX12_counts_77 ?_
        refine g_goto E 82 gdX12_counts_78 (by decide) ?_
        refine g_sub E [0, 2] rfl ?_
        exact j82 x3 x2 0 v h k0 k1
  have j59 : ∀ (x2 : Int) (x3 : Int), e_X12_counts_59 o x2 x3 = some v → Go X 59 (wM g ad o) [(0, .ref (ad 0)), (2, iv x2), (3, iv x3)] [] := by
    intro x2 x3 h
    unfold e_X12_counts_59 at h
    obtain ⟨r, hr, h⟩ := qB_of h
    refine l59  r _ hr ?_
    ·
      intro u0 e
      have e := e.symm
      subst e
      have h : b_X12_counts_90 o u0 = some v := h
      exact j90 u0 h
  have j130 : ∀ (x2 : Int), b_X12_counts_130 o x2 = some v → Go X 130 (wM g ad o) [(2, iv x2)] [] := by
    intro x2 h
    unfold b_X12_counts_130 at h
    refine g_iload_n E gdX12_counts_130 rfl 0 rfl ?_
    exact g_iret E hQ (Option.some.inj h) rfl gdX12_counts_131
  have j122 : ∀ (x3 : Int) (y0 : Int) (y1 : Int) (v : (Int × Int) ⊕ ((Int))), b_X12_counts_122 o x3 y0 y1 = some v → (∀ (x2 : Int) (x3 : Int), v = .inl (x2, x3) → Go X 99 (wM g ad o) [(0, .ref (ad 0)), (2, iv x2), (3, iv x3)] []) → (∀ (x2 : Int), v = .inr (x2) → Go X 130 (wM g ad o) [(2, iv x2)] []) → Go X 122 (wM g ad o) [(0, .ref (ad 0)), (3, iv x3)] [iv y1, iv y0] := by
    intro x3 y0 y1 v h k0 k1
    unfold b_X12_counts_122 at h
    refine g_iadd E gdX12_counts_122 ?_
    obtain ⟨n4, e_n4, h⟩ := qNm_of h
    refine g_nmi e_n4 ?_
    refine g_istore_n E [(2, iv n4), (0, .ref (ad 0)), (3, iv x3)] gdX12_counts_123 rfl (by decide) rfl ?_
    refine g_iinc E [(3, iv (x3 + 1)), (2, iv n4), (0, .ref (ad 0))] gdX12_counts_124 2 rfl (by decide) rfl ?_
    refine g_goto E 99 gdX12_counts_127 (by decide) ?_
    refine g_sub E [2, 1, 0] rfl ?_
    exact k0 n4 (x3 + 1) (Option.some.inj h).symm
  have l99 : ∀  (r : (Int)) (s0 : Int × Int), loopW (fun s => l_X12_counts_99 o s.1 s.2) s0 = some r → (∀ (x2 : Int), r = (x2) → Go X 130 (wM g ad o) [(2, iv x2)] []) → Go X 99 (wM g ad o) [(0, .ref (ad 0)), (2, iv s0.1), (3, iv s0.2)] [] := by
    intro r s0 h k1
    refine loop_rule (Head := fun s0 => Go X 99 (wM g ad o) [(0, .ref (ad 0)), (2, iv s0.1), (3, iv s0.2)] []) h ?_
    intro s v h kk kx
    obtain ⟨x2, x3⟩ := s
    have h : l_X12_counts_99 o x2 x3 = some v := h
    have k0 : ∀ (x2 : Int) (x3 : Int), v = .inl (x2, x3) → Go X 99 (wM g ad o) [(0, .ref (ad 0)), (2, iv x2), (3, iv x3)] [] := fun x2 x3 e => kk (x2, x3) e
    have k1 : ∀ (x2 : Int), v = .inr (x2) → Go X 130 (wM g ad o) [(2, iv x2)] [] := fun x2 e => k1 x2 (kx _ e).symm
    unfold l_X12_counts_99 at h
    refine g_iload_n E gdX12_counts_99 rfl 2 rfl ?_
    refine g_aload_n E gdX12_counts_100 rfl 0 rfl ?_
    refine g_get (T := TX12) E fw_X12 0 (wM_0 g ad o) rfl 27 (by decide) w_1493 rfl rfl gdX12_counts_101 ?_
    refine g_icmp_ge E 130 gdX12_counts_104 (by decide) h (fun h => ?_) (fun h => ?_)
    ·
      refine g_sub E [1] rfl ?_
      exact k1 x2 (Option.some.inj h).symm
    ·
      refine g_iload_n E gdX12_counts_107 rfl 1 rfl ?_
      refine g_aload_n E gdX12_counts_108 rfl 0 rfl ?_
      refine g_get (T := TX12) E fw_X12 0 (wM_0 g ad o) rfl 28 (by decide) w_1494 rfl rfl gdX12_counts_109 ?_
      refine g_iload_n E gdX12_counts_112 rfl 2 rfl ?_
      obtain ⟨hi5, h⟩ := qIn_of h
      refine g_iald E 21 (wM_21 g ad o) (by decide) hi5 gdX12_counts_113 ?_
      obtain ⟨n6, e_n6, h⟩ := qNm_of h
      refine g_nmi e_n6 ?_
      refine g_if_ge E 121 gdX12_counts_114 (by decide) h (fun h => ?_) (fun h => ?_)
      ·
        refine g_iconst E gdX12_counts_121 ?_
        refine g_sub E [0, 2] rfl ?_
        exact j122 x3 x2 0 v h k0 k1
      ·
        refine g_iconst E gdX12_counts_117 ?_
        refine g_goto E 122 gdX12_counts_118 (by decide) ?_
        refine g_sub E [0, 2] rfl ?_
        exact j122 x3 x2 1 v h k0 k1
  have j99 : ∀ (x2 : Int) (x3 : Int), e_X12_counts_99 o x2 x3 = some v → Go X 99 (wM g ad o) [(0, .ref (ad 0)), (2, iv x2), (3, iv x3)] [] := by
    intro x2 x3 h
    unfold e_X12_counts_99 at h
    obtain ⟨r, hr, h⟩ := qB_of h
    refine l99  r _ hr ?_
    ·
      intro u0 e
      have e := e.symm
      subst e
      have h : b_X12_counts_130 o u0 = some v := h
      exact j130 u0 h
  have j183 : ∀ (x2 : Int), b_X12_counts_183 o x2 = some v → Go X 183 (wM g ad o) [(2, iv x2)] [] := by
    intro x2 h
    unfold b_X12_counts_183 at h
    refine g_iload_n E gdX12_counts_183 rfl 0 rfl ?_
    exact g_iret E hQ (Option.some.inj h) rfl gdX12_counts_184
  have j175 : ∀ (x3 : Int) (y0 : Int) (y1 : Int) (v : (Int × Int) ⊕ ((Int))), b_X12_counts_175 o x3 y0 y1 = some v → (∀ (x2 : Int) (x3 : Int), v = .inl (x2, x3) → Go X 154 (wM g ad o) [(0, .ref (ad 0)), (2, iv x2), (3, iv x3)] []) → (∀ (x2 : Int), v = .inr (x2) → Go X 183 (wM g ad o) [(2, iv x2)] []) → Go X 175 (wM g ad o) [(0, .ref (ad 0)), (3, iv x3)] [iv y1, iv y0] := by
    intro x3 y0 y1 v h k0 k1
    unfold b_X12_counts_175 at h
    refine g_iadd E gdX12_counts_175 ?_
    obtain ⟨n7, e_n7, h⟩ := qNm_of h
    refine g_nmi e_n7 ?_
    refine g_istore_n E [(2, iv n7), (0, .ref (ad 0)), (3, iv x3)] gdX12_counts_176 rfl (by decide) rfl ?_
    refine g_iinc E [(3, iv (x3 + 1)), (2, iv n7), (0, .ref (ad 0))] gdX12_counts_177 2 rfl (by decide) rfl ?_
    refine g_goto E 154 gdX12_counts_180 (by decide) ?_
    refine g_sub E [2, 1, 0] rfl ?_
    exact k0 n7 (x3 + 1) (Option.some.inj h).symm
  have l154 : ∀  (r : (Int)) (s0 : Int × Int), loopW (fun s => l_X12_counts_154 o s.1 s.2) s0 = some r → (∀ (x2 : Int), r = (x2) → Go X 183 (wM g ad o) [(2, iv x2)] []) → Go X 154 (wM g ad o) [(0, .ref (ad 0)), (2, iv s0.1), (3, iv s0.2)] [] := by
    intro r s0 h k1
    refine loop_rule (Head := fun s0 => Go X 154 (wM g ad o) [(0, .ref (ad 0)), (2, iv s0.1), (3, iv s0.2)] []) h ?_
    intro s v h kk kx
    obtain ⟨x2, x3⟩ := s
    have h : l_X12_counts_154 o x2 x3 = some v := h
    have k0 : ∀ (x2 : Int) (x3 : Int), v = .inl (x2, x3) → Go X 154 (wM g ad o) [(0, .ref (ad 0)), (2, iv x2), (3, iv x3)] [] := fun x2 x3 e => kk (x2, x3) e
    have k1 : ∀ (x2 : Int), v = .inr (x2) → Go X 183 (wM g ad o) [(2, iv x2)] [] := fun x2 e => k1 x2 (kx _ e).symm
    unfold l_X12_counts_154 at h
    refine g_iload_n E gdX12_counts_154 rfl 2 rfl ?_
    refine g_bipush E gdX12_counts_155 (by decide) ?_
    refine g_icmp_ge E 183 gdX12_counts_157 (by decide) h (fun h => ?_) (fun h => ?_)
    ·
      refine g_sub E [1] rfl ?_
      exact k1 x2 (Option.some.inj h).symm
    ·
      refine g_iload_n E gdX12_counts_160 rfl 1 rfl ?_
      refine g_aload_n E gdX12_counts_161 rfl 0 rfl ?_
      refine g_get (T := TX12) E fw_X12 0 (wM_0 g ad o) rfl 5 (by decide) w_1471 rfl rfl gdX12_counts_162 ?_
      refine g_iload_n E gdX12_counts_165 rfl 2 rfl ?_
      obtain ⟨hi8, h⟩ := qIn_of h
      refine g_iald E 2 (wM_2 g ad o) (by decide) hi8 gdX12_counts_166 ?_
      obtain ⟨n9, e_n9, h⟩ := qNm_of h
      refine g_nmi e_n9 ?_
      refine g_if_lt E 174 gdX12_counts_167 (by decide) h (fun h => ?_) (fun h => ?_)
      ·
        refine g_iconst E gdX12_counts_174 ?_
        refine g_sub E [0, 2] rfl ?_
        exact j175 x3 x2 0 v h k0 k1
      ·
        refine g_iconst E gdX12_counts_170 ?_
        refine g_goto E 175 gdX12_counts_171 (by decide) ?_
        refine g_sub E [0, 2] rfl ?_
        exact j175 x3 x2 1 v h k0 k1
  have j154 : ∀ (x2 : Int) (x3 : Int), e_X12_counts_154 o x2 x3 = some v → Go X 154 (wM g ad o) [(0, .ref (ad 0)), (2, iv x2), (3, iv x3)] [] := by
    intro x2 x3 h
    unfold e_X12_counts_154 at h
    obtain ⟨r, hr, h⟩ := qB_of h
    refine l154  r _ hr ?_
    ·
      intro u0 e
      have e := e.symm
      subst e
      have h : b_X12_counts_183 o u0 = some v := h
      exact j183 u0 h
  have j215 : ∀ (x2 : Int), b_X12_counts_215 o x2 = some v → Go X 215 (wM g ad o) [(2, iv x2)] [] := by
    intro x2 h
    unfold b_X12_counts_215 at h
    refine g_iload_n E gdX12_counts_215 rfl 0 rfl ?_
    exact g_iret E hQ (Option.some.inj h) rfl gdX12_counts_216
  have j207 : ∀ (x3 : Int) (y0 : Int) (y1 : Int) (v : (Int × Int) ⊕ ((Int))), b_X12_counts_207 o x3 y0 y1 = some v → (∀ (x2 : Int) (x3 : Int), v = .inl (x2, x3) → Go X 187 (wM g ad o) [(0, .ref (ad 0)), (2, iv x2), (3, iv x3)] []) → (∀ (x2 : Int), v = .inr (x2) → Go X 215 (wM g ad o) [(2, iv x2)] []) → Go X 207 (wM g ad o) [(0, .ref (ad 0)), (3, iv x3)] [iv y1, iv y0] := by
    intro x3 y0 y1 v h k0 k1
    unfold b_X12_counts_207 at h
    refine g_iadd E gdX12_counts_207 ?_
    obtain ⟨n10, e_n10, h⟩ := qNm_of h
    refine g_nmi e_n10 ?_
    refine g_istore_n E [(2, iv n10), (0, .ref (ad 0)), (3, iv x3)] gdX12_counts_208 rfl (by decide) rfl ?_
    refine g_iinc E [(3, iv (x3 + 1)), (2, iv n10), (0, .ref (ad 0))] gdX12_counts_209 2 rfl (by decide) rfl ?_
    refine g_goto E 187 gdX12_counts_212 (by decide) ?_
    refine g_sub E [2, 1, 0] rfl ?_
    exact k0 n10 (x3 + 1) (Option.some.inj h).symm
  have l187 : ∀  (r : (Int)) (s0 : Int × Int), loopW (fun s => l_X12_counts_187 o s.1 s.2) s0 = some r → (∀ (x2 : Int), r = (x2) → Go X 215 (wM g ad o) [(2, iv x2)] []) → Go X 187 (wM g ad o) [(0, .ref (ad 0)), (2, iv s0.1), (3, iv s0.2)] [] := by
    intro r s0 h k1
    refine loop_rule (Head := fun s0 => Go X 187 (wM g ad o) [(0, .ref (ad 0)), (2, iv s0.1), (3, iv s0.2)] []) h ?_
    intro s v h kk kx
    obtain ⟨x2, x3⟩ := s
    have h : l_X12_counts_187 o x2 x3 = some v := h
    have k0 : ∀ (x2 : Int) (x3 : Int), v = .inl (x2, x3) → Go X 187 (wM g ad o) [(0, .ref (ad 0)), (2, iv x2), (3, iv x3)] [] := fun x2 x3 e => kk (x2, x3) e
    have k1 : ∀ (x2 : Int), v = .inr (x2) → Go X 215 (wM g ad o) [(2, iv x2)] [] := fun x2 e => k1 x2 (kx _ e).symm
    unfold l_X12_counts_187 at h
    refine g_iload_n E gdX12_counts_187 rfl 2 rfl ?_
    refine g_iconst E gdX12_counts_188 ?_
    refine g_icmp_ge E 215 gdX12_counts_189 (by decide) h (fun h => ?_) (fun h => ?_)
    ·
      refine g_sub E [1] rfl ?_
      exact k1 x2 (Option.some.inj h).symm
    ·
      refine g_iload_n E gdX12_counts_192 rfl 1 rfl ?_
      refine g_aload_n E gdX12_counts_193 rfl 0 rfl ?_
      refine g_get (T := TX12) E fw_X12 0 (wM_0 g ad o) rfl 8 (by decide) w_1474 rfl rfl gdX12_counts_194 ?_
      refine g_iload_n E gdX12_counts_197 rfl 2 rfl ?_
      obtain ⟨hi11, h⟩ := qIn_of h
      refine g_iald E 5 (wM_5 g ad o) (by decide) hi11 gdX12_counts_198 ?_
      obtain ⟨n12, e_n12, h⟩ := qNm_of h
      refine g_nmi e_n12 ?_
      refine g_if_lt E 206 gdX12_counts_199 (by decide) h (fun h => ?_) (fun h => ?_)
      ·
        refine g_iconst E gdX12_counts_206 ?_
        refine g_sub E [0, 2] rfl ?_
        exact j207 x3 x2 0 v h k0 k1
      ·
        refine g_iconst E gdX12_counts_202 ?_
        refine g_goto E 207 gdX12_counts_203 (by decide) ?_
        refine g_sub E [0, 2] rfl ?_
        exact j207 x3 x2 1 v h k0 k1
  have j187 : ∀ (x2 : Int) (x3 : Int), e_X12_counts_187 o x2 x3 = some v → Go X 187 (wM g ad o) [(0, .ref (ad 0)), (2, iv x2), (3, iv x3)] [] := by
    intro x2 x3 h
    unfold e_X12_counts_187 at h
    obtain ⟨r, hr, h⟩ := qB_of h
    refine l187  r _ hr ?_
    ·
      intro u0 e
      have e := e.symm
      subst e
      have h : b_X12_counts_215 o u0 = some v := h
      exact j215 u0 h
  unfold s_X12_counts at h
  refine g_iconst E gdX12_counts_0 ?_
  refine g_istore_n E [(2, iv 0), (0, .ref (ad 0)), (1, iv x1)] gdX12_counts_1 rfl (by decide) rfl ?_
  refine g_iload_n E gdX12_counts_2 rfl 2 rfl ?_
  obtain ⟨h1, -, ⟨hx, h⟩ | ⟨hx0, h⟩⟩ := qEq_of h
  ·
    refine g_tabIn (kx := 0) (off := 49) E 52 gdX12_counts_3 hx (by decide) (by decide) (by decide) (by decide) (by decide) ?_
    refine g_aload_n E gdX12_counts_52 rfl 1 rfl ?_
    refine g_get (T := TX12) E fw_X12 0 (wM_0 g ad o) rfl 4 (by decide) w_1470 rfl rfl gdX12_counts_53 ?_
    exact g_iret E hQ (Option.some.inj h) rfl gdX12_counts_56
  ·
    obtain ⟨h1, -, ⟨hx, h⟩ | ⟨hx1, h⟩⟩ := qEq_of h
    ·
      refine g_tabIn (kx := 1) (off := 54) E 57 gdX12_counts_3 hx (by decide) (by decide) (by decide) (by decide) (by decide) ?_
      refine g_iconst E gdX12_counts_57 ?_
      refine g_istore_n E [(3, iv 0), (2, iv 0), (0, .ref (ad 0)), (1, iv x1)] gdX12_counts_58 rfl (by decide) rfl ?_
      refine g_sub E [2, 1, 0] rfl ?_
      exact j59 0 0 h
    ·
      obtain ⟨h1, -, ⟨hx, h⟩ | ⟨hx2, h⟩⟩ := qEq_of h
      ·
        refine g_tabIn (kx := 2) (off := 89) E 92 gdX12_counts_3 hx (by decide) (by decide) (by decide) (by decide) (by decide) ?_
        refine g_aload_n E gdX12_counts_92 rfl 1 rfl ?_
        refine g_get (T := TX12) E fw_X12 0 (wM_0 g ad o) rfl 27 (by decide) w_1493 rfl rfl gdX12_counts_93 ?_
        exact g_iret E hQ (Option.some.inj h) rfl gdX12_counts_96
      ·
        obtain ⟨h1, -, ⟨hx, h⟩ | ⟨hx3, h⟩⟩ := qEq_of h
        ·
          refine g_tabIn (kx := 3) (off := 94) E 97 gdX12_counts_3 hx (by decide) (by decide) (by decide) (by decide) (by decide) ?_
          refine g_iconst E gdX12_counts_97 ?_
          refine g_istore_n E [(3, iv 0), (2, iv 0), (0, .ref (ad 0)), (1, iv x1)] gdX12_counts_98 rfl (by decide) rfl ?_
          refine g_sub E [2, 1, 0] rfl ?_
          exact j99 0 0 h
        ·
          obtain ⟨h1, -, ⟨hx, h⟩ | ⟨hx4, h⟩⟩ := qEq_of h
          ·
            refine g_tabIn (kx := 4) (off := 129) E 132 gdX12_counts_3 hx (by decide) (by decide) (by decide) (by decide) (by decide) ?_
            refine g_aload_n E gdX12_counts_132 rfl 1 rfl ?_
            refine g_get (T := TX12) E fw_X12 0 (wM_0 g ad o) rfl 10 (by decide) w_1476 rfl rfl gdX12_counts_133 ?_
            exact g_iret E hQ (Option.some.inj h) rfl gdX12_counts_136
          ·
            obtain ⟨h1, -, ⟨hx, h⟩ | ⟨hx5, h⟩⟩ := qEq_of h
            ·
              refine g_tabIn (kx := 5) (off := 134) E 137 gdX12_counts_3 hx (by decide) (by decide) (by decide) (by decide) (by decide) ?_
              refine g_aload_n E gdX12_counts_137 rfl 1 rfl ?_
              refine g_get (T := TX12) E fw_X12 0 (wM_0 g ad o) rfl 32 (by decide) w_1498 rfl rfl gdX12_counts_138 ?_
              exact g_iret E hQ (Option.some.inj h) rfl gdX12_counts_141
            ·
              obtain ⟨h1, -, ⟨hx, h⟩ | ⟨hx6, h⟩⟩ := qEq_of h
              ·
                refine g_tabIn (kx := 6) (off := 139) E 142 gdX12_counts_3 hx (by decide) (by decide) (by decide) (by decide) (by decide) ?_
                refine g_aload_n E gdX12_counts_142 rfl 1 rfl ?_
                refine g_get (T := TX12) E fw_X12 0 (wM_0 g ad o) rfl 48 (by decide) w_1514 rfl rfl gdX12_counts_143 ?_
                exact g_iret E hQ (Option.some.inj h) rfl gdX12_counts_146
              ·
                obtain ⟨h1, -, ⟨hx, h⟩ | ⟨hx7, h⟩⟩ := qEq_of h
                ·
                  refine g_tabIn (kx := 7) (off := 144) E 147 gdX12_counts_3 hx (by decide) (by decide) (by decide) (by decide) (by decide) ?_
                  refine g_aload_n E gdX12_counts_147 rfl 1 rfl ?_
                  refine g_get (T := TX12) E fw_X12 0 (wM_0 g ad o) rfl 23 (by decide) w_1489 rfl rfl gdX12_counts_148 ?_
                  exact g_iret E hQ (Option.some.inj h) rfl gdX12_counts_151
                ·
                  obtain ⟨h1, -, ⟨hx, h⟩ | ⟨hx8, h⟩⟩ := qEq_of h
                  ·
                    refine g_tabIn (kx := 8) (off := 149) E 152 gdX12_counts_3 hx (by decide) (by decide) (by decide) (by decide) (by decide) ?_
                    refine g_iconst E gdX12_counts_152 ?_
                    refine g_istore_n E [(3, iv 0), (2, iv 0), (0, .ref (ad 0)), (1, iv x1)] gdX12_counts_153 rfl (by decide) rfl ?_
                    refine g_sub E [2, 1, 0] rfl ?_
                    exact j154 0 0 h
                  ·
                    refine g_tabOut E 185 gdX12_counts_3 h1 (by omega) (by decide) ?_
                    refine g_iconst E gdX12_counts_185 ?_
                    refine g_istore_n E [(3, iv 0), (2, iv 0), (0, .ref (ad 0)), (1, iv x1)] gdX12_counts_186 rfl (by decide) rfl ?_
                    refine g_sub E [2, 1, 0] rfl ?_
                    exact j187 0 0 h
set_option maxHeartbeats 4000000 in
set_option maxRecDepth 100000 in
theorem c_X12_count (l : Launch) (g : GG) (ad : Nat → Nat) (o : OO) (x1 : Int) (v : Int) (h : s_X12_count o x1 = some v) : CI l g yX12_count cX12_count 2 (some .int) 1 23 (wM g ad o) [.ref (ad 0), iv x1] v (wM g ad o) := by
  refine met_I (by decide) (Nat.le_of_ble_eq_true rfl) ?_
  intro X E hQ
  show Go X 0 (wM g ad o) [(0, .ref (ad 0)), (1, iv x1)] []
  have j19 : ∀ (y0 : Int), b_X12_count_19 o y0 = some v → Go X 19 (wM g ad o) [] [iv y0] := by
    intro y0 h
    unfold b_X12_count_19 at h
    exact g_iret E hQ (Option.some.inj h) rfl gdX12_count_19
  unfold s_X12_count at h
  refine g_iload_n E gdX12_count_0 rfl 1 rfl ?_
  refine g_iconst E gdX12_count_1 ?_
  refine g_bipush E gdX12_count_2 (by decide) ?_
  obtain ⟨r1, hc2, h⟩ := qB_of h
  refine g_Si (r := r1) (As := [iv x1, iv 0, iv 9]) (rest := []) (w := wM g ad o) E (c_X12_in l g (wM g ad o) x1 0 9 r1 hc2) okm_X12_in w_1706 w_1705 rfl rfl (Nat.le_of_ble_eq_true rfl) ⟨Nat.le_of_ble_eq_true rfl, Nat.le_of_ble_eq_true rfl⟩ gdX12_count_4 ?_
  refine g_if_eq E 18 gdX12_count_7 (by decide) h (fun h => ?_) (fun h => ?_)
  ·
    refine g_iconst E gdX12_count_18 ?_
    refine g_sub E [] rfl ?_
    exact j19 (-1) h
  ·
    refine g_aload_n E gdX12_count_10 rfl 0 rfl ?_
    refine g_iload_n E gdX12_count_11 rfl 1 rfl ?_
    obtain ⟨r3, hc4, h⟩ := qB_of h
    refine g_Vi (r := r3) (As := [iv x1]) (rest := []) (w := wM g ad o) E (c_X12_counts l g ad o x1 r3 hc4) okm_X12_counts okw_X12_counts w_2134 rfl (wM_0 g ad o) rfl rfl (Nat.le_of_ble_eq_true rfl) ⟨Nat.le_of_ble_eq_true rfl, Nat.le_of_ble_eq_true rfl⟩ gdX12_count_12 ?_
    refine g_goto E 19 gdX12_count_15 (by decide) ?_
    refine g_sub E [] rfl ?_
    exact j19 r3 h
set_option maxHeartbeats 4000000 in
set_option maxRecDepth 100000 in
theorem c_X12_mix (l : Launch) (g : GG) (ad : Nat → Nat) (o : OO) (x1 : Int) (v : OO) (h : s_X12_mix o x1 = some v) : CV l g yX12_mix cX12_mix 2 0 0 (wM g ad o) [.ref (ad 0), iv x1] (wM g ad v) := by
  refine met_V (by decide) (Nat.le_of_ble_eq_true rfl) ?_
  intro X E hQ
  show Go X 0 (wM g ad o) [(0, .ref (ad 0)), (1, iv x1)] []
  unfold s_X12_mix at h
  refine g_aload_n E gdX12_mix_0 rfl 0 rfl ?_
  refine g_ldc2 E gdX12_mix_1 w_2155 ?_
  refine g_aload_n E gdX12_mix_4 rfl 0 rfl ?_
  refine g_get (T := TX12) E fw_X12 0 (wM_0 g ad o) rfl 76 (by decide) w_1542 rfl rfl gdX12_mix_5 ?_
  refine g_lmul E gdX12_mix_8 ?_
  refine g_iload_n E gdX12_mix_9 rfl 1 rfl ?_
  refine g_i2l E gdX12_mix_10 ?_
  refine g_ladd E gdX12_mix_11 ?_
  obtain ⟨o1, e_o1, h⟩ := qNm_of h
  refine g_putl (T := TX12) (ws' := wM g ad o1) E fw_X12 tyX12 tyX12_ok nmX12 0 (wM_0 g ad o) rfl 76 (by decide) w_1542 rfl rfl (by decide +kernel) (Nat.le_of_ble_eq_true rfl) (by rw [e_o1]; exact wM_p0_76 g ad o _) gdX12_mix_12 ?_
  exact g_vret E hQ (by rw [← Option.some.inj h]) gdX12_mix_15
set_option maxHeartbeats 4000000 in
set_option maxRecDepth 100000 in
theorem c_X12_houseTells (l : Launch) (g : GG) (ad : Nat → Nat) (o : OO) (x1 : Int) (x2 : Int) (v : Int) (h : s_X12_houseTells o x1 x2 = some v) : CI l g yX12_houseTells cX12_houseTells 3 (some .int) 1 23 (wM g ad o) [.ref (ad 0), iv x1, iv x2] v (wM g ad o) := by
  refine met_I (by decide) (Nat.le_of_ble_eq_true rfl) ?_
  intro X E hQ
  show Go X 0 (wM g ad o) [(0, .ref (ad 0)), (1, iv x1), (2, iv x2)] []
  have j77 : ∀ (y0 : Int), b_X12_houseTells_77 o y0 = some v → Go X 77 (wM g ad o) [] [iv y0] := by
    intro y0 h
    unfold b_X12_houseTells_77 at h
    exact g_iret E hQ (Option.some.inj h) rfl gdX12_houseTells_77
  unfold s_X12_houseTells at h
  refine g_iload_n E gdX12_houseTells_0 rfl 2 rfl ?_
  obtain ⟨h1, -, ⟨hx, h⟩ | ⟨hx0, h⟩⟩ := qEq_of h
  ·
    refine g_tabIn (kx := 0) (off := 35) E 36 gdX12_houseTells_1 hx (by decide) (by decide) (by decide) (by decide) (by decide) ?_
    refine g_aload_n E gdX12_houseTells_36 rfl 0 rfl ?_
    refine g_get (T := TX12) E fw_X12 0 (wM_0 g ad o) rfl 18 (by decide) w_1484 rfl rfl gdX12_houseTells_37 ?_
    refine g_iload_n E gdX12_houseTells_40 rfl 1 rfl ?_
    obtain ⟨hi1, h⟩ := qIn_of h
    refine g_iald E 13 (wM_13 g ad o) (by decide) hi1 gdX12_houseTells_41 ?_
    obtain ⟨n2, e_n2, h⟩ := qNm_of h
    refine g_nmi e_n2 ?_
    exact g_iret E hQ (Option.some.inj h) rfl gdX12_houseTells_42
  ·
    obtain ⟨h1, -, ⟨hx, h⟩ | ⟨hx1, h⟩⟩ := qEq_of h
    ·
      refine g_tabIn (kx := 1) (off := 42) E 43 gdX12_houseTells_1 hx (by decide) (by decide) (by decide) (by decide) (by decide) ?_
      refine g_aload_n E gdX12_houseTells_43 rfl 0 rfl ?_
      refine g_get (T := TX12) E fw_X12 0 (wM_0 g ad o) rfl 19 (by decide) w_1485 rfl rfl gdX12_houseTells_44 ?_
      refine g_iload_n E gdX12_houseTells_47 rfl 1 rfl ?_
      obtain ⟨hi3, h⟩ := qIn_of h
      refine g_iald E 14 (wM_14 g ad o) (by decide) hi3 gdX12_houseTells_48 ?_
      obtain ⟨n4, e_n4, h⟩ := qNm_of h
      refine g_nmi e_n4 ?_
      exact g_iret E hQ (Option.some.inj h) rfl gdX12_houseTells_49
    ·
      obtain ⟨h1, -, ⟨hx, h⟩ | ⟨hx2, h⟩⟩ := qEq_of h
      ·
        refine g_tabIn (kx := 2) (off := 49) E 50 gdX12_houseTells_1 hx (by decide) (by decide) (by decide) (by decide) (by decide) ?_
        refine g_aload_n E gdX12_houseTells_50 rfl 0 rfl ?_
        refine g_get (T := TX12) E fw_X12 0 (wM_0 g ad o) rfl 20 (by decide) w_1486 rfl rfl gdX12_houseTells_51 ?_
        refine g_iload_n E gdX12_houseTells_54 rfl 1 rfl ?_
        obtain ⟨hi5, h⟩ := qIn_of h
        refine g_iald E 15 (wM_15 g ad o) (by decide) hi5 gdX12_houseTells_55 ?_
        obtain ⟨n6, e_n6, h⟩ := qNm_of h
        refine g_nmi e_n6 ?_
        exact g_iret E hQ (Option.some.inj h) rfl gdX12_houseTells_56
      ·
        obtain ⟨h1, -, ⟨hx, h⟩ | ⟨hx3, h⟩⟩ := qEq_of h
        ·
          refine g_tabIn (kx := 3) (off := 56) E 57 gdX12_houseTells_1 hx (by decide) (by decide) (by decide) (by decide) (by decide) ?_
          refine g_aload_n E gdX12_houseTells_57 rfl 0 rfl ?_
          refine g_iload_n E gdX12_houseTells_58 rfl 1 rfl ?_
          obtain ⟨r7, hc8, h⟩ := qB_of h
          refine g_Vi (r := r7) (As := [iv x1]) (rest := []) (w := wM g ad o) E (c_X12_living l g ad o x1 r7 hc8) okm_X12_living okw_X12_living w_1831 rfl (wM_0 g ad o) rfl rfl (Nat.le_of_ble_eq_true rfl) ⟨Nat.le_of_ble_eq_true rfl, Nat.le_of_ble_eq_true rfl⟩ gdX12_houseTells_59 ?_
          exact g_iret E hQ (Option.some.inj h) rfl gdX12_houseTells_62
        ·
          obtain ⟨h1, -, ⟨hx, h⟩ | ⟨hx4, h⟩⟩ := qEq_of h
          ·
            refine g_tabIn (kx := 4) (off := 62) E 63 gdX12_houseTells_1 hx (by decide) (by decide) (by decide) (by decide) (by decide) ?_
            refine g_aload_n E gdX12_houseTells_63 rfl 0 rfl ?_
            refine g_get (T := TX12) E fw_X12 0 (wM_0 g ad o) rfl 21 (by decide) w_1487 rfl rfl gdX12_houseTells_64 ?_
            refine g_iload_n E gdX12_houseTells_67 rfl 1 rfl ?_
            obtain ⟨hi9, h⟩ := qIn_of h
            refine g_zald E 16 (wM_16 g ad o) (by decide) hi9 gdX12_houseTells_68 ?_
            obtain ⟨n10, e_n10, h⟩ := qNm_of h
            refine g_nmi e_n10 ?_
            refine g_if_eq E 76 gdX12_houseTells_69 (by decide) h (fun h => ?_) (fun h => ?_)
            ·
              refine g_iconst E gdX12_houseTells_76 ?_
              refine g_sub E [] rfl ?_
              exact j77 0 h
            ·
              refine g_iconst E gdX12_houseTells_72 ?_
              refine g_goto E 77 gdX12_houseTells_73 (by decide) ?_
              refine g_sub E [] rfl ?_
              exact j77 1 h
          ·
            refine g_tabOut E 78 gdX12_houseTells_1 h1 (by omega) (by decide) ?_
            refine g_aload_n E gdX12_houseTells_78 rfl 0 rfl ?_
            refine g_get (T := TX12) E fw_X12 0 (wM_0 g ad o) rfl 22 (by decide) w_1488 rfl rfl gdX12_houseTells_79 ?_
            refine g_iload_n E gdX12_houseTells_82 rfl 1 rfl ?_
            obtain ⟨hi11, h⟩ := qIn_of h
            refine g_iald E 17 (wM_17 g ad o) (by decide) hi11 gdX12_houseTells_83 ?_
            obtain ⟨n12, e_n12, h⟩ := qNm_of h
            refine g_nmi e_n12 ?_
            exact g_iret E hQ (Option.some.inj h) rfl gdX12_houseTells_84
set_option maxHeartbeats 4000000 in
set_option maxRecDepth 100000 in
theorem c_X12_valueOf (l : Launch) (g : GG) (ad : Nat → Nat) (o : OO) (x1 : Int) (x2 : Int) (v : Int) (h : s_X12_valueOf o x1 x2 = some v) : CI l g yX12_valueOf cX12_valueOf 5 (some .int) 0 0 (wM g ad o) [.ref (ad 0), iv x1, iv x2] v (wM g ad o) := by
  refine met_I (by decide) (Nat.le_of_ble_eq_true rfl) ?_
  intro X E hQ
  show Go X 0 (wM g ad o) [(0, .ref (ad 0)), (1, iv x1), (2, iv x2)] []
  have j55 : ∀ (x3 : Int), b_X12_valueOf_55 o x3 = some v → Go X 55 (wM g ad o) [(3, iv x3)] [] := by
    intro x3 h
    unfold b_X12_valueOf_55 at h
    refine g_iload_n E gdX12_valueOf_55 rfl 0 rfl ?_
    exact g_iret E hQ (Option.some.inj h) rfl gdX12_valueOf_56
  have j48 : ∀ (x1 : Int) (x2 : Int) (x4 : Int) (y0 : Int) (v : (Int × Int) ⊕ ((Int))), b_X12_valueOf_48 o x1 x2 x4 y0 = some v → (∀ (x3 : Int) (x4 : Int), v = .inl (x3, x4) → Go X 6 (wM g ad o) [(0, .ref (ad 0)), (1, iv x1), (2, iv x2), (3, iv x3), (4, iv x4)] []) → (∀ (x3 : Int), v = .inr (x3) → Go X 55 (wM g ad o) [(3, iv x3)] []) → Go X 48 (wM g ad o) [(0, .ref (ad 0)), (1, iv x1), (2, iv x2), (4, iv x4)] [iv y0] := by
    intro x1 x2 x4 y0 v h k0 k1
    unfold b_X12_valueOf_48 at h
    refine g_istore_n E [(3, iv y0), (0, .ref (ad 0)), (1, iv x1), (2, iv x2), (4, iv x4)] gdX12_valueOf_48 rfl (by decide) rfl ?_
    refine g_iinc E [(4, iv (x4 + 1)), (3, iv y0), (0, .ref (ad 0)), (1, iv x1), (2, iv x2)] gdX12_valueOf_49 4 rfl (by decide) rfl ?_
    refine g_goto E 6 gdX12_valueOf_52 (by decide) ?_
    refine g_sub E [2, 3, 4, 1, 0] rfl ?_
    exact k0 y0 (x4 + 1) (Option.some.inj h).symm
  have j47 : ∀ (x1 : Int) (x2 : Int) (x3 : Int) (x4 : Int) (v : (Int × Int) ⊕ ((Int))), b_X12_valueOf_47 o x1 x2 x3 x4 = some v → (∀ (x3 : Int) (x4 : Int), v = .inl (x3, x4) → Go X 6 (wM g ad o) [(0, .ref (ad 0)), (1, iv x1), (2, iv x2), (3, iv x3), (4, iv x4)] []) → (∀ (x3 : Int), v = .inr (x3) → Go X 55 (wM g ad o) [(3, iv x3)] []) → Go X 47 (wM g ad o) [(0, .ref (ad 0)), (1, iv x1), (2, iv x2), (3, iv x3), (4, iv x4)] [] := by
    intro x1 x2 x3 x4 v h k0 k1
    unfold b_X12_valueOf_47 at h
    refine g_iload_n E gdX12_valueOf_47 rfl 3 rfl ?_
    refine g_sub E [0, 1, 2, 4] rfl ?_
    exact j48 x1 x2 x4 x3 v h k0 k1
  have l6 : ∀ (x1 : Int) (x2 : Int) (r : (Int)) (s0 : Int × Int), loopW (fun s => l_X12_valueOf_6 o x1 x2 s.1 s.2) s0 = some r → (∀ (x3 : Int), r = (x3) → Go X 55 (wM g ad o) [(3, iv x3)] []) → Go X 6 (wM g ad o) [(0, .ref (ad 0)), (1, iv x1), (2, iv x2), (3, iv s0.1), (4, iv s0.2)] [] := by
    intro x1 x2 r s0 h k1
    refine loop_rule (Head := fun s0 => Go X 6 (wM g ad o) [(0, .ref (ad 0)), (1, iv x1), (2, iv x2), (3, iv s0.1), (4, iv s0.2)] []) h ?_
    intro s v h kk kx
    obtain ⟨x3, x4⟩ := s
    have h : l_X12_valueOf_6 o x1 x2 x3 x4 = some v := h
    have k0 : ∀ (x3 : Int) (x4 : Int), v = .inl (x3, x4) → Go X 6 (wM g ad o) [(0, .ref (ad 0)), (1, iv x1), (2, iv x2), (3, iv x3), (4, iv x4)] [] := fun x3 x4 e => kk (x3, x4) e
    have k1 : ∀ (x3 : Int), v = .inr (x3) → Go X 55 (wM g ad o) [(3, iv x3)] [] := fun x3 e => k1 x3 (kx _ e).symm
    unfold l_X12_valueOf_6 at h
    refine g_iload E gdX12_valueOf_6 4 rfl ?_
    refine g_aload_n E gdX12_valueOf_8 rfl 0 rfl ?_
    refine g_get (T := TX12) E fw_X12 0 (wM_0 g ad o) rfl 23 (by decide) w_1489 rfl rfl gdX12_valueOf_9 ?_
    refine g_icmp_ge E 55 gdX12_valueOf_12 (by decide) h (fun h => ?_) (fun h => ?_)
    ·
      refine g_sub E [3] rfl ?_
      exact k1 x3 (Option.some.inj h).symm
    ·
      refine g_aload_n E gdX12_valueOf_15 rfl 0 rfl ?_
      refine g_get (T := TX12) E fw_X12 0 (wM_0 g ad o) rfl 24 (by decide) w_1490 rfl rfl gdX12_valueOf_16 ?_
      refine g_iload E gdX12_valueOf_19 4 rfl ?_
      obtain ⟨hi1, h⟩ := qIn_of h
      refine g_iald E 18 (wM_18 g ad o) (by decide) hi1 gdX12_valueOf_21 ?_
      obtain ⟨n2, e_n2, h⟩ := qNm_of h
      refine g_nmi e_n2 ?_
      refine g_iload_n E gdX12_valueOf_22 rfl 1 rfl ?_
      refine g_icmp_ne E 47 gdX12_valueOf_23 (by decide) h (fun h => ?_) (fun h => ?_)
      ·
        exact j47 x1 x2 x3 x4 v h k0 k1
      ·
        refine g_aload_n E gdX12_valueOf_26 rfl 0 rfl ?_
        refine g_get (T := TX12) E fw_X12 0 (wM_0 g ad o) rfl 25 (by decide) w_1491 rfl rfl gdX12_valueOf_27 ?_
        refine g_iload E gdX12_valueOf_30 4 rfl ?_
        obtain ⟨hi3, h⟩ := qIn_of h
        refine g_iald E 19 (wM_19 g ad o) (by decide) hi3 gdX12_valueOf_32 ?_
        obtain ⟨n4, e_n4, h⟩ := qNm_of h
        refine g_nmi e_n4 ?_
        refine g_iload_n E gdX12_valueOf_33 rfl 2 rfl ?_
        refine g_icmp_gt E 47 gdX12_valueOf_34 (by decide) h (fun h => ?_) (fun h => ?_)
        ·
          exact j47 x1 x2 x3 x4 v h k0 k1
        ·
          refine g_aload_n E gdX12_valueOf_37 rfl 0 rfl ?_
          refine g_get (T := TX12) E fw_X12 0 (wM_0 g ad o) rfl 26 (by decide) w_1492 rfl rfl gdX12_valueOf_38 ?_
          refine g_iload E gdX12_valueOf_41 4 rfl ?_
          obtain ⟨hi5, h⟩ := qIn_of h
          refine g_iald E 20 (wM_20 g ad o) (by decide) hi5 gdX12_valueOf_43 ?_
          obtain ⟨n6, e_n6, h⟩ := qNm_of h
          refine g_nmi e_n6 ?_
          refine g_goto E 48 gdX12_valueOf_44 (by decide) ?_
          refine g_sub E [0, 1, 2, 4] rfl ?_
          exact j48 x1 x2 x4 n6 v h k0 k1
  have j6 : ∀ (x1 : Int) (x2 : Int) (x3 : Int) (x4 : Int), e_X12_valueOf_6 o x1 x2 x3 x4 = some v → Go X 6 (wM g ad o) [(0, .ref (ad 0)), (1, iv x1), (2, iv x2), (3, iv x3), (4, iv x4)] [] := by
    intro x1 x2 x3 x4 h
    unfold e_X12_valueOf_6 at h
    obtain ⟨r, hr, h⟩ := qB_of h
    refine l6 x1 x2 r _ hr ?_
    ·
      intro u0 e
      have e := e.symm
      subst e
      have h : b_X12_valueOf_55 o u0 = some v := h
      exact j55 u0 h
  unfold s_X12_valueOf at h
  refine g_bipush E gdX12_valueOf_0 (by decide) ?_
  refine g_istore_n E [(3, iv (-9)), (0, .ref (ad 0)), (1, iv x1), (2, iv x2)] gdX12_valueOf_2 rfl (by decide) rfl ?_
  refine g_iconst E gdX12_valueOf_3 ?_
  refine g_istore E [(4, iv 0), (3, iv (-9)), (0, .ref (ad 0)), (1, iv x1), (2, iv x2)] gdX12_valueOf_4 (by decide) rfl ?_
  refine g_sub E [2, 3, 4, 1, 0] rfl ?_
  exact j6 x1 x2 (-9) 0 h
set_option maxHeartbeats 4000000 in
set_option maxRecDepth 100000 in
theorem c_X12_personTells (l : Launch) (g : GG) (ad : Nat → Nat) (o : OO) (x1 : Int) (x2 : Int) (v : Int) (h : s_X12_personTells o x1 x2 = some v) : CI l g yX12_personTells cX12_personTells 3 (some .int) 0 0 (wM g ad o) [.ref (ad 0), iv x1, iv x2] v (wM g ad o) := by
  refine met_I (by decide) (Nat.le_of_ble_eq_true rfl) ?_
  intro X E hQ
  show Go X 0 (wM g ad o) [(0, .ref (ad 0)), (1, iv x1), (2, iv x2)] []
  have j55 : ∀ (y0 : Int), b_X12_personTells_55 o y0 = some v → Go X 55 (wM g ad o) [] [iv y0] := by
    intro y0 h
    unfold b_X12_personTells_55 at h
    exact g_iret E hQ (Option.some.inj h) rfl gdX12_personTells_55
  unfold s_X12_personTells at h
  refine g_iload_n E gdX12_personTells_0 rfl 2 rfl ?_
  refine g_if_ne E 13 gdX12_personTells_1 (by decide) h (fun h => ?_) (fun h => ?_)
  ·
    refine g_iload_n E gdX12_personTells_13 rfl 2 rfl ?_
    refine g_iconst E gdX12_personTells_14 ?_
    refine g_icmp_ne E 27 gdX12_personTells_15 (by decide) h (fun h => ?_) (fun h => ?_)
    ·
      refine g_iload_n E gdX12_personTells_27 rfl 2 rfl ?_
      refine g_iconst E gdX12_personTells_28 ?_
      refine g_icmp_ne E 49 gdX12_personTells_29 (by decide) h (fun h => ?_) (fun h => ?_)
      ·
        refine g_aload_n E gdX12_personTells_49 rfl 0 rfl ?_
        refine g_get (T := TX12) E fw_X12 0 (wM_0 g ad o) rfl 31 (by decide) w_1497 rfl rfl gdX12_personTells_50 ?_
        refine g_iload_n E gdX12_personTells_53 rfl 1 rfl ?_
        obtain ⟨hi1, h⟩ := qIn_of h
        refine g_iald E 24 (wM_24 g ad o) (by decide) hi1 gdX12_personTells_54 ?_
        obtain ⟨n2, e_n2, h⟩ := qNm_of h
        refine g_nmi e_n2 ?_
        refine g_sub E [] rfl ?_
        exact j55 n2 h
      ·
        refine g_aload_n E gdX12_personTells_32 rfl 0 rfl ?_
        refine g_get (T := TX12) E fw_X12 0 (wM_0 g ad o) rfl 30 (by decide) w_1496 rfl rfl gdX12_personTells_33 ?_
        refine g_iload_n E gdX12_personTells_36 rfl 1 rfl ?_
        obtain ⟨hi3, h⟩ := qIn_of h
        refine g_zald E 23 (wM_23 g ad o) (by decide) hi3 gdX12_personTells_37 ?_
        obtain ⟨n4, e_n4, h⟩ := qNm_of h
        refine g_nmi e_n4 ?_
        refine g_if_eq E 45 gdX12_personTells_38 (by decide) h (fun h => ?_) (fun h => ?_)
        ·
          refine g_iconst E gdX12_personTells_45 ?_
          refine g_goto E 55 gdX12_personTells_46 (by decide) ?_
          refine g_sub E [] rfl ?_
          exact j55 0 h
        ·
          refine g_iconst E gdX12_personTells_41 ?_
          refine g_goto E 55 gdX12_personTells_42 (by decide) ?_
          refine g_sub E [] rfl ?_
          exact j55 1 h
    ·
      refine g_aload_n E gdX12_personTells_18 rfl 0 rfl ?_
      refine g_get (T := TX12) E fw_X12 0 (wM_0 g ad o) rfl 29 (by decide) w_1495 rfl rfl gdX12_personTells_19 ?_
      refine g_iload_n E gdX12_personTells_22 rfl 1 rfl ?_
      obtain ⟨hi5, h⟩ := qIn_of h
      refine g_iald E 22 (wM_22 g ad o) (by decide) hi5 gdX12_personTells_23 ?_
      obtain ⟨n6, e_n6, h⟩ := qNm_of h
      refine g_nmi e_n6 ?_
      refine g_goto E 55 gdX12_personTells_24 (by decide) ?_
      refine g_sub E [] rfl ?_
      exact j55 n6 h
  ·
    refine g_aload_n E gdX12_personTells_4 rfl 0 rfl ?_
    refine g_get (T := TX12) E fw_X12 0 (wM_0 g ad o) rfl 28 (by decide) w_1494 rfl rfl gdX12_personTells_5 ?_
    refine g_iload_n E gdX12_personTells_8 rfl 1 rfl ?_
    obtain ⟨hi7, h⟩ := qIn_of h
    refine g_iald E 21 (wM_21 g ad o) (by decide) hi7 gdX12_personTells_9 ?_
    obtain ⟨n8, e_n8, h⟩ := qNm_of h
    refine g_nmi e_n8 ?_
    refine g_goto E 55 gdX12_personTells_10 (by decide) ?_
    refine g_sub E [] rfl ?_
    exact j55 n8 h
set_option maxHeartbeats 4000000 in
set_option maxRecDepth 100000 in
theorem c_X12_markTells (l : Launch) (g : GG) (ad : Nat → Nat) (o : OO) (x1 : Int) (x2 : Int) (v : Int) (h : s_X12_markTells o x1 x2 = some v) : CI l g yX12_markTells cX12_markTells 3 (some .int) 0 0 (wM g ad o) [.ref (ad 0), iv x1, iv x2] v (wM g ad o) := by
  refine met_I (by decide) (Nat.le_of_ble_eq_true rfl) ?_
  intro X E hQ
  show Go X 0 (wM g ad o) [(0, .ref (ad 0)), (1, iv x1), (2, iv x2)] []
  have j33 : ∀ (y0 : Int), b_X12_markTells_33 o y0 = some v → Go X 33 (wM g ad o) [] [iv y0] := by
    intro y0 h
    unfold b_X12_markTells_33 at h
    exact g_iret E hQ (Option.some.inj h) rfl gdX12_markTells_33
  unfold s_X12_markTells at h
  refine g_iload_n E gdX12_markTells_0 rfl 2 rfl ?_
  refine g_if_ne E 13 gdX12_markTells_1 (by decide) h (fun h => ?_) (fun h => ?_)
  ·
    refine g_iload_n E gdX12_markTells_13 rfl 2 rfl ?_
    refine g_iconst E gdX12_markTells_14 ?_
    refine g_icmp_ne E 27 gdX12_markTells_15 (by decide) h (fun h => ?_) (fun h => ?_)
    ·
      refine g_aload_n E gdX12_markTells_27 rfl 0 rfl ?_
      refine g_get (T := TX12) E fw_X12 0 (wM_0 g ad o) rfl 35 (by decide) w_1501 rfl rfl gdX12_markTells_28 ?_
      refine g_iload_n E gdX12_markTells_31 rfl 1 rfl ?_
      obtain ⟨hi1, h⟩ := qIn_of h
      refine g_iald E 27 (wM_27 g ad o) (by decide) hi1 gdX12_markTells_32 ?_
      obtain ⟨n2, e_n2, h⟩ := qNm_of h
      refine g_nmi e_n2 ?_
      refine g_sub E [] rfl ?_
      exact j33 n2 h
    ·
      refine g_aload_n E gdX12_markTells_18 rfl 0 rfl ?_
      refine g_get (T := TX12) E fw_X12 0 (wM_0 g ad o) rfl 34 (by decide) w_1500 rfl rfl gdX12_markTells_19 ?_
      refine g_iload_n E gdX12_markTells_22 rfl 1 rfl ?_
      obtain ⟨hi3, h⟩ := qIn_of h
      refine g_iald E 26 (wM_26 g ad o) (by decide) hi3 gdX12_markTells_23 ?_
      obtain ⟨n4, e_n4, h⟩ := qNm_of h
      refine g_nmi e_n4 ?_
      refine g_goto E 33 gdX12_markTells_24 (by decide) ?_
      refine g_sub E [] rfl ?_
      exact j33 n4 h
  ·
    refine g_aload_n E gdX12_markTells_4 rfl 0 rfl ?_
    refine g_get (T := TX12) E fw_X12 0 (wM_0 g ad o) rfl 33 (by decide) w_1499 rfl rfl gdX12_markTells_5 ?_
    refine g_iload_n E gdX12_markTells_8 rfl 1 rfl ?_
    obtain ⟨hi5, h⟩ := qIn_of h
    refine g_iald E 25 (wM_25 g ad o) (by decide) hi5 gdX12_markTells_9 ?_
    obtain ⟨n6, e_n6, h⟩ := qNm_of h
    refine g_nmi e_n6 ?_
    refine g_goto E 33 gdX12_markTells_10 (by decide) ?_
    refine g_sub E [] rfl ?_
    exact j33 n6 h
set_option maxHeartbeats 4000000 in
set_option maxRecDepth 100000 in
theorem c_X12_mixMark (l : Launch) (g : GG) (ad : Nat → Nat) (o : OO) (x1 : Int) (v : OO) (h : s_X12_mixMark o x1 = some v) : CV l g yX12_mixMark cX12_mixMark 3 1 22 (wM g ad o) [.ref (ad 0), iv x1] (wM g ad v) := by
  refine met_V (by decide) (Nat.le_of_ble_eq_true rfl) ?_
  intro X E hQ
  show Go X 0 (wM g ad o) [(0, .ref (ad 0)), (1, iv x1)] []
  have j84 : ∀ (o : OO), b_X12_mixMark_84 o = some v → Go X 84 (wM g ad o) [] [] := by
    intro o h
    unfold b_X12_mixMark_84 at h
    exact g_vret E hQ (by rw [← Option.some.inj h]) gdX12_mixMark_84
  have l53 : ∀ (x1 : Int) (r : (OO)) (s0 : OO × Int), loopW (fun s => l_X12_mixMark_53 x1 s.1 s.2) s0 = some r → (∀ (o : OO), r = (o) → Go X 84 (wM g ad o) [] []) → Go X 53 (wM g ad s0.1) [(0, .ref (ad 0)), (1, iv x1), (2, iv s0.2)] [] := by
    intro x1 r s0 h k1
    refine loop_rule (Head := fun s0 => Go X 53 (wM g ad s0.1) [(0, .ref (ad 0)), (1, iv x1), (2, iv s0.2)] []) h ?_
    intro s v h kk kx
    obtain ⟨o, x2⟩ := s
    have h : l_X12_mixMark_53 x1 o x2 = some v := h
    have k0 : ∀ (o : OO) (x2 : Int), v = .inl (o, x2) → Go X 53 (wM g ad o) [(0, .ref (ad 0)), (1, iv x1), (2, iv x2)] [] := fun o x2 e => kk (o, x2) e
    have k1 : ∀ (o : OO), v = .inr (o) → Go X 84 (wM g ad o) [] [] := fun o e => k1 o (kx _ e).symm
    unfold l_X12_mixMark_53 at h
    refine g_iload_n E gdX12_mixMark_53 rfl 2 rfl ?_
    refine g_aload_n E gdX12_mixMark_54 rfl 0 rfl ?_
    refine g_get (T := TX12) E fw_X12 0 (wM_0 g ad o) rfl 38 (by decide) w_1504 rfl rfl gdX12_mixMark_55 ?_
    refine g_iload_n E gdX12_mixMark_58 rfl 1 rfl ?_
    obtain ⟨hi1, h⟩ := qIn_of h
    refine g_iald E 30 (wM_30 g ad o) (by decide) hi1 gdX12_mixMark_59 ?_
    obtain ⟨n2, e_n2, h⟩ := qNm_of h
    refine g_nmi e_n2 ?_
    refine g_icmp_ge E 84 gdX12_mixMark_60 (by decide) h (fun h => ?_) (fun h => ?_)
    ·
      refine g_sub E [] rfl ?_
      exact k1 o (Option.some.inj h).symm
    ·
      refine g_aload_n E gdX12_mixMark_63 rfl 0 rfl ?_
      refine g_aload_n E gdX12_mixMark_64 rfl 0 rfl ?_
      refine g_get (T := TX12) E fw_X12 0 (wM_0 g ad o) rfl 39 (by decide) w_1505 rfl rfl gdX12_mixMark_65 ?_
      refine g_bipush E gdX12_mixMark_68 (by decide) ?_
      refine g_iload_n E gdX12_mixMark_70 rfl 1 rfl ?_
      refine g_imul E gdX12_mixMark_71 ?_
      refine g_iload_n E gdX12_mixMark_72 rfl 2 rfl ?_
      refine g_iadd E gdX12_mixMark_73 ?_
      obtain ⟨hi3, h⟩ := qIn_of h
      refine g_iald E 31 (wM_31 g ad o) (by decide) hi3 gdX12_mixMark_74 ?_
      obtain ⟨n4, e_n4, h⟩ := qNm_of h
      refine g_nmi e_n4 ?_
      obtain ⟨o7, hc6, h⟩ := qB_of h
      refine g_Vv (As := [iv n4]) (rest := []) (w := wM g ad o7) E (c_X12_mix l g ad o n4 o7 hc6) okm_X12_mix okw_X12_mix w_2151 rfl (wM_0 g ad o) rfl rfl (Nat.le_of_ble_eq_true rfl) ⟨Nat.le_of_ble_eq_true rfl, Nat.le_of_ble_eq_true rfl⟩ gdX12_mixMark_75 ?_
      refine g_iinc E [(2, iv (x2 + 1)), (0, .ref (ad 0)), (1, iv x1)] gdX12_mixMark_78 2 rfl (by decide) rfl ?_
      refine g_goto E 53 gdX12_mixMark_81 (by decide) ?_
      refine g_sub E [1, 2, 0] rfl ?_
      exact k0 o7 (x2 + 1) (Option.some.inj h).symm
  have j53 : ∀ (o : OO) (x1 : Int) (x2 : Int), e_X12_mixMark_53 o x1 x2 = some v → Go X 53 (wM g ad o) [(0, .ref (ad 0)), (1, iv x1), (2, iv x2)] [] := by
    intro o x1 x2 h
    unfold e_X12_mixMark_53 at h
    obtain ⟨r, hr, h⟩ := qB_of h
    refine l53 x1 r _ hr ?_
    ·
      intro u0 e
      have e := e.symm
      subst e
      have h : b_X12_mixMark_84 u0 = some v := h
      exact j84 u0 h
  have j23 : ∀ (o : OO) (x1 : Int), b_X12_mixMark_23 o x1 = some v → Go X 23 (wM g ad o) [(0, .ref (ad 0)), (1, iv x1)] [] := by
    intro o x1 h
    unfold b_X12_mixMark_23 at h
    refine g_aload_n E gdX12_mixMark_23 rfl 0 rfl ?_
    refine g_iload_n E gdX12_mixMark_24 rfl 1 rfl ?_
    obtain ⟨r8, hc9, h⟩ := qB_of h
    refine g_Vi (r := r8) (As := [iv x1]) (rest := []) (w := wM g ad o) E (c_X12_isLine l g ad o x1 r8 hc9) okm_X12_isLine okw_X12_isLine w_1907 rfl (wM_0 g ad o) rfl rfl (Nat.le_of_ble_eq_true rfl) ⟨Nat.le_of_ble_eq_true rfl, Nat.le_of_ble_eq_true rfl⟩ gdX12_mixMark_25 ?_
    refine g_if_eq E 84 gdX12_mixMark_28 (by decide) h (fun h => ?_) (fun h => ?_)
    ·
      refine g_sub E [] rfl ?_
      exact j84 o h
    ·
      refine g_aload_n E gdX12_mixMark_31 rfl 0 rfl ?_
      refine g_aload_n E gdX12_mixMark_32 rfl 0 rfl ?_
      refine g_get (T := TX12) E fw_X12 0 (wM_0 g ad o) rfl 36 (by decide) w_1502 rfl rfl gdX12_mixMark_33 ?_
      refine g_iload_n E gdX12_mixMark_36 rfl 1 rfl ?_
      obtain ⟨hi10, h⟩ := qIn_of h
      refine g_iald E 28 (wM_28 g ad o) (by decide) hi10 gdX12_mixMark_37 ?_
      obtain ⟨n11, e_n11, h⟩ := qNm_of h
      refine g_nmi e_n11 ?_
      obtain ⟨o14, hc13, h⟩ := qB_of h
      refine g_Vv (As := [iv n11]) (rest := []) (w := wM g ad o14) E (c_X12_mix l g ad o n11 o14 hc13) okm_X12_mix okw_X12_mix w_2151 rfl (wM_0 g ad o) rfl rfl (Nat.le_of_ble_eq_true rfl) ⟨Nat.le_of_ble_eq_true rfl, Nat.le_of_ble_eq_true rfl⟩ gdX12_mixMark_38 ?_
      refine g_aload_n E gdX12_mixMark_41 rfl 0 rfl ?_
      refine g_aload_n E gdX12_mixMark_42 rfl 0 rfl ?_
      refine g_get (T := TX12) E fw_X12 0 (wM_0 g ad o14) rfl 37 (by decide) w_1503 rfl rfl gdX12_mixMark_43 ?_
      refine g_iload_n E gdX12_mixMark_46 rfl 1 rfl ?_
      obtain ⟨hi15, h⟩ := qIn_of h
      refine g_iald E 29 (wM_29 g ad o14) (by decide) hi15 gdX12_mixMark_47 ?_
      obtain ⟨n16, e_n16, h⟩ := qNm_of h
      refine g_nmi e_n16 ?_
      obtain ⟨o19, hc18, h⟩ := qB_of h
      refine g_Vv (As := [iv n16]) (rest := []) (w := wM g ad o19) E (c_X12_mix l g ad o14 n16 o19 hc18) okm_X12_mix okw_X12_mix w_2151 rfl (wM_0 g ad o14) rfl rfl (Nat.le_of_ble_eq_true rfl) ⟨Nat.le_of_ble_eq_true rfl, Nat.le_of_ble_eq_true rfl⟩ gdX12_mixMark_48 ?_
      refine g_iconst E gdX12_mixMark_51 ?_
      refine g_istore_n E [(2, iv 0), (0, .ref (ad 0)), (1, iv x1)] gdX12_mixMark_52 rfl (by decide) rfl ?_
      refine g_sub E [1, 2, 0] rfl ?_
      exact j53 o19 x1 0 h
  have l2 : ∀ (x1 : Int) (r : (OO)) (s0 : OO × Int), loopW (fun s => l_X12_mixMark_2 x1 s.1 s.2) s0 = some r → (∀ (o : OO), r = (o) → Go X 23 (wM g ad o) [(0, .ref (ad 0)), (1, iv x1)] []) → Go X 2 (wM g ad s0.1) [(0, .ref (ad 0)), (1, iv x1), (2, iv s0.2)] [] := by
    intro x1 r s0 h k1
    refine loop_rule (Head := fun s0 => Go X 2 (wM g ad s0.1) [(0, .ref (ad 0)), (1, iv x1), (2, iv s0.2)] []) h ?_
    intro s v h kk kx
    obtain ⟨o, x2⟩ := s
    have h : l_X12_mixMark_2 x1 o x2 = some v := h
    have k0 : ∀ (o : OO) (x2 : Int), v = .inl (o, x2) → Go X 2 (wM g ad o) [(0, .ref (ad 0)), (1, iv x1), (2, iv x2)] [] := fun o x2 e => kk (o, x2) e
    have k1 : ∀ (o : OO), v = .inr (o) → Go X 23 (wM g ad o) [(0, .ref (ad 0)), (1, iv x1)] [] := fun o e => k1 o (kx _ e).symm
    unfold l_X12_mixMark_2 at h
    refine g_iload_n E gdX12_mixMark_2 rfl 2 rfl ?_
    refine g_iconst E gdX12_mixMark_3 ?_
    refine g_icmp_gt E 23 gdX12_mixMark_4 (by decide) h (fun h => ?_) (fun h => ?_)
    ·
      refine g_sub E [0, 1] rfl ?_
      exact k1 o (Option.some.inj h).symm
    ·
      refine g_aload_n E gdX12_mixMark_7 rfl 0 rfl ?_
      refine g_aload_n E gdX12_mixMark_8 rfl 0 rfl ?_
      refine g_iload_n E gdX12_mixMark_9 rfl 1 rfl ?_
      refine g_iload_n E gdX12_mixMark_10 rfl 2 rfl ?_
      obtain ⟨r20, hc21, h⟩ := qB_of h
      refine g_Vi (r := r20) (As := [iv x1, iv x2]) (rest := [.ref (ad 0)]) (w := wM g ad o) E (c_X12_markTells l g ad o x1 x2 r20 hc21) okm_X12_markTells okw_X12_markTells w_1961 rfl (wM_0 g ad o) rfl rfl (Nat.le_of_ble_eq_true rfl) ⟨Nat.le_of_ble_eq_true rfl, Nat.le_of_ble_eq_true rfl⟩ gdX12_mixMark_11 ?_
      obtain ⟨o24, hc23, h⟩ := qB_of h
      refine g_Vv (As := [iv r20]) (rest := []) (w := wM g ad o24) E (c_X12_mix l g ad o r20 o24 hc23) okm_X12_mix okw_X12_mix w_2151 rfl (wM_0 g ad o) rfl rfl (Nat.le_of_ble_eq_true rfl) ⟨Nat.le_of_ble_eq_true rfl, Nat.le_of_ble_eq_true rfl⟩ gdX12_mixMark_14 ?_
      refine g_iinc E [(2, iv (x2 + 1)), (0, .ref (ad 0)), (1, iv x1)] gdX12_mixMark_17 2 rfl (by decide) rfl ?_
      refine g_goto E 2 gdX12_mixMark_20 (by decide) ?_
      refine g_sub E [1, 2, 0] rfl ?_
      exact k0 o24 (x2 + 1) (Option.some.inj h).symm
  have j2 : ∀ (o : OO) (x1 : Int) (x2 : Int), e_X12_mixMark_2 o x1 x2 = some v → Go X 2 (wM g ad o) [(0, .ref (ad 0)), (1, iv x1), (2, iv x2)] [] := by
    intro o x1 x2 h
    unfold e_X12_mixMark_2 at h
    obtain ⟨r, hr, h⟩ := qB_of h
    refine l2 x1 r _ hr ?_
    ·
      intro u0 e
      have e := e.symm
      subst e
      have h : b_X12_mixMark_23 u0 x1 = some v := h
      exact j23 u0 x1 h
  unfold s_X12_mixMark at h
  refine g_iconst E gdX12_mixMark_0 ?_
  refine g_istore_n E [(2, iv 0), (0, .ref (ad 0)), (1, iv x1)] gdX12_mixMark_1 rfl (by decide) rfl ?_
  refine g_sub E [1, 2, 0] rfl ?_
  exact j2 o x1 0 h
set_option maxHeartbeats 4000000 in
set_option maxRecDepth 100000 in
theorem c_X12_digest (l : Launch) (g : GG) (ad : Nat → Nat) (o : OO) (v : Int64 × OO) (h : s_X12_digest o = some v) : CL l g yX12_digest cX12_digest 3 (some .long) 2 45 (wM g ad o) [.ref (ad 0)] v.1 (wM g ad v.2) := by
  refine met_L (by decide) (Nat.le_of_ble_eq_true rfl) ?_
  intro X E hQ
  show Go X 0 (wM g ad o) [(0, .ref (ad 0))] []
  have j351 : ∀ (o : OO), b_X12_digest_351 o = some v → Go X 351 (wM g ad o) [(0, .ref (ad 0))] [] := by
    intro o h
    unfold b_X12_digest_351 at h
    refine g_aload_n E gdX12_digest_351 rfl 0 rfl ?_
    refine g_get (T := TX12) E fw_X12 0 (wM_0 g ad o) rfl 76 (by decide) w_1542 rfl rfl gdX12_digest_352 ?_
    exact g_lret E hQ (by rw [← Option.some.inj h]) (by rw [← Option.some.inj h]) gdX12_digest_355
  have j345 : ∀ (o : OO) (x1 : Int) (v : (OO × Int) ⊕ ((OO))), b_X12_digest_345 o x1 = some v → (∀ (o : OO) (x1 : Int), v = .inl (o, x1) → Go X 284 (wM g ad o) [(0, .ref (ad 0)), (1, iv x1)] []) → (∀ (o : OO), v = .inr (o) → Go X 351 (wM g ad o) [(0, .ref (ad 0))] []) → Go X 345 (wM g ad o) [(0, .ref (ad 0)), (1, iv x1)] [] := by
    intro o x1 v h k0 k1
    unfold b_X12_digest_345 at h
    refine g_iinc E [(1, iv (x1 + 1)), (0, .ref (ad 0))] gdX12_digest_345 1 rfl (by decide) rfl ?_
    refine g_goto E 284 gdX12_digest_348 (by decide) ?_
    refine g_sub E [1, 0] rfl ?_
    exact k0 o (x1 + 1) (Option.some.inj h).symm
  have l314 : ∀ (x1 : Int) (r : (OO)) (s0 : OO × Int), loopW (fun s => l_X12_digest_314 x1 s.1 s.2) s0 = some r → (∀ (o : OO), r = (o) → Go X 345 (wM g ad o) [(0, .ref (ad 0)), (1, iv x1)] []) → Go X 314 (wM g ad s0.1) [(0, .ref (ad 0)), (1, iv x1), (2, iv s0.2)] [] := by
    intro x1 r s0 h k1
    refine loop_rule (Head := fun s0 => Go X 314 (wM g ad s0.1) [(0, .ref (ad 0)), (1, iv x1), (2, iv s0.2)] []) h ?_
    intro s v h kk kx
    obtain ⟨o, x2⟩ := s
    have h : l_X12_digest_314 x1 o x2 = some v := h
    have k0 : ∀ (o : OO) (x2 : Int), v = .inl (o, x2) → Go X 314 (wM g ad o) [(0, .ref (ad 0)), (1, iv x1), (2, iv x2)] [] := fun o x2 e => kk (o, x2) e
    have k1 : ∀ (o : OO), v = .inr (o) → Go X 345 (wM g ad o) [(0, .ref (ad 0)), (1, iv x1)] [] := fun o e => k1 o (kx _ e).symm
    unfold l_X12_digest_314 at h
    refine g_iload_n E gdX12_digest_314 rfl 2 rfl ?_
    refine g_aload_n E gdX12_digest_315 rfl 0 rfl ?_
    refine g_get (T := TX12) E fw_X12 0 (wM_0 g ad o) rfl 8 (by decide) w_1474 rfl rfl gdX12_digest_316 ?_
    refine g_iload_n E gdX12_digest_319 rfl 1 rfl ?_
    obtain ⟨hi1, h⟩ := qIn_of h
    refine g_iald E 5 (wM_5 g ad o) (by decide) hi1 gdX12_digest_320 ?_
    obtain ⟨n2, e_n2, h⟩ := qNm_of h
    refine g_nmi e_n2 ?_
    refine g_icmp_ge E 345 gdX12_digest_321 (by decide) h (fun h => ?_) (fun h => ?_)
    ·
      refine g_sub E [0, 1] rfl ?_
      exact k1 o (Option.some.inj h).symm
    ·
      refine g_aload_n E gdX12_digest_324 rfl 0 rfl ?_
      refine g_aload_n E gdX12_digest_325 rfl 0 rfl ?_
      refine g_get (T := TX12) E fw_X12 0 (wM_0 g ad o) rfl 9 (by decide) w_1475 rfl rfl gdX12_digest_326 ?_
      refine g_bipush E gdX12_digest_329 (by decide) ?_
      refine g_iload_n E gdX12_digest_331 rfl 1 rfl ?_
      refine g_imul E gdX12_digest_332 ?_
      refine g_iload_n E gdX12_digest_333 rfl 2 rfl ?_
      refine g_iadd E gdX12_digest_334 ?_
      obtain ⟨hi3, h⟩ := qIn_of h
      refine g_iald E 6 (wM_6 g ad o) (by decide) hi3 gdX12_digest_335 ?_
      obtain ⟨n4, e_n4, h⟩ := qNm_of h
      refine g_nmi e_n4 ?_
      obtain ⟨o7, hc6, h⟩ := qB_of h
      refine g_Vv (As := [iv n4]) (rest := []) (w := wM g ad o7) E (c_X12_mix l g ad o n4 o7 hc6) okm_X12_mix okw_X12_mix w_2151 rfl (wM_0 g ad o) rfl rfl (Nat.le_of_ble_eq_true rfl) ⟨Nat.le_of_ble_eq_true rfl, Nat.le_of_ble_eq_true rfl⟩ gdX12_digest_336 ?_
      refine g_iinc E [(2, iv (x2 + 1)), (0, .ref (ad 0)), (1, iv x1)] gdX12_digest_339 2 rfl (by decide) rfl ?_
      refine g_goto E 314 gdX12_digest_342 (by decide) ?_
      refine g_sub E [1, 2, 0] rfl ?_
      exact k0 o7 (x2 + 1) (Option.some.inj h).symm
  have j314 : ∀ (o : OO) (x1 : Int) (x2 : Int) (v : (OO × Int) ⊕ ((OO))), e_X12_digest_314 o x1 x2 = some v → (∀ (o : OO) (x1 : Int), v = .inl (o, x1) → Go X 284 (wM g ad o) [(0, .ref (ad 0)), (1, iv x1)] []) → (∀ (o : OO), v = .inr (o) → Go X 351 (wM g ad o) [(0, .ref (ad 0))] []) → Go X 314 (wM g ad o) [(0, .ref (ad 0)), (1, iv x1), (2, iv x2)] [] := by
    intro o x1 x2 v h k0 k1
    unfold e_X12_digest_314 at h
    obtain ⟨r, hr, h⟩ := qB_of h
    refine l314 x1 r _ hr ?_
    ·
      intro u0 e
      have e := e.symm
      subst e
      have h : b_X12_digest_345 u0 x1 = some v := h
      exact j345 u0 x1 v h k0 k1
  have j309 : ∀ (o : OO) (x1 : Int) (y1 : Int) (v : (OO × Int) ⊕ ((OO))), b_X12_digest_309 o x1 y1 = some v → (∀ (o : OO) (x1 : Int), v = .inl (o, x1) → Go X 284 (wM g ad o) [(0, .ref (ad 0)), (1, iv x1)] []) → (∀ (o : OO), v = .inr (o) → Go X 351 (wM g ad o) [(0, .ref (ad 0))] []) → Go X 309 (wM g ad o) [(0, .ref (ad 0)), (1, iv x1)] [iv y1, .ref (ad 0)] := by
    intro o x1 y1 v h k0 k1
    unfold b_X12_digest_309 at h
    obtain ⟨o10, hc9, h⟩ := qB_of h
    refine g_Vv (As := [iv y1]) (rest := []) (w := wM g ad o10) E (c_X12_mix l g ad o y1 o10 hc9) okm_X12_mix okw_X12_mix w_2151 rfl (wM_0 g ad o) rfl rfl (Nat.le_of_ble_eq_true rfl) ⟨Nat.le_of_ble_eq_true rfl, Nat.le_of_ble_eq_true rfl⟩ gdX12_digest_309 ?_
    refine g_iconst E gdX12_digest_312 ?_
    refine g_istore_n E [(2, iv 0), (0, .ref (ad 0)), (1, iv x1)] gdX12_digest_313 rfl (by decide) rfl ?_
    refine g_sub E [1, 2, 0] rfl ?_
    exact j314 o10 x1 0 v h k0 k1
  have l284 : ∀  (r : (OO)) (s0 : OO × Int), loopW (fun s => l_X12_digest_284 s.1 s.2) s0 = some r → (∀ (o : OO), r = (o) → Go X 351 (wM g ad o) [(0, .ref (ad 0))] []) → Go X 284 (wM g ad s0.1) [(0, .ref (ad 0)), (1, iv s0.2)] [] := by
    intro r s0 h k1
    refine loop_rule (Head := fun s0 => Go X 284 (wM g ad s0.1) [(0, .ref (ad 0)), (1, iv s0.2)] []) h ?_
    intro s v h kk kx
    obtain ⟨o, x1⟩ := s
    have h : l_X12_digest_284 o x1 = some v := h
    have k0 : ∀ (o : OO) (x1 : Int), v = .inl (o, x1) → Go X 284 (wM g ad o) [(0, .ref (ad 0)), (1, iv x1)] [] := fun o x1 e => kk (o, x1) e
    have k1 : ∀ (o : OO), v = .inr (o) → Go X 351 (wM g ad o) [(0, .ref (ad 0))] [] := fun o e => k1 o (kx _ e).symm
    unfold l_X12_digest_284 at h
    refine g_iload_n E gdX12_digest_284 rfl 1 rfl ?_
    refine g_iconst E gdX12_digest_285 ?_
    refine g_icmp_ge E 351 gdX12_digest_286 (by decide) h (fun h => ?_) (fun h => ?_)
    ·
      refine g_sub E [0] rfl ?_
      exact k1 o (Option.some.inj h).symm
    ·
      refine g_aload_n E gdX12_digest_289 rfl 0 rfl ?_
      refine g_aload_n E gdX12_digest_290 rfl 0 rfl ?_
      refine g_get (T := TX12) E fw_X12 0 (wM_0 g ad o) rfl 8 (by decide) w_1474 rfl rfl gdX12_digest_291 ?_
      refine g_iload_n E gdX12_digest_294 rfl 1 rfl ?_
      obtain ⟨hi11, h⟩ := qIn_of h
      refine g_iald E 5 (wM_5 g ad o) (by decide) hi11 gdX12_digest_295 ?_
      obtain ⟨n12, e_n12, h⟩ := qNm_of h
      refine g_nmi e_n12 ?_
      refine g_if_ge E 303 gdX12_digest_296 (by decide) h (fun h => ?_) (fun h => ?_)
      ·
        refine g_aload_n E gdX12_digest_303 rfl 0 rfl ?_
        refine g_get (T := TX12) E fw_X12 0 (wM_0 g ad o) rfl 8 (by decide) w_1474 rfl rfl gdX12_digest_304 ?_
        refine g_iload_n E gdX12_digest_307 rfl 1 rfl ?_
        obtain ⟨hi13, h⟩ := qIn_of h
        refine g_iald E 5 (wM_5 g ad o) (by decide) hi13 gdX12_digest_308 ?_
        obtain ⟨n14, e_n14, h⟩ := qNm_of h
        refine g_nmi e_n14 ?_
        exact j309 o x1 n14 v h k0 k1
      ·
        refine g_iconst E gdX12_digest_299 ?_
        refine g_goto E 309 gdX12_digest_300 (by decide) ?_
        exact j309 o x1 (-1) v h k0 k1
  have j284 : ∀ (o : OO) (x1 : Int), e_X12_digest_284 o x1 = some v → Go X 284 (wM g ad o) [(0, .ref (ad 0)), (1, iv x1)] [] := by
    intro o x1 h
    unfold e_X12_digest_284 at h
    obtain ⟨r, hr, h⟩ := qB_of h
    refine l284  r _ hr ?_
    ·
      intro u0 e
      have e := e.symm
      subst e
      have h : b_X12_digest_351 u0 = some v := h
      exact j351 u0 h
  have j282 : ∀ (o : OO), b_X12_digest_282 o = some v → Go X 282 (wM g ad o) [(0, .ref (ad 0))] [] := by
    intro o h
    unfold b_X12_digest_282 at h
    refine g_iconst E gdX12_digest_282 ?_
    refine g_istore_n E [(1, iv 0), (0, .ref (ad 0))] gdX12_digest_283 rfl (by decide) rfl ?_
    refine g_sub E [1, 0] rfl ?_
    exact j284 o 0 h
  have j276 : ∀ (o : OO) (x1 : Int) (v : (OO × Int) ⊕ ((OO))), b_X12_digest_276 o x1 = some v → (∀ (o : OO) (x1 : Int), v = .inl (o, x1) → Go X 214 (wM g ad o) [(0, .ref (ad 0)), (1, iv x1)] []) → (∀ (o : OO), v = .inr (o) → Go X 282 (wM g ad o) [(0, .ref (ad 0))] []) → Go X 276 (wM g ad o) [(0, .ref (ad 0)), (1, iv x1)] [] := by
    intro o x1 v h k0 k1
    unfold b_X12_digest_276 at h
    refine g_iinc E [(1, iv (x1 + 1)), (0, .ref (ad 0))] gdX12_digest_276 1 rfl (by decide) rfl ?_
    refine g_goto E 214 gdX12_digest_279 (by decide) ?_
    refine g_sub E [1, 0] rfl ?_
    exact k0 o (x1 + 1) (Option.some.inj h).symm
  have l245 : ∀ (x1 : Int) (r : (OO)) (s0 : OO × Int), loopW (fun s => l_X12_digest_245 x1 s.1 s.2) s0 = some r → (∀ (o : OO), r = (o) → Go X 276 (wM g ad o) [(0, .ref (ad 0)), (1, iv x1)] []) → Go X 245 (wM g ad s0.1) [(0, .ref (ad 0)), (1, iv x1), (2, iv s0.2)] [] := by
    intro x1 r s0 h k1
    refine loop_rule (Head := fun s0 => Go X 245 (wM g ad s0.1) [(0, .ref (ad 0)), (1, iv x1), (2, iv s0.2)] []) h ?_
    intro s v h kk kx
    obtain ⟨o, x2⟩ := s
    have h : l_X12_digest_245 x1 o x2 = some v := h
    have k0 : ∀ (o : OO) (x2 : Int), v = .inl (o, x2) → Go X 245 (wM g ad o) [(0, .ref (ad 0)), (1, iv x1), (2, iv x2)] [] := fun o x2 e => kk (o, x2) e
    have k1 : ∀ (o : OO), v = .inr (o) → Go X 276 (wM g ad o) [(0, .ref (ad 0)), (1, iv x1)] [] := fun o e => k1 o (kx _ e).symm
    unfold l_X12_digest_245 at h
    refine g_iload_n E gdX12_digest_245 rfl 2 rfl ?_
    refine g_aload_n E gdX12_digest_246 rfl 0 rfl ?_
    refine g_get (T := TX12) E fw_X12 0 (wM_0 g ad o) rfl 5 (by decide) w_1471 rfl rfl gdX12_digest_247 ?_
    refine g_iload_n E gdX12_digest_250 rfl 1 rfl ?_
    obtain ⟨hi15, h⟩ := qIn_of h
    refine g_iald E 2 (wM_2 g ad o) (by decide) hi15 gdX12_digest_251 ?_
    obtain ⟨n16, e_n16, h⟩ := qNm_of h
    refine g_nmi e_n16 ?_
    refine g_icmp_ge E 276 gdX12_digest_252 (by decide) h (fun h => ?_) (fun h => ?_)
    ·
      refine g_sub E [0, 1] rfl ?_
      exact k1 o (Option.some.inj h).symm
    ·
      refine g_aload_n E gdX12_digest_255 rfl 0 rfl ?_
      refine g_aload_n E gdX12_digest_256 rfl 0 rfl ?_
      refine g_get (T := TX12) E fw_X12 0 (wM_0 g ad o) rfl 6 (by decide) w_1472 rfl rfl gdX12_digest_257 ?_
      refine g_bipush E gdX12_digest_260 (by decide) ?_
      refine g_iload_n E gdX12_digest_262 rfl 1 rfl ?_
      refine g_imul E gdX12_digest_263 ?_
      refine g_iload_n E gdX12_digest_264 rfl 2 rfl ?_
      refine g_iadd E gdX12_digest_265 ?_
      obtain ⟨hi17, h⟩ := qIn_of h
      refine g_iald E 3 (wM_3 g ad o) (by decide) hi17 gdX12_digest_266 ?_
      obtain ⟨n18, e_n18, h⟩ := qNm_of h
      refine g_nmi e_n18 ?_
      obtain ⟨o21, hc20, h⟩ := qB_of h
      refine g_Vv (As := [iv n18]) (rest := []) (w := wM g ad o21) E (c_X12_mix l g ad o n18 o21 hc20) okm_X12_mix okw_X12_mix w_2151 rfl (wM_0 g ad o) rfl rfl (Nat.le_of_ble_eq_true rfl) ⟨Nat.le_of_ble_eq_true rfl, Nat.le_of_ble_eq_true rfl⟩ gdX12_digest_267 ?_
      refine g_iinc E [(2, iv (x2 + 1)), (0, .ref (ad 0)), (1, iv x1)] gdX12_digest_270 2 rfl (by decide) rfl ?_
      refine g_goto E 245 gdX12_digest_273 (by decide) ?_
      refine g_sub E [1, 2, 0] rfl ?_
      exact k0 o21 (x2 + 1) (Option.some.inj h).symm
  have j245 : ∀ (o : OO) (x1 : Int) (x2 : Int) (v : (OO × Int) ⊕ ((OO))), e_X12_digest_245 o x1 x2 = some v → (∀ (o : OO) (x1 : Int), v = .inl (o, x1) → Go X 214 (wM g ad o) [(0, .ref (ad 0)), (1, iv x1)] []) → (∀ (o : OO), v = .inr (o) → Go X 282 (wM g ad o) [(0, .ref (ad 0))] []) → Go X 245 (wM g ad o) [(0, .ref (ad 0)), (1, iv x1), (2, iv x2)] [] := by
    intro o x1 x2 v h k0 k1
    unfold e_X12_digest_245 at h
    obtain ⟨r, hr, h⟩ := qB_of h
    refine l245 x1 r _ hr ?_
    ·
      intro u0 e
      have e := e.symm
      subst e
      have h : b_X12_digest_276 u0 x1 = some v := h
      exact j276 u0 x1 v h k0 k1
  have j240 : ∀ (o : OO) (x1 : Int) (y1 : Int) (v : (OO × Int) ⊕ ((OO))), b_X12_digest_240 o x1 y1 = some v → (∀ (o : OO) (x1 : Int), v = .inl (o, x1) → Go X 214 (wM g ad o) [(0, .ref (ad 0)), (1, iv x1)] []) → (∀ (o : OO), v = .inr (o) → Go X 282 (wM g ad o) [(0, .ref (ad 0))] []) → Go X 240 (wM g ad o) [(0, .ref (ad 0)), (1, iv x1)] [iv y1, .ref (ad 0)] := by
    intro o x1 y1 v h k0 k1
    unfold b_X12_digest_240 at h
    obtain ⟨o24, hc23, h⟩ := qB_of h
    refine g_Vv (As := [iv y1]) (rest := []) (w := wM g ad o24) E (c_X12_mix l g ad o y1 o24 hc23) okm_X12_mix okw_X12_mix w_2151 rfl (wM_0 g ad o) rfl rfl (Nat.le_of_ble_eq_true rfl) ⟨Nat.le_of_ble_eq_true rfl, Nat.le_of_ble_eq_true rfl⟩ gdX12_digest_240 ?_
    refine g_iconst E gdX12_digest_243 ?_
    refine g_istore_n E [(2, iv 0), (0, .ref (ad 0)), (1, iv x1)] gdX12_digest_244 rfl (by decide) rfl ?_
    refine g_sub E [1, 2, 0] rfl ?_
    exact j245 o24 x1 0 v h k0 k1
  have l214 : ∀  (r : (OO)) (s0 : OO × Int), loopW (fun s => l_X12_digest_214 s.1 s.2) s0 = some r → (∀ (o : OO), r = (o) → Go X 282 (wM g ad o) [(0, .ref (ad 0))] []) → Go X 214 (wM g ad s0.1) [(0, .ref (ad 0)), (1, iv s0.2)] [] := by
    intro r s0 h k1
    refine loop_rule (Head := fun s0 => Go X 214 (wM g ad s0.1) [(0, .ref (ad 0)), (1, iv s0.2)] []) h ?_
    intro s v h kk kx
    obtain ⟨o, x1⟩ := s
    have h : l_X12_digest_214 o x1 = some v := h
    have k0 : ∀ (o : OO) (x1 : Int), v = .inl (o, x1) → Go X 214 (wM g ad o) [(0, .ref (ad 0)), (1, iv x1)] [] := fun o x1 e => kk (o, x1) e
    have k1 : ∀ (o : OO), v = .inr (o) → Go X 282 (wM g ad o) [(0, .ref (ad 0))] [] := fun o e => k1 o (kx _ e).symm
    unfold l_X12_digest_214 at h
    refine g_iload_n E gdX12_digest_214 rfl 1 rfl ?_
    refine g_bipush E gdX12_digest_215 (by decide) ?_
    refine g_icmp_ge E 282 gdX12_digest_217 (by decide) h (fun h => ?_) (fun h => ?_)
    ·
      refine g_sub E [0] rfl ?_
      exact k1 o (Option.some.inj h).symm
    ·
      refine g_aload_n E gdX12_digest_220 rfl 0 rfl ?_
      refine g_aload_n E gdX12_digest_221 rfl 0 rfl ?_
      refine g_get (T := TX12) E fw_X12 0 (wM_0 g ad o) rfl 5 (by decide) w_1471 rfl rfl gdX12_digest_222 ?_
      refine g_iload_n E gdX12_digest_225 rfl 1 rfl ?_
      obtain ⟨hi25, h⟩ := qIn_of h
      refine g_iald E 2 (wM_2 g ad o) (by decide) hi25 gdX12_digest_226 ?_
      obtain ⟨n26, e_n26, h⟩ := qNm_of h
      refine g_nmi e_n26 ?_
      refine g_if_ge E 234 gdX12_digest_227 (by decide) h (fun h => ?_) (fun h => ?_)
      ·
        refine g_aload_n E gdX12_digest_234 rfl 0 rfl ?_
        refine g_get (T := TX12) E fw_X12 0 (wM_0 g ad o) rfl 5 (by decide) w_1471 rfl rfl gdX12_digest_235 ?_
        refine g_iload_n E gdX12_digest_238 rfl 1 rfl ?_
        obtain ⟨hi27, h⟩ := qIn_of h
        refine g_iald E 2 (wM_2 g ad o) (by decide) hi27 gdX12_digest_239 ?_
        obtain ⟨n28, e_n28, h⟩ := qNm_of h
        refine g_nmi e_n28 ?_
        exact j240 o x1 n28 v h k0 k1
      ·
        refine g_iconst E gdX12_digest_230 ?_
        refine g_goto E 240 gdX12_digest_231 (by decide) ?_
        exact j240 o x1 (-1) v h k0 k1
  have j214 : ∀ (o : OO) (x1 : Int), e_X12_digest_214 o x1 = some v → Go X 214 (wM g ad o) [(0, .ref (ad 0)), (1, iv x1)] [] := by
    intro o x1 h
    unfold e_X12_digest_214 at h
    obtain ⟨r, hr, h⟩ := qB_of h
    refine l214  r _ hr ?_
    ·
      intro u0 e
      have e := e.symm
      subst e
      have h : b_X12_digest_282 u0 = some v := h
      exact j282 u0 h
  have j212 : ∀ (o : OO), b_X12_digest_212 o = some v → Go X 212 (wM g ad o) [(0, .ref (ad 0))] [] := by
    intro o h
    unfold b_X12_digest_212 at h
    refine g_iconst E gdX12_digest_212 ?_
    refine g_istore_n E [(1, iv 0), (0, .ref (ad 0))] gdX12_digest_213 rfl (by decide) rfl ?_
    refine g_sub E [1, 0] rfl ?_
    exact j214 o 0 h
  have l193 : ∀  (r : (OO)) (s0 : OO × Int), loopW (fun s => l_X12_digest_193 s.1 s.2) s0 = some r → (∀ (o : OO), r = (o) → Go X 212 (wM g ad o) [(0, .ref (ad 0))] []) → Go X 193 (wM g ad s0.1) [(0, .ref (ad 0)), (1, iv s0.2)] [] := by
    intro r s0 h k1
    refine loop_rule (Head := fun s0 => Go X 193 (wM g ad s0.1) [(0, .ref (ad 0)), (1, iv s0.2)] []) h ?_
    intro s v h kk kx
    obtain ⟨o, x1⟩ := s
    have h : l_X12_digest_193 o x1 = some v := h
    have k0 : ∀ (o : OO) (x1 : Int), v = .inl (o, x1) → Go X 193 (wM g ad o) [(0, .ref (ad 0)), (1, iv x1)] [] := fun o x1 e => kk (o, x1) e
    have k1 : ∀ (o : OO), v = .inr (o) → Go X 212 (wM g ad o) [(0, .ref (ad 0))] [] := fun o e => k1 o (kx _ e).symm
    unfold l_X12_digest_193 at h
    refine g_iload_n E gdX12_digest_193 rfl 1 rfl ?_
    refine g_aload_n E gdX12_digest_194 rfl 0 rfl ?_
    refine g_get (T := TX12) E fw_X12 0 (wM_0 g ad o) rfl 32 (by decide) w_1498 rfl rfl gdX12_digest_195 ?_
    refine g_icmp_ge E 212 gdX12_digest_198 (by decide) h (fun h => ?_) (fun h => ?_)
    ·
      refine g_sub E [0] rfl ?_
      exact k1 o (Option.some.inj h).symm
    ·
      refine g_aload_n E gdX12_digest_201 rfl 0 rfl ?_
      refine g_iload_n E gdX12_digest_202 rfl 1 rfl ?_
      obtain ⟨o31, hc30, h⟩ := qB_of h
      refine g_Vv (As := [iv x1]) (rest := []) (w := wM g ad o31) E (c_X12_mixMark l g ad o x1 o31 hc30) okm_X12_mixMark okw_X12_mixMark w_2156 rfl (wM_0 g ad o) rfl rfl (Nat.le_of_ble_eq_true rfl) ⟨Nat.le_of_ble_eq_true rfl, Nat.le_of_ble_eq_true rfl⟩ gdX12_digest_203 ?_
      refine g_iinc E [(1, iv (x1 + 1)), (0, .ref (ad 0))] gdX12_digest_206 1 rfl (by decide) rfl ?_
      refine g_goto E 193 gdX12_digest_209 (by decide) ?_
      refine g_sub E [1, 0] rfl ?_
      exact k0 o31 (x1 + 1) (Option.some.inj h).symm
  have j193 : ∀ (o : OO) (x1 : Int), e_X12_digest_193 o x1 = some v → Go X 193 (wM g ad o) [(0, .ref (ad 0)), (1, iv x1)] [] := by
    intro o x1 h
    unfold e_X12_digest_193 at h
    obtain ⟨r, hr, h⟩ := qB_of h
    refine l193  r _ hr ?_
    ·
      intro u0 e
      have e := e.symm
      subst e
      have h : b_X12_digest_212 u0 = some v := h
      exact j212 u0 h
  have j191 : ∀ (o : OO), b_X12_digest_191 o = some v → Go X 191 (wM g ad o) [(0, .ref (ad 0))] [] := by
    intro o h
    unfold b_X12_digest_191 at h
    refine g_iconst E gdX12_digest_191 ?_
    refine g_istore_n E [(1, iv 0), (0, .ref (ad 0))] gdX12_digest_192 rfl (by decide) rfl ?_
    refine g_sub E [1, 0] rfl ?_
    exact j193 o 0 h
  have l157 : ∀  (r : (OO)) (s0 : OO × Int), loopW (fun s => l_X12_digest_157 s.1 s.2) s0 = some r → (∀ (o : OO), r = (o) → Go X 191 (wM g ad o) [(0, .ref (ad 0))] []) → Go X 157 (wM g ad s0.1) [(0, .ref (ad 0)), (1, iv s0.2)] [] := by
    intro r s0 h k1
    refine loop_rule (Head := fun s0 => Go X 157 (wM g ad s0.1) [(0, .ref (ad 0)), (1, iv s0.2)] []) h ?_
    intro s v h kk kx
    obtain ⟨o, x1⟩ := s
    have h : l_X12_digest_157 o x1 = some v := h
    have k0 : ∀ (o : OO) (x1 : Int), v = .inl (o, x1) → Go X 157 (wM g ad o) [(0, .ref (ad 0)), (1, iv x1)] [] := fun o x1 e => kk (o, x1) e
    have k1 : ∀ (o : OO), v = .inr (o) → Go X 191 (wM g ad o) [(0, .ref (ad 0))] [] := fun o e => k1 o (kx _ e).symm
    unfold l_X12_digest_157 at h
    refine g_iload_n E gdX12_digest_157 rfl 1 rfl ?_
    refine g_aload_n E gdX12_digest_158 rfl 0 rfl ?_
    refine g_get (T := TX12) E fw_X12 0 (wM_0 g ad o) rfl 10 (by decide) w_1476 rfl rfl gdX12_digest_159 ?_
    refine g_icmp_ge E 191 gdX12_digest_162 (by decide) h (fun h => ?_) (fun h => ?_)
    ·
      refine g_sub E [0] rfl ?_
      exact k1 o (Option.some.inj h).symm
    ·
      refine g_aload_n E gdX12_digest_165 rfl 0 rfl ?_
      refine g_aload_n E gdX12_digest_166 rfl 0 rfl ?_
      refine g_get (T := TX12) E fw_X12 0 (wM_0 g ad o) rfl 11 (by decide) w_1477 rfl rfl gdX12_digest_167 ?_
      refine g_iload_n E gdX12_digest_170 rfl 1 rfl ?_
      obtain ⟨hi32, h⟩ := qIn_of h
      refine g_iald E 7 (wM_7 g ad o) (by decide) hi32 gdX12_digest_171 ?_
      obtain ⟨n33, e_n33, h⟩ := qNm_of h
      refine g_nmi e_n33 ?_
      obtain ⟨o36, hc35, h⟩ := qB_of h
      refine g_Vv (As := [iv n33]) (rest := []) (w := wM g ad o36) E (c_X12_mix l g ad o n33 o36 hc35) okm_X12_mix okw_X12_mix w_2151 rfl (wM_0 g ad o) rfl rfl (Nat.le_of_ble_eq_true rfl) ⟨Nat.le_of_ble_eq_true rfl, Nat.le_of_ble_eq_true rfl⟩ gdX12_digest_172 ?_
      refine g_aload_n E gdX12_digest_175 rfl 0 rfl ?_
      refine g_aload_n E gdX12_digest_176 rfl 0 rfl ?_
      refine g_get (T := TX12) E fw_X12 0 (wM_0 g ad o36) rfl 12 (by decide) w_1478 rfl rfl gdX12_digest_177 ?_
      refine g_iload_n E gdX12_digest_180 rfl 1 rfl ?_
      obtain ⟨hi37, h⟩ := qIn_of h
      refine g_iald E 8 (wM_8 g ad o36) (by decide) hi37 gdX12_digest_181 ?_
      obtain ⟨n38, e_n38, h⟩ := qNm_of h
      refine g_nmi e_n38 ?_
      obtain ⟨o41, hc40, h⟩ := qB_of h
      refine g_Vv (As := [iv n38]) (rest := []) (w := wM g ad o41) E (c_X12_mix l g ad o36 n38 o41 hc40) okm_X12_mix okw_X12_mix w_2151 rfl (wM_0 g ad o36) rfl rfl (Nat.le_of_ble_eq_true rfl) ⟨Nat.le_of_ble_eq_true rfl, Nat.le_of_ble_eq_true rfl⟩ gdX12_digest_182 ?_
      refine g_iinc E [(1, iv (x1 + 1)), (0, .ref (ad 0))] gdX12_digest_185 1 rfl (by decide) rfl ?_
      refine g_goto E 157 gdX12_digest_188 (by decide) ?_
      refine g_sub E [1, 0] rfl ?_
      exact k0 o41 (x1 + 1) (Option.some.inj h).symm
  have j157 : ∀ (o : OO) (x1 : Int), e_X12_digest_157 o x1 = some v → Go X 157 (wM g ad o) [(0, .ref (ad 0)), (1, iv x1)] [] := by
    intro o x1 h
    unfold e_X12_digest_157 at h
    obtain ⟨r, hr, h⟩ := qB_of h
    refine l157  r _ hr ?_
    ·
      intro u0 e
      have e := e.symm
      subst e
      have h : b_X12_digest_191 u0 = some v := h
      exact j191 u0 h
  have j155 : ∀ (o : OO), b_X12_digest_155 o = some v → Go X 155 (wM g ad o) [(0, .ref (ad 0))] [] := by
    intro o h
    unfold b_X12_digest_155 at h
    refine g_iconst E gdX12_digest_155 ?_
    refine g_istore_n E [(1, iv 0), (0, .ref (ad 0))] gdX12_digest_156 rfl (by decide) rfl ?_
    refine g_sub E [1, 0] rfl ?_
    exact j157 o 0 h
  have j149 : ∀ (o : OO) (x1 : Int) (v : (OO × Int) ⊕ ((OO))), b_X12_digest_149 o x1 = some v → (∀ (o : OO) (x1 : Int), v = .inl (o, x1) → Go X 118 (wM g ad o) [(0, .ref (ad 0)), (1, iv x1)] []) → (∀ (o : OO), v = .inr (o) → Go X 155 (wM g ad o) [(0, .ref (ad 0))] []) → Go X 149 (wM g ad o) [(0, .ref (ad 0)), (1, iv x1)] [] := by
    intro o x1 v h k0 k1
    unfold b_X12_digest_149 at h
    refine g_iinc E [(1, iv (x1 + 1)), (0, .ref (ad 0))] gdX12_digest_149 1 rfl (by decide) rfl ?_
    refine g_goto E 118 gdX12_digest_152 (by decide) ?_
    refine g_sub E [1, 0] rfl ?_
    exact k0 o (x1 + 1) (Option.some.inj h).symm
  have l128 : ∀ (x1 : Int) (r : (OO)) (s0 : OO × Int), loopW (fun s => l_X12_digest_128 x1 s.1 s.2) s0 = some r → (∀ (o : OO), r = (o) → Go X 149 (wM g ad o) [(0, .ref (ad 0)), (1, iv x1)] []) → Go X 128 (wM g ad s0.1) [(0, .ref (ad 0)), (1, iv x1), (2, iv s0.2)] [] := by
    intro x1 r s0 h k1
    refine loop_rule (Head := fun s0 => Go X 128 (wM g ad s0.1) [(0, .ref (ad 0)), (1, iv x1), (2, iv s0.2)] []) h ?_
    intro s v h kk kx
    obtain ⟨o, x2⟩ := s
    have h : l_X12_digest_128 x1 o x2 = some v := h
    have k0 : ∀ (o : OO) (x2 : Int), v = .inl (o, x2) → Go X 128 (wM g ad o) [(0, .ref (ad 0)), (1, iv x1), (2, iv x2)] [] := fun o x2 e => kk (o, x2) e
    have k1 : ∀ (o : OO), v = .inr (o) → Go X 149 (wM g ad o) [(0, .ref (ad 0)), (1, iv x1)] [] := fun o e => k1 o (kx _ e).symm
    unfold l_X12_digest_128 at h
    refine g_iload_n E gdX12_digest_128 rfl 2 rfl ?_
    refine g_iconst E gdX12_digest_129 ?_
    refine g_icmp_gt E 149 gdX12_digest_130 (by decide) h (fun h => ?_) (fun h => ?_)
    ·
      refine g_sub E [0, 1] rfl ?_
      exact k1 o (Option.some.inj h).symm
    ·
      refine g_aload_n E gdX12_digest_133 rfl 0 rfl ?_
      refine g_aload_n E gdX12_digest_134 rfl 0 rfl ?_
      refine g_iload_n E gdX12_digest_135 rfl 1 rfl ?_
      refine g_iload_n E gdX12_digest_136 rfl 2 rfl ?_
      obtain ⟨r42, hc43, h⟩ := qB_of h
      refine g_Vi (r := r42) (As := [iv x1, iv x2]) (rest := [.ref (ad 0)]) (w := wM g ad o) E (c_X12_personTells l g ad o x1 x2 r42 hc43) okm_X12_personTells okw_X12_personTells w_1855 rfl (wM_0 g ad o) rfl rfl (Nat.le_of_ble_eq_true rfl) ⟨Nat.le_of_ble_eq_true rfl, Nat.le_of_ble_eq_true rfl⟩ gdX12_digest_137 ?_
      obtain ⟨o46, hc45, h⟩ := qB_of h
      refine g_Vv (As := [iv r42]) (rest := []) (w := wM g ad o46) E (c_X12_mix l g ad o r42 o46 hc45) okm_X12_mix okw_X12_mix w_2151 rfl (wM_0 g ad o) rfl rfl (Nat.le_of_ble_eq_true rfl) ⟨Nat.le_of_ble_eq_true rfl, Nat.le_of_ble_eq_true rfl⟩ gdX12_digest_140 ?_
      refine g_iinc E [(2, iv (x2 + 1)), (0, .ref (ad 0)), (1, iv x1)] gdX12_digest_143 2 rfl (by decide) rfl ?_
      refine g_goto E 128 gdX12_digest_146 (by decide) ?_
      refine g_sub E [1, 2, 0] rfl ?_
      exact k0 o46 (x2 + 1) (Option.some.inj h).symm
  have j128 : ∀ (o : OO) (x1 : Int) (x2 : Int) (v : (OO × Int) ⊕ ((OO))), e_X12_digest_128 o x1 x2 = some v → (∀ (o : OO) (x1 : Int), v = .inl (o, x1) → Go X 118 (wM g ad o) [(0, .ref (ad 0)), (1, iv x1)] []) → (∀ (o : OO), v = .inr (o) → Go X 155 (wM g ad o) [(0, .ref (ad 0))] []) → Go X 128 (wM g ad o) [(0, .ref (ad 0)), (1, iv x1), (2, iv x2)] [] := by
    intro o x1 x2 v h k0 k1
    unfold e_X12_digest_128 at h
    obtain ⟨r, hr, h⟩ := qB_of h
    refine l128 x1 r _ hr ?_
    ·
      intro u0 e
      have e := e.symm
      subst e
      have h : b_X12_digest_149 u0 x1 = some v := h
      exact j149 u0 x1 v h k0 k1
  have l118 : ∀  (r : (OO)) (s0 : OO × Int), loopW (fun s => l_X12_digest_118 s.1 s.2) s0 = some r → (∀ (o : OO), r = (o) → Go X 155 (wM g ad o) [(0, .ref (ad 0))] []) → Go X 118 (wM g ad s0.1) [(0, .ref (ad 0)), (1, iv s0.2)] [] := by
    intro r s0 h k1
    refine loop_rule (Head := fun s0 => Go X 118 (wM g ad s0.1) [(0, .ref (ad 0)), (1, iv s0.2)] []) h ?_
    intro s v h kk kx
    obtain ⟨o, x1⟩ := s
    have h : l_X12_digest_118 o x1 = some v := h
    have k0 : ∀ (o : OO) (x1 : Int), v = .inl (o, x1) → Go X 118 (wM g ad o) [(0, .ref (ad 0)), (1, iv x1)] [] := fun o x1 e => kk (o, x1) e
    have k1 : ∀ (o : OO), v = .inr (o) → Go X 155 (wM g ad o) [(0, .ref (ad 0))] [] := fun o e => k1 o (kx _ e).symm
    unfold l_X12_digest_118 at h
    refine g_iload_n E gdX12_digest_118 rfl 1 rfl ?_
    refine g_aload_n E gdX12_digest_119 rfl 0 rfl ?_
    refine g_get (T := TX12) E fw_X12 0 (wM_0 g ad o) rfl 27 (by decide) w_1493 rfl rfl gdX12_digest_120 ?_
    refine g_icmp_ge E 155 gdX12_digest_123 (by decide) h (fun h => ?_) (fun h => ?_)
    ·
      refine g_sub E [0] rfl ?_
      exact k1 o (Option.some.inj h).symm
    ·
      refine g_iconst E gdX12_digest_126 ?_
      refine g_istore_n E [(2, iv 0), (0, .ref (ad 0)), (1, iv x1)] gdX12_digest_127 rfl (by decide) rfl ?_
      refine g_sub E [1, 2, 0] rfl ?_
      exact j128 o x1 0 v h k0 k1
  have j118 : ∀ (o : OO) (x1 : Int), e_X12_digest_118 o x1 = some v → Go X 118 (wM g ad o) [(0, .ref (ad 0)), (1, iv x1)] [] := by
    intro o x1 h
    unfold e_X12_digest_118 at h
    obtain ⟨r, hr, h⟩ := qB_of h
    refine l118  r _ hr ?_
    ·
      intro u0 e
      have e := e.symm
      subst e
      have h : b_X12_digest_155 u0 = some v := h
      exact j155 u0 h
  have j116 : ∀ (o : OO), b_X12_digest_116 o = some v → Go X 116 (wM g ad o) [(0, .ref (ad 0))] [] := by
    intro o h
    unfold b_X12_digest_116 at h
    refine g_iconst E gdX12_digest_116 ?_
    refine g_istore_n E [(1, iv 0), (0, .ref (ad 0))] gdX12_digest_117 rfl (by decide) rfl ?_
    refine g_sub E [1, 0] rfl ?_
    exact j118 o 0 h
  have j97 : ∀ (o : OO) (x1 : Int) (v : (OO × Int) ⊕ ((OO))), b_X12_digest_97 o x1 = some v → (∀ (o : OO) (x1 : Int), v = .inl (o, x1) → Go X 66 (wM g ad o) [(0, .ref (ad 0)), (1, iv x1)] []) → (∀ (o : OO), v = .inr (o) → Go X 116 (wM g ad o) [(0, .ref (ad 0))] []) → Go X 97 (wM g ad o) [(0, .ref (ad 0)), (1, iv x1)] [] := by
    intro o x1 v h k0 k1
    unfold b_X12_digest_97 at h
    refine g_aload_n E gdX12_digest_97 rfl 0 rfl ?_
    refine g_aload_n E gdX12_digest_98 rfl 0 rfl ?_
    refine g_iload_n E gdX12_digest_99 rfl 1 rfl ?_
    refine g_aload_n E gdX12_digest_100 rfl 0 rfl ?_
    refine g_get (T := TX12) E fw_X12 0 (wM_0 g ad o) rfl 4 (by decide) w_1470 rfl rfl gdX12_digest_101 ?_
    obtain ⟨r47, hc48, h⟩ := qB_of h
    refine g_Vi (r := r47) (As := [iv x1, iv (o.1 0 4)]) (rest := [.ref (ad 0)]) (w := wM g ad o) E (c_X12_valueOf l g ad o x1 (o.1 0 4) r47 hc48) okm_X12_valueOf okw_X12_valueOf w_1815 rfl (wM_0 g ad o) rfl rfl (Nat.le_of_ble_eq_true rfl) ⟨Nat.le_of_ble_eq_true rfl, Nat.le_of_ble_eq_true rfl⟩ gdX12_digest_104 ?_
    obtain ⟨o51, hc50, h⟩ := qB_of h
    refine g_Vv (As := [iv r47]) (rest := []) (w := wM g ad o51) E (c_X12_mix l g ad o r47 o51 hc50) okm_X12_mix okw_X12_mix w_2151 rfl (wM_0 g ad o) rfl rfl (Nat.le_of_ble_eq_true rfl) ⟨Nat.le_of_ble_eq_true rfl, Nat.le_of_ble_eq_true rfl⟩ gdX12_digest_107 ?_
    refine g_iinc E [(1, iv (x1 + 1)), (0, .ref (ad 0))] gdX12_digest_110 1 rfl (by decide) rfl ?_
    refine g_goto E 66 gdX12_digest_113 (by decide) ?_
    refine g_sub E [1, 0] rfl ?_
    exact k0 o51 (x1 + 1) (Option.some.inj h).symm
  have l76 : ∀ (x1 : Int) (r : (OO)) (s0 : OO × Int), loopW (fun s => l_X12_digest_76 x1 s.1 s.2) s0 = some r → (∀ (o : OO), r = (o) → Go X 97 (wM g ad o) [(0, .ref (ad 0)), (1, iv x1)] []) → Go X 76 (wM g ad s0.1) [(0, .ref (ad 0)), (1, iv x1), (2, iv s0.2)] [] := by
    intro x1 r s0 h k1
    refine loop_rule (Head := fun s0 => Go X 76 (wM g ad s0.1) [(0, .ref (ad 0)), (1, iv x1), (2, iv s0.2)] []) h ?_
    intro s v h kk kx
    obtain ⟨o, x2⟩ := s
    have h : l_X12_digest_76 x1 o x2 = some v := h
    have k0 : ∀ (o : OO) (x2 : Int), v = .inl (o, x2) → Go X 76 (wM g ad o) [(0, .ref (ad 0)), (1, iv x1), (2, iv x2)] [] := fun o x2 e => kk (o, x2) e
    have k1 : ∀ (o : OO), v = .inr (o) → Go X 97 (wM g ad o) [(0, .ref (ad 0)), (1, iv x1)] [] := fun o e => k1 o (kx _ e).symm
    unfold l_X12_digest_76 at h
    refine g_iload_n E gdX12_digest_76 rfl 2 rfl ?_
    refine g_iconst E gdX12_digest_77 ?_
    refine g_icmp_gt E 97 gdX12_digest_78 (by decide) h (fun h => ?_) (fun h => ?_)
    ·
      refine g_sub E [0, 1] rfl ?_
      exact k1 o (Option.some.inj h).symm
    ·
      refine g_aload_n E gdX12_digest_81 rfl 0 rfl ?_
      refine g_aload_n E gdX12_digest_82 rfl 0 rfl ?_
      refine g_iload_n E gdX12_digest_83 rfl 1 rfl ?_
      refine g_iload_n E gdX12_digest_84 rfl 2 rfl ?_
      obtain ⟨r52, hc53, h⟩ := qB_of h
      refine g_Vi (r := r52) (As := [iv x1, iv x2]) (rest := [.ref (ad 0)]) (w := wM g ad o) E (c_X12_houseTells l g ad o x1 x2 r52 hc53) okm_X12_houseTells okw_X12_houseTells w_1827 rfl (wM_0 g ad o) rfl rfl (Nat.le_of_ble_eq_true rfl) ⟨Nat.le_of_ble_eq_true rfl, Nat.le_of_ble_eq_true rfl⟩ gdX12_digest_85 ?_
      obtain ⟨o56, hc55, h⟩ := qB_of h
      refine g_Vv (As := [iv r52]) (rest := []) (w := wM g ad o56) E (c_X12_mix l g ad o r52 o56 hc55) okm_X12_mix okw_X12_mix w_2151 rfl (wM_0 g ad o) rfl rfl (Nat.le_of_ble_eq_true rfl) ⟨Nat.le_of_ble_eq_true rfl, Nat.le_of_ble_eq_true rfl⟩ gdX12_digest_88 ?_
      refine g_iinc E [(2, iv (x2 + 1)), (0, .ref (ad 0)), (1, iv x1)] gdX12_digest_91 2 rfl (by decide) rfl ?_
      refine g_goto E 76 gdX12_digest_94 (by decide) ?_
      refine g_sub E [1, 2, 0] rfl ?_
      exact k0 o56 (x2 + 1) (Option.some.inj h).symm
  have j76 : ∀ (o : OO) (x1 : Int) (x2 : Int) (v : (OO × Int) ⊕ ((OO))), e_X12_digest_76 o x1 x2 = some v → (∀ (o : OO) (x1 : Int), v = .inl (o, x1) → Go X 66 (wM g ad o) [(0, .ref (ad 0)), (1, iv x1)] []) → (∀ (o : OO), v = .inr (o) → Go X 116 (wM g ad o) [(0, .ref (ad 0))] []) → Go X 76 (wM g ad o) [(0, .ref (ad 0)), (1, iv x1), (2, iv x2)] [] := by
    intro o x1 x2 v h k0 k1
    unfold e_X12_digest_76 at h
    obtain ⟨r, hr, h⟩ := qB_of h
    refine l76 x1 r _ hr ?_
    ·
      intro u0 e
      have e := e.symm
      subst e
      have h : b_X12_digest_97 u0 x1 = some v := h
      exact j97 u0 x1 v h k0 k1
  have l66 : ∀  (r : (OO)) (s0 : OO × Int), loopW (fun s => l_X12_digest_66 s.1 s.2) s0 = some r → (∀ (o : OO), r = (o) → Go X 116 (wM g ad o) [(0, .ref (ad 0))] []) → Go X 66 (wM g ad s0.1) [(0, .ref (ad 0)), (1, iv s0.2)] [] := by
    intro r s0 h k1
    refine loop_rule (Head := fun s0 => Go X 66 (wM g ad s0.1) [(0, .ref (ad 0)), (1, iv s0.2)] []) h ?_
    intro s v h kk kx
    obtain ⟨o, x1⟩ := s
    have h : l_X12_digest_66 o x1 = some v := h
    have k0 : ∀ (o : OO) (x1 : Int), v = .inl (o, x1) → Go X 66 (wM g ad o) [(0, .ref (ad 0)), (1, iv x1)] [] := fun o x1 e => kk (o, x1) e
    have k1 : ∀ (o : OO), v = .inr (o) → Go X 116 (wM g ad o) [(0, .ref (ad 0))] [] := fun o e => k1 o (kx _ e).symm
    unfold l_X12_digest_66 at h
    refine g_iload_n E gdX12_digest_66 rfl 1 rfl ?_
    refine g_aload_n E gdX12_digest_67 rfl 0 rfl ?_
    refine g_get (T := TX12) E fw_X12 0 (wM_0 g ad o) rfl 17 (by decide) w_1483 rfl rfl gdX12_digest_68 ?_
    refine g_icmp_ge E 116 gdX12_digest_71 (by decide) h (fun h => ?_) (fun h => ?_)
    ·
      refine g_sub E [0] rfl ?_
      exact k1 o (Option.some.inj h).symm
    ·
      refine g_iconst E gdX12_digest_74 ?_
      refine g_istore_n E [(2, iv 0), (0, .ref (ad 0)), (1, iv x1)] gdX12_digest_75 rfl (by decide) rfl ?_
      refine g_sub E [1, 2, 0] rfl ?_
      exact j76 o x1 0 v h k0 k1
  have j66 : ∀ (o : OO) (x1 : Int), e_X12_digest_66 o x1 = some v → Go X 66 (wM g ad o) [(0, .ref (ad 0)), (1, iv x1)] [] := by
    intro o x1 h
    unfold e_X12_digest_66 at h
    obtain ⟨r, hr, h⟩ := qB_of h
    refine l66  r _ hr ?_
    ·
      intro u0 e
      have e := e.symm
      subst e
      have h : b_X12_digest_116 u0 = some v := h
      exact j116 u0 h
  have j64 : ∀ (o : OO), b_X12_digest_64 o = some v → Go X 64 (wM g ad o) [(0, .ref (ad 0))] [] := by
    intro o h
    unfold b_X12_digest_64 at h
    refine g_iconst E gdX12_digest_64 ?_
    refine g_istore_n E [(1, iv 0), (0, .ref (ad 0))] gdX12_digest_65 rfl (by decide) rfl ?_
    refine g_sub E [1, 0] rfl ?_
    exact j66 o 0 h
  have l32 : ∀  (r : (OO)) (s0 : OO × Int), loopW (fun s => l_X12_digest_32 s.1 s.2) s0 = some r → (∀ (o : OO), r = (o) → Go X 64 (wM g ad o) [(0, .ref (ad 0))] []) → Go X 32 (wM g ad s0.1) [(0, .ref (ad 0)), (1, iv s0.2)] [] := by
    intro r s0 h k1
    refine loop_rule (Head := fun s0 => Go X 32 (wM g ad s0.1) [(0, .ref (ad 0)), (1, iv s0.2)] []) h ?_
    intro s v h kk kx
    obtain ⟨o, x1⟩ := s
    have h : l_X12_digest_32 o x1 = some v := h
    have k0 : ∀ (o : OO) (x1 : Int), v = .inl (o, x1) → Go X 32 (wM g ad o) [(0, .ref (ad 0)), (1, iv x1)] [] := fun o x1 e => kk (o, x1) e
    have k1 : ∀ (o : OO), v = .inr (o) → Go X 64 (wM g ad o) [(0, .ref (ad 0))] [] := fun o e => k1 o (kx _ e).symm
    unfold l_X12_digest_32 at h
    refine g_iload_n E gdX12_digest_32 rfl 1 rfl ?_
    refine g_bipush E gdX12_digest_33 (by decide) ?_
    refine g_icmp_ge E 64 gdX12_digest_35 (by decide) h (fun h => ?_) (fun h => ?_)
    ·
      refine g_sub E [0] rfl ?_
      exact k1 o (Option.some.inj h).symm
    ·
      refine g_aload_n E gdX12_digest_38 rfl 0 rfl ?_
      refine g_aload_n E gdX12_digest_39 rfl 0 rfl ?_
      refine g_get (T := TX12) E fw_X12 0 (wM_0 g ad o) rfl 15 (by decide) w_1481 rfl rfl gdX12_digest_40 ?_
      refine g_iload_n E gdX12_digest_43 rfl 1 rfl ?_
      obtain ⟨hi57, h⟩ := qIn_of h
      refine g_iald E 11 (wM_11 g ad o) (by decide) hi57 gdX12_digest_44 ?_
      obtain ⟨n58, e_n58, h⟩ := qNm_of h
      refine g_nmi e_n58 ?_
      obtain ⟨o61, hc60, h⟩ := qB_of h
      refine g_Vv (As := [iv n58]) (rest := []) (w := wM g ad o61) E (c_X12_mix l g ad o n58 o61 hc60) okm_X12_mix okw_X12_mix w_2151 rfl (wM_0 g ad o) rfl rfl (Nat.le_of_ble_eq_true rfl) ⟨Nat.le_of_ble_eq_true rfl, Nat.le_of_ble_eq_true rfl⟩ gdX12_digest_45 ?_
      refine g_aload_n E gdX12_digest_48 rfl 0 rfl ?_
      refine g_aload_n E gdX12_digest_49 rfl 0 rfl ?_
      refine g_get (T := TX12) E fw_X12 0 (wM_0 g ad o61) rfl 16 (by decide) w_1482 rfl rfl gdX12_digest_50 ?_
      refine g_iload_n E gdX12_digest_53 rfl 1 rfl ?_
      obtain ⟨hi62, h⟩ := qIn_of h
      refine g_iald E 12 (wM_12 g ad o61) (by decide) hi62 gdX12_digest_54 ?_
      obtain ⟨n63, e_n63, h⟩ := qNm_of h
      refine g_nmi e_n63 ?_
      obtain ⟨o66, hc65, h⟩ := qB_of h
      refine g_Vv (As := [iv n63]) (rest := []) (w := wM g ad o66) E (c_X12_mix l g ad o61 n63 o66 hc65) okm_X12_mix okw_X12_mix w_2151 rfl (wM_0 g ad o61) rfl rfl (Nat.le_of_ble_eq_true rfl) ⟨Nat.le_of_ble_eq_true rfl, Nat.le_of_ble_eq_true rfl⟩ gdX12_digest_55 ?_
      refine g_iinc E [(1, iv (x1 + 1)), (0, .ref (ad 0))] gdX12_digest_58 1 rfl (by decide) rfl ?_
      refine g_goto E 32 gdX12_digest_61 (by decide) ?_
      refine g_sub E [1, 0] rfl ?_
      exact k0 o66 (x1 + 1) (Option.some.inj h).symm
  have j32 : ∀ (o : OO) (x1 : Int), e_X12_digest_32 o x1 = some v → Go X 32 (wM g ad o) [(0, .ref (ad 0)), (1, iv x1)] [] := by
    intro o x1 h
    unfold e_X12_digest_32 at h
    obtain ⟨r, hr, h⟩ := qB_of h
    refine l32  r _ hr ?_
    ·
      intro u0 e
      have e := e.symm
      subst e
      have h : b_X12_digest_64 u0 = some v := h
      exact j64 u0 h
  have j30 : ∀ (o : OO), b_X12_digest_30 o = some v → Go X 30 (wM g ad o) [(0, .ref (ad 0))] [] := by
    intro o h
    unfold b_X12_digest_30 at h
    refine g_iconst E gdX12_digest_30 ?_
    refine g_istore_n E [(1, iv 0), (0, .ref (ad 0))] gdX12_digest_31 rfl (by decide) rfl ?_
    refine g_sub E [1, 0] rfl ?_
    exact j32 o 0 h
  have l9 : ∀  (r : (OO)) (s0 : OO × Int), loopW (fun s => l_X12_digest_9 s.1 s.2) s0 = some r → (∀ (o : OO), r = (o) → Go X 30 (wM g ad o) [(0, .ref (ad 0))] []) → Go X 9 (wM g ad s0.1) [(0, .ref (ad 0)), (1, iv s0.2)] [] := by
    intro r s0 h k1
    refine loop_rule (Head := fun s0 => Go X 9 (wM g ad s0.1) [(0, .ref (ad 0)), (1, iv s0.2)] []) h ?_
    intro s v h kk kx
    obtain ⟨o, x1⟩ := s
    have h : l_X12_digest_9 o x1 = some v := h
    have k0 : ∀ (o : OO) (x1 : Int), v = .inl (o, x1) → Go X 9 (wM g ad o) [(0, .ref (ad 0)), (1, iv x1)] [] := fun o x1 e => kk (o, x1) e
    have k1 : ∀ (o : OO), v = .inr (o) → Go X 30 (wM g ad o) [(0, .ref (ad 0))] [] := fun o e => k1 o (kx _ e).symm
    unfold l_X12_digest_9 at h
    refine g_iload_n E gdX12_digest_9 rfl 1 rfl ?_
    refine g_bipush E gdX12_digest_10 (by decide) ?_
    refine g_icmp_gt E 30 gdX12_digest_12 (by decide) h (fun h => ?_) (fun h => ?_)
    ·
      refine g_sub E [0] rfl ?_
      exact k1 o (Option.some.inj h).symm
    ·
      refine g_aload_n E gdX12_digest_15 rfl 0 rfl ?_
      refine g_aload_n E gdX12_digest_16 rfl 0 rfl ?_
      refine g_iload_n E gdX12_digest_17 rfl 1 rfl ?_
      obtain ⟨r67, hc68, h⟩ := qB_of h
      refine g_Vi (r := r67) (As := [iv x1]) (rest := [.ref (ad 0)]) (w := wM g ad o) E (c_X12_counts l g ad o x1 r67 hc68) okm_X12_counts okw_X12_counts w_2134 rfl (wM_0 g ad o) rfl rfl (Nat.le_of_ble_eq_true rfl) ⟨Nat.le_of_ble_eq_true rfl, Nat.le_of_ble_eq_true rfl⟩ gdX12_digest_18 ?_
      obtain ⟨o71, hc70, h⟩ := qB_of h
      refine g_Vv (As := [iv r67]) (rest := []) (w := wM g ad o71) E (c_X12_mix l g ad o r67 o71 hc70) okm_X12_mix okw_X12_mix w_2151 rfl (wM_0 g ad o) rfl rfl (Nat.le_of_ble_eq_true rfl) ⟨Nat.le_of_ble_eq_true rfl, Nat.le_of_ble_eq_true rfl⟩ gdX12_digest_21 ?_
      refine g_iinc E [(1, iv (x1 + 1)), (0, .ref (ad 0))] gdX12_digest_24 1 rfl (by decide) rfl ?_
      refine g_goto E 9 gdX12_digest_27 (by decide) ?_
      refine g_sub E [1, 0] rfl ?_
      exact k0 o71 (x1 + 1) (Option.some.inj h).symm
  have j9 : ∀ (o : OO) (x1 : Int), e_X12_digest_9 o x1 = some v → Go X 9 (wM g ad o) [(0, .ref (ad 0)), (1, iv x1)] [] := by
    intro o x1 h
    unfold e_X12_digest_9 at h
    obtain ⟨r, hr, h⟩ := qB_of h
    refine l9  r _ hr ?_
    ·
      intro u0 e
      have e := e.symm
      subst e
      have h : b_X12_digest_30 u0 = some v := h
      exact j30 u0 h
  unfold s_X12_digest at h
  refine g_aload_n E gdX12_digest_0 rfl 0 rfl ?_
  refine g_ldc2 E gdX12_digest_1 w_2150 ?_
  obtain ⟨o72, e_o72, h⟩ := qNm_of h
  refine g_putl (T := TX12) (ws' := wM g ad o72) E fw_X12 tyX12 tyX12_ok nmX12 0 (wM_0 g ad o) rfl 76 (by decide) w_1542 rfl rfl (by decide +kernel) (Nat.le_of_ble_eq_true rfl) (by rw [e_o72]; exact wM_p0_76 g ad o _) gdX12_digest_4 ?_
  refine g_iconst E gdX12_digest_7 ?_
  refine g_istore_n E [(1, iv 0), (0, .ref (ad 0))] gdX12_digest_8 rfl (by decide) rfl ?_
  refine g_sub E [1, 0] rfl ?_
  exact j9 o72 0 h
set_option maxHeartbeats 4000000 in
set_option maxRecDepth 100000 in
theorem c_X12_heard (l : Launch) (g : GG) (ad : Nat → Nat) (o : OO) (x1 : Int) (x2 : Int) (v : Int) (h : s_X12_heard o x1 x2 = some v) : CI l g yX12_heard cX12_heard 5 (some .int) 0 0 (wM g ad o) [.ref (ad 0), iv x1, iv x2] v (wM g ad o) := by
  refine met_I (by decide) (Nat.le_of_ble_eq_true rfl) ?_
  intro X E hQ
  show Go X 0 (wM g ad o) [(0, .ref (ad 0)), (1, iv x1), (2, iv x2)] []
  have j55 : ∀ (x3 : Int), b_X12_heard_55 o x3 = some v → Go X 55 (wM g ad o) [(3, iv x3)] [] := by
    intro x3 h
    unfold b_X12_heard_55 at h
    refine g_iload_n E gdX12_heard_55 rfl 0 rfl ?_
    exact g_iret E hQ (Option.some.inj h) rfl gdX12_heard_56
  have j48 : ∀ (x1 : Int) (x2 : Int) (x4 : Int) (y0 : Int) (v : (Int × Int) ⊕ ((Int))), b_X12_heard_48 o x1 x2 x4 y0 = some v → (∀ (x3 : Int) (x4 : Int), v = .inl (x3, x4) → Go X 6 (wM g ad o) [(0, .ref (ad 0)), (1, iv x1), (2, iv x2), (3, iv x3), (4, iv x4)] []) → (∀ (x3 : Int), v = .inr (x3) → Go X 55 (wM g ad o) [(3, iv x3)] []) → Go X 48 (wM g ad o) [(0, .ref (ad 0)), (1, iv x1), (2, iv x2), (4, iv x4)] [iv y0] := by
    intro x1 x2 x4 y0 v h k0 k1
    unfold b_X12_heard_48 at h
    refine g_istore_n E [(3, iv y0), (0, .ref (ad 0)), (1, iv x1), (2, iv x2), (4, iv x4)] gdX12_heard_48 rfl (by decide) rfl ?_
    refine g_iinc E [(4, iv (x4 + 1)), (3, iv y0), (0, .ref (ad 0)), (1, iv x1), (2, iv x2)] gdX12_heard_49 4 rfl (by decide) rfl ?_
    refine g_goto E 6 gdX12_heard_52 (by decide) ?_
    refine g_sub E [2, 3, 4, 1, 0] rfl ?_
    exact k0 y0 (x4 + 1) (Option.some.inj h).symm
  have j47 : ∀ (x1 : Int) (x2 : Int) (x3 : Int) (x4 : Int) (v : (Int × Int) ⊕ ((Int))), b_X12_heard_47 o x1 x2 x3 x4 = some v → (∀ (x3 : Int) (x4 : Int), v = .inl (x3, x4) → Go X 6 (wM g ad o) [(0, .ref (ad 0)), (1, iv x1), (2, iv x2), (3, iv x3), (4, iv x4)] []) → (∀ (x3 : Int), v = .inr (x3) → Go X 55 (wM g ad o) [(3, iv x3)] []) → Go X 47 (wM g ad o) [(0, .ref (ad 0)), (1, iv x1), (2, iv x2), (3, iv x3), (4, iv x4)] [] := by
    intro x1 x2 x3 x4 v h k0 k1
    unfold b_X12_heard_47 at h
    refine g_iload_n E gdX12_heard_47 rfl 3 rfl ?_
    refine g_sub E [0, 1, 2, 4] rfl ?_
    exact j48 x1 x2 x4 x3 v h k0 k1
  have l6 : ∀ (x1 : Int) (x2 : Int) (r : (Int)) (s0 : Int × Int), loopW (fun s => l_X12_heard_6 o x1 x2 s.1 s.2) s0 = some r → (∀ (x3 : Int), r = (x3) → Go X 55 (wM g ad o) [(3, iv x3)] []) → Go X 6 (wM g ad o) [(0, .ref (ad 0)), (1, iv x1), (2, iv x2), (3, iv s0.1), (4, iv s0.2)] [] := by
    intro x1 x2 r s0 h k1
    refine loop_rule (Head := fun s0 => Go X 6 (wM g ad o) [(0, .ref (ad 0)), (1, iv x1), (2, iv x2), (3, iv s0.1), (4, iv s0.2)] []) h ?_
    intro s v h kk kx
    obtain ⟨x3, x4⟩ := s
    have h : l_X12_heard_6 o x1 x2 x3 x4 = some v := h
    have k0 : ∀ (x3 : Int) (x4 : Int), v = .inl (x3, x4) → Go X 6 (wM g ad o) [(0, .ref (ad 0)), (1, iv x1), (2, iv x2), (3, iv x3), (4, iv x4)] [] := fun x3 x4 e => kk (x3, x4) e
    have k1 : ∀ (x3 : Int), v = .inr (x3) → Go X 55 (wM g ad o) [(3, iv x3)] [] := fun x3 e => k1 x3 (kx _ e).symm
    unfold l_X12_heard_6 at h
    refine g_iload E gdX12_heard_6 4 rfl ?_
    refine g_aload_n E gdX12_heard_8 rfl 0 rfl ?_
    refine g_get (T := TX12) E fw_X12 0 (wM_0 g ad o) rfl 52 (by decide) w_1518 rfl rfl gdX12_heard_9 ?_
    refine g_icmp_ge E 55 gdX12_heard_12 (by decide) h (fun h => ?_) (fun h => ?_)
    ·
      refine g_sub E [3] rfl ?_
      exact k1 x3 (Option.some.inj h).symm
    ·
      refine g_aload_n E gdX12_heard_15 rfl 0 rfl ?_
      refine g_get (T := TX12) E fw_X12 0 (wM_0 g ad o) rfl 53 (by decide) w_1519 rfl rfl gdX12_heard_16 ?_
      refine g_iload E gdX12_heard_19 4 rfl ?_
      obtain ⟨hi1, h⟩ := qIn_of h
      refine g_iald E 43 (wM_43 g ad o) (by decide) hi1 gdX12_heard_21 ?_
      obtain ⟨n2, e_n2, h⟩ := qNm_of h
      refine g_nmi e_n2 ?_
      refine g_iload_n E gdX12_heard_22 rfl 1 rfl ?_
      refine g_icmp_ne E 47 gdX12_heard_23 (by decide) h (fun h => ?_) (fun h => ?_)
      ·
        exact j47 x1 x2 x3 x4 v h k0 k1
      ·
        refine g_aload_n E gdX12_heard_26 rfl 0 rfl ?_
        refine g_get (T := TX12) E fw_X12 0 (wM_0 g ad o) rfl 54 (by decide) w_1520 rfl rfl gdX12_heard_27 ?_
        refine g_iload E gdX12_heard_30 4 rfl ?_
        obtain ⟨hi3, h⟩ := qIn_of h
        refine g_iald E 44 (wM_44 g ad o) (by decide) hi3 gdX12_heard_32 ?_
        obtain ⟨n4, e_n4, h⟩ := qNm_of h
        refine g_nmi e_n4 ?_
        refine g_iload_n E gdX12_heard_33 rfl 2 rfl ?_
        refine g_icmp_ne E 47 gdX12_heard_34 (by decide) h (fun h => ?_) (fun h => ?_)
        ·
          exact j47 x1 x2 x3 x4 v h k0 k1
        ·
          refine g_aload_n E gdX12_heard_37 rfl 0 rfl ?_
          refine g_get (T := TX12) E fw_X12 0 (wM_0 g ad o) rfl 55 (by decide) w_1521 rfl rfl gdX12_heard_38 ?_
          refine g_iload E gdX12_heard_41 4 rfl ?_
          obtain ⟨hi5, h⟩ := qIn_of h
          refine g_iald E 45 (wM_45 g ad o) (by decide) hi5 gdX12_heard_43 ?_
          obtain ⟨n6, e_n6, h⟩ := qNm_of h
          refine g_nmi e_n6 ?_
          refine g_goto E 48 gdX12_heard_44 (by decide) ?_
          refine g_sub E [0, 1, 2, 4] rfl ?_
          exact j48 x1 x2 x4 n6 v h k0 k1
  have j6 : ∀ (x1 : Int) (x2 : Int) (x3 : Int) (x4 : Int), e_X12_heard_6 o x1 x2 x3 x4 = some v → Go X 6 (wM g ad o) [(0, .ref (ad 0)), (1, iv x1), (2, iv x2), (3, iv x3), (4, iv x4)] [] := by
    intro x1 x2 x3 x4 h
    unfold e_X12_heard_6 at h
    obtain ⟨r, hr, h⟩ := qB_of h
    refine l6 x1 x2 r _ hr ?_
    ·
      intro u0 e
      have e := e.symm
      subst e
      have h : b_X12_heard_55 o u0 = some v := h
      exact j55 u0 h
  unfold s_X12_heard at h
  refine g_bipush E gdX12_heard_0 (by decide) ?_
  refine g_istore_n E [(3, iv (-9)), (0, .ref (ad 0)), (1, iv x1), (2, iv x2)] gdX12_heard_2 rfl (by decide) rfl ?_
  refine g_iconst E gdX12_heard_3 ?_
  refine g_istore E [(4, iv 0), (3, iv (-9)), (0, .ref (ad 0)), (1, iv x1), (2, iv x2)] gdX12_heard_4 (by decide) rfl ?_
  refine g_sub E [2, 3, 4, 1, 0] rfl ?_
  exact j6 x1 x2 (-9) 0 h
