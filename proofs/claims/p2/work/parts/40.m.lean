set_option maxRecDepth 200000 in
theorem w_1483 : Cond.fieldLink "CityRoadModel" 254 "CityRoadModel" "buildings" "I" ∈ tb := tb_mem 1483 (by decide +kernel) rfl
set_option maxRecDepth 200000 in
theorem w_1707 : Cond.code yX12_in cX12_in 3 (some .boolean) ∈ tb := tb_mem 1707 (by rfl) rfl
set_option maxRecDepth 200000 in
theorem w_103 : Cond.initialized "CityRoadModel" ∈ tb := tb_mem 103 (by decide +kernel) rfl
set_option maxRecDepth 200000 in
theorem w_1706 : Cond.static yX12_in ∈ tb := tb_mem 1706 (by decide +kernel) rfl
set_option maxRecDepth 200000 in
theorem w_1705 : Cond.methodLink "CityRoadModel" 208 yX12_in ∈ tb := tb_mem 1705 (by decide +kernel) rfl
set_option maxRecDepth 200000 in
theorem w_1493 : Cond.fieldLink "CityRoadModel" 281 "CityRoadModel" "persons" "I" ∈ tb := tb_mem 1493 (by decide +kernel) rfl
set_option maxRecDepth 200000 in
theorem w_1494 : Cond.fieldLink "CityRoadModel" 71 "CityRoadModel" "homes" "[I" ∈ tb := tb_mem 1494 (by decide +kernel) rfl
set_option maxRecDepth 200000 in
theorem w_1484 : Cond.fieldLink "CityRoadModel" 46 "CityRoadModel" "cellOfB" "[I" ∈ tb := tb_mem 1484 (by decide +kernel) rfl
set_option maxRecDepth 200000 in
theorem w_1485 : Cond.fieldLink "CityRoadModel" 49 "CityRoadModel" "uses" "[I" ∈ tb := tb_mem 1485 (by decide +kernel) rfl
set_option maxRecDepth 200000 in
theorem w_1486 : Cond.fieldLink "CityRoadModel" 52 "CityRoadModel" "rooms" "[I" ∈ tb := tb_mem 1486 (by decide +kernel) rfl
set_option maxRecDepth 200000 in
theorem w_1834 : Cond.code yX12_living cX12_living 4 (some .int) ∈ tb := tb_mem 1834 (by rfl) rfl
set_option maxRecDepth 200000 in
theorem w_1833 : Cond.instanceMethod yX12_living ∈ tb := tb_mem 1833 (by decide +kernel) rfl
set_option maxRecDepth 200000 in
theorem w_48 : Cond.selects "CityRoadModel" yX12_living yX12_living ∈ tb := tb_mem 48 (by decide +kernel) rfl
set_option maxRecDepth 200000 in
theorem w_1831 : Cond.methodLink "CityRoadModel" 284 yX12_living ∈ tb := tb_mem 1831 (by decide +kernel) rfl
set_option maxRecDepth 200000 in
theorem w_1487 : Cond.fieldLink "CityRoadModel" 55 "CityRoadModel" "isTaken" "[Z" ∈ tb := tb_mem 1487 (by decide +kernel) rfl
set_option maxRecDepth 200000 in
theorem w_1488 : Cond.fieldLink "CityRoadModel" 59 "CityRoadModel" "boughtBy" "[I" ∈ tb := tb_mem 1488 (by decide +kernel) rfl
set_option maxRecDepth 200000 in
theorem w_1468 : Cond.fieldLink "CityRoadModel" 205 "CityRoadModel" "asked" "I" ∈ tb := tb_mem 1468 (by decide +kernel) rfl
set_option maxRecDepth 200000 in
theorem w_1814 : Cond.code yX12_isBuilding cX12_isBuilding 2 (some .boolean) ∈ tb := tb_mem 1814 (by rfl) rfl
set_option maxRecDepth 200000 in
theorem w_1813 : Cond.instanceMethod yX12_isBuilding ∈ tb := tb_mem 1813 (by decide +kernel) rfl
set_option maxRecDepth 200000 in
theorem w_45 : Cond.selects "CityRoadModel" yX12_isBuilding yX12_isBuilding ∈ tb := tb_mem 45 (by decide +kernel) rfl
set_option maxRecDepth 200000 in
theorem w_1811 : Cond.methodLink "CityRoadModel" 274 yX12_isBuilding ∈ tb := tb_mem 1811 (by decide +kernel) rfl
set_option maxRecDepth 200000 in
theorem w_1830 : Cond.code yX12_houseTells cX12_houseTells 3 (some .int) ∈ tb := tb_mem 1830 (by rfl) rfl
set_option maxRecDepth 200000 in
theorem w_1829 : Cond.instanceMethod yX12_houseTells ∈ tb := tb_mem 1829 (by decide +kernel) rfl
set_option maxRecDepth 200000 in
theorem w_47 : Cond.selects "CityRoadModel" yX12_houseTells yX12_houseTells ∈ tb := tb_mem 47 (by decide +kernel) rfl
set_option maxRecDepth 200000 in
theorem w_1827 : Cond.methodLink "CityRoadModel" 287 yX12_houseTells ∈ tb := tb_mem 1827 (by decide +kernel) rfl
set_option maxRecDepth 200000 in
theorem w_1838 : Cond.code yX12_ask cX12_ask 3 (some .int) ∈ tb := tb_mem 1838 (by rfl) rfl
set_option maxRecDepth 200000 in
theorem w_1837 : Cond.instanceMethod yX12_ask ∈ tb := tb_mem 1837 (by decide +kernel) rfl
set_option maxRecDepth 200000 in
theorem w_49 : Cond.selects "CityRoadModel" yX12_ask yX12_ask ∈ tb := tb_mem 49 (by decide +kernel) rfl
set_option maxRecDepth 200000 in
theorem w_1835 : Cond.methodLink "CityRoadModel" 290 yX12_ask ∈ tb := tb_mem 1835 (by decide +kernel) rfl
set_option maxRecDepth 200000 in
theorem w_1470 : Cond.fieldLink "CityRoadModel" 229 "CityRoadModel" "today" "I" ∈ tb := tb_mem 1470 (by decide +kernel) rfl
set_option maxRecDepth 200000 in
theorem w_1466 : Cond.fieldLink "CityRoadModel" 202 "CityRoadModel" "finding" "I" ∈ tb := tb_mem 1466 (by decide +kernel) rfl
set_option maxRecDepth 200000 in
theorem w_1467 : Cond.fieldLink "CityRoadModel" 7 "CityRoadModel" "findings" "[I" ∈ tb := tb_mem 1467 (by decide +kernel) rfl
set_option maxRecDepth 200000 in
theorem w_1704 : Cond.code yX12_isRow cX12_isRow 1 (some .boolean) ∈ tb := tb_mem 1704 (by rfl) rfl
set_option maxRecDepth 200000 in
theorem w_1703 : Cond.static yX12_isRow ∈ tb := tb_mem 1703 (by decide +kernel) rfl
set_option maxRecDepth 200000 in
theorem w_1702 : Cond.methodLink "CityRoadModel" 212 yX12_isRow ∈ tb := tb_mem 1702 (by decide +kernel) rfl
set_option maxRecDepth 200000 in
theorem w_1471 : Cond.fieldLink "CityRoadModel" 13 "CityRoadModel" "sizes" "[I" ∈ tb := tb_mem 1471 (by decide +kernel) rfl
set_option maxRecDepth 200000 in
theorem w_1711 : Cond.code yX12_meets cX12_meets 2 (some .int) ∈ tb := tb_mem 1711 (by rfl) rfl
set_option maxRecDepth 200000 in
theorem w_1710 : Cond.instanceMethod yX12_meets ∈ tb := tb_mem 1710 (by decide +kernel) rfl
set_option maxRecDepth 200000 in
theorem w_37 : Cond.selects "CityRoadModel" yX12_meets yX12_meets ∈ tb := tb_mem 37 (by decide +kernel) rfl
set_option maxRecDepth 200000 in
theorem w_1708 : Cond.methodLink "CityRoadModel" 216 yX12_meets ∈ tb := tb_mem 1708 (by decide +kernel) rfl
set_option maxRecDepth 200000 in
theorem w_1719 : Cond.code yX12_askedRow cX12_askedRow 2 (some .int) ∈ tb := tb_mem 1719 (by rfl) rfl
set_option maxRecDepth 200000 in
theorem w_1718 : Cond.instanceMethod yX12_askedRow ∈ tb := tb_mem 1718 (by decide +kernel) rfl
set_option maxRecDepth 200000 in
theorem w_38 : Cond.selects "CityRoadModel" yX12_askedRow yX12_askedRow ∈ tb := tb_mem 38 (by decide +kernel) rfl
set_option maxRecDepth 200000 in
theorem w_1716 : Cond.methodLink "CityRoadModel" 223 yX12_askedRow ∈ tb := tb_mem 1716 (by decide +kernel) rfl
set_option maxRecDepth 200000 in
theorem w_1472 : Cond.fieldLink "CityRoadModel" 16 "CityRoadModel" "rows" "[I" ∈ tb := tb_mem 1472 (by decide +kernel) rfl
set_option maxRecDepth 200000 in
theorem w_1734 : Cond.code yX12_isText cX12_isText 1 (some .boolean) ∈ tb := tb_mem 1734 (by rfl) rfl
set_option maxRecDepth 200000 in
theorem w_1733 : Cond.static yX12_isText ∈ tb := tb_mem 1733 (by decide +kernel) rfl
set_option maxRecDepth 200000 in
theorem w_1732 : Cond.methodLink "CityRoadModel" 220 yX12_isText ∈ tb := tb_mem 1732 (by decide +kernel) rfl
set_option maxRecDepth 200000 in
theorem w_1474 : Cond.fieldLink "CityRoadModel" 22 "CityRoadModel" "lengths" "[I" ∈ tb := tb_mem 1474 (by decide +kernel) rfl
set_option maxRecDepth 200000 in
theorem w_1742 : Cond.code yX12_askedText cX12_askedText 2 (some .int) ∈ tb := tb_mem 1742 (by rfl) rfl
set_option maxRecDepth 200000 in
theorem w_1741 : Cond.instanceMethod yX12_askedText ∈ tb := tb_mem 1741 (by decide +kernel) rfl
set_option maxRecDepth 200000 in
theorem w_39 : Cond.selects "CityRoadModel" yX12_askedText yX12_askedText ∈ tb := tb_mem 39 (by decide +kernel) rfl
set_option maxRecDepth 200000 in
theorem w_1739 : Cond.methodLink "CityRoadModel" 226 yX12_askedText ∈ tb := tb_mem 1739 (by decide +kernel) rfl
set_option maxRecDepth 200000 in
theorem w_1475 : Cond.fieldLink "CityRoadModel" 25 "CityRoadModel" "texts" "[I" ∈ tb := tb_mem 1475 (by decide +kernel) rfl
theorem gdX12_in_15 : decode cX12_in 15 = .ok (.ireturn, 1) := by decide +kernel
theorem gdX12_in_14 : decode cX12_in 14 = .ok (.iconst 0, 1) := by decide +kernel
theorem gdX12_in_0 : decode cX12_in 0 = .ok (.iload_n 0, 1) := by decide +kernel
theorem gdX12_in_1 : decode cX12_in 1 = .ok (.iload_n 1, 1) := by decide +kernel
theorem gdX12_in_2 : decode cX12_in 2 = .ok (.if_icmp .lt 12, 3) := by decide +kernel
theorem gdX12_in_5 : decode cX12_in 5 = .ok (.iload_n 0, 1) := by decide +kernel
theorem gdX12_in_6 : decode cX12_in 6 = .ok (.iload_n 2, 1) := by decide +kernel
theorem gdX12_in_7 : decode cX12_in 7 = .ok (.if_icmp .gt 7, 3) := by decide +kernel
theorem gdX12_in_10 : decode cX12_in 10 = .ok (.iconst 1, 1) := by decide +kernel
theorem gdX12_in_11 : decode cX12_in 11 = .ok (.goto 4, 3) := by decide +kernel
theorem gdX12_isBuilding_0 : decode cX12_isBuilding 0 = .ok (.iload_n 1, 1) := by decide +kernel
theorem gdX12_isBuilding_1 : decode cX12_isBuilding 1 = .ok (.iconst 0, 1) := by decide +kernel
theorem gdX12_isBuilding_2 : decode cX12_isBuilding 2 = .ok (.aload_n 0, 1) := by decide +kernel
theorem gdX12_isBuilding_3 : decode cX12_isBuilding 3 = .ok (.getfield 254, 3) := by decide +kernel
theorem gdX12_isBuilding_6 : decode cX12_isBuilding 6 = .ok (.iconst 1, 1) := by decide +kernel
theorem gdX12_isBuilding_7 : decode cX12_isBuilding 7 = .ok (.isub, 1) := by decide +kernel
theorem gdX12_isBuilding_8 : decode cX12_isBuilding 8 = .ok (.invokestatic 208, 3) := by decide +kernel
theorem gdX12_isBuilding_11 : decode cX12_isBuilding 11 = .ok (.ireturn, 1) := by decide +kernel
theorem gdX12_living_36 : decode cX12_living 36 = .ok (.iload_n 2, 1) := by decide +kernel
theorem gdX12_living_37 : decode cX12_living 37 = .ok (.ireturn, 1) := by decide +kernel
theorem gdX12_living_28 : decode cX12_living 28 = .ok (.iadd, 1) := by decide +kernel
theorem gdX12_living_29 : decode cX12_living 29 = .ok (.istore_n 2, 1) := by decide +kernel
theorem gdX12_living_30 : decode cX12_living 30 = .ok (.iinc 3 1, 3) := by decide +kernel
theorem gdX12_living_33 : decode cX12_living 33 = .ok (.goto (-29), 3) := by decide +kernel
theorem gdX12_living_4 : decode cX12_living 4 = .ok (.iload_n 3, 1) := by decide +kernel
theorem gdX12_living_5 : decode cX12_living 5 = .ok (.aload_n 0, 1) := by decide +kernel
theorem gdX12_living_6 : decode cX12_living 6 = .ok (.getfield 281, 3) := by decide +kernel
theorem gdX12_living_9 : decode cX12_living 9 = .ok (.if_icmp .ge 27, 3) := by decide +kernel
theorem gdX12_living_12 : decode cX12_living 12 = .ok (.iload_n 2, 1) := by decide +kernel
theorem gdX12_living_13 : decode cX12_living 13 = .ok (.aload_n 0, 1) := by decide +kernel
theorem gdX12_living_14 : decode cX12_living 14 = .ok (.getfield 71, 3) := by decide +kernel
theorem gdX12_living_17 : decode cX12_living 17 = .ok (.iload_n 3, 1) := by decide +kernel
theorem gdX12_living_18 : decode cX12_living 18 = .ok (.iaload, 1) := by decide +kernel
theorem gdX12_living_19 : decode cX12_living 19 = .ok (.iload_n 1, 1) := by decide +kernel
theorem gdX12_living_20 : decode cX12_living 20 = .ok (.if_icmp .ne 7, 3) := by decide +kernel
theorem gdX12_living_27 : decode cX12_living 27 = .ok (.iconst 0, 1) := by decide +kernel
theorem gdX12_living_23 : decode cX12_living 23 = .ok (.iconst 1, 1) := by decide +kernel
theorem gdX12_living_24 : decode cX12_living 24 = .ok (.goto 4, 3) := by decide +kernel
theorem gdX12_living_0 : decode cX12_living 0 = .ok (.iconst 0, 1) := by decide +kernel
theorem gdX12_living_1 : decode cX12_living 1 = .ok (.istore_n 2, 1) := by decide +kernel
theorem gdX12_living_2 : decode cX12_living 2 = .ok (.iconst 0, 1) := by decide +kernel
theorem gdX12_living_3 : decode cX12_living 3 = .ok (.istore_n 3, 1) := by decide +kernel
theorem gdX12_houseTells_77 : decode cX12_houseTells 77 = .ok (.ireturn, 1) := by decide +kernel
theorem gdX12_houseTells_0 : decode cX12_houseTells 0 = .ok (.iload_n 2, 1) := by decide +kernel
theorem gdX12_houseTells_1 : decode cX12_houseTells 1 = .ok (.tableswitch 77 0 4 #[35, 42, 49, 56, 62], 35) := by decide +kernel
theorem gdX12_houseTells_36 : decode cX12_houseTells 36 = .ok (.aload_n 0, 1) := by decide +kernel
theorem gdX12_houseTells_37 : decode cX12_houseTells 37 = .ok (.getfield 46, 3) := by decide +kernel
theorem gdX12_houseTells_40 : decode cX12_houseTells 40 = .ok (.iload_n 1, 1) := by decide +kernel
theorem gdX12_houseTells_41 : decode cX12_houseTells 41 = .ok (.iaload, 1) := by decide +kernel
theorem gdX12_houseTells_42 : decode cX12_houseTells 42 = .ok (.ireturn, 1) := by decide +kernel
theorem gdX12_houseTells_43 : decode cX12_houseTells 43 = .ok (.aload_n 0, 1) := by decide +kernel
theorem gdX12_houseTells_44 : decode cX12_houseTells 44 = .ok (.getfield 49, 3) := by decide +kernel
theorem gdX12_houseTells_47 : decode cX12_houseTells 47 = .ok (.iload_n 1, 1) := by decide +kernel
theorem gdX12_houseTells_48 : decode cX12_houseTells 48 = .ok (.iaload, 1) := by decide +kernel
theorem gdX12_houseTells_49 : decode cX12_houseTells 49 = .ok (.ireturn, 1) := by decide +kernel
theorem gdX12_houseTells_50 : decode cX12_houseTells 50 = .ok (.aload_n 0, 1) := by decide +kernel
theorem gdX12_houseTells_51 : decode cX12_houseTells 51 = .ok (.getfield 52, 3) := by decide +kernel
theorem gdX12_houseTells_54 : decode cX12_houseTells 54 = .ok (.iload_n 1, 1) := by decide +kernel
theorem gdX12_houseTells_55 : decode cX12_houseTells 55 = .ok (.iaload, 1) := by decide +kernel
theorem gdX12_houseTells_56 : decode cX12_houseTells 56 = .ok (.ireturn, 1) := by decide +kernel
theorem gdX12_houseTells_57 : decode cX12_houseTells 57 = .ok (.aload_n 0, 1) := by decide +kernel
theorem gdX12_houseTells_58 : decode cX12_houseTells 58 = .ok (.iload_n 1, 1) := by decide +kernel
theorem gdX12_houseTells_59 : decode cX12_houseTells 59 = .ok (.invokevirtual 284, 3) := by decide +kernel
theorem gdX12_houseTells_62 : decode cX12_houseTells 62 = .ok (.ireturn, 1) := by decide +kernel
theorem gdX12_houseTells_63 : decode cX12_houseTells 63 = .ok (.aload_n 0, 1) := by decide +kernel
theorem gdX12_houseTells_64 : decode cX12_houseTells 64 = .ok (.getfield 55, 3) := by decide +kernel
theorem gdX12_houseTells_67 : decode cX12_houseTells 67 = .ok (.iload_n 1, 1) := by decide +kernel
theorem gdX12_houseTells_68 : decode cX12_houseTells 68 = .ok (.baload, 1) := by decide +kernel
theorem gdX12_houseTells_69 : decode cX12_houseTells 69 = .ok (.ifCond .eq 7, 3) := by decide +kernel
theorem gdX12_houseTells_76 : decode cX12_houseTells 76 = .ok (.iconst 0, 1) := by decide +kernel
theorem gdX12_houseTells_72 : decode cX12_houseTells 72 = .ok (.iconst 1, 1) := by decide +kernel
theorem gdX12_houseTells_73 : decode cX12_houseTells 73 = .ok (.goto 4, 3) := by decide +kernel
theorem gdX12_houseTells_78 : decode cX12_houseTells 78 = .ok (.aload_n 0, 1) := by decide +kernel
theorem gdX12_houseTells_79 : decode cX12_houseTells 79 = .ok (.getfield 59, 3) := by decide +kernel
theorem gdX12_houseTells_82 : decode cX12_houseTells 82 = .ok (.iload_n 1, 1) := by decide +kernel
theorem gdX12_houseTells_83 : decode cX12_houseTells 83 = .ok (.iaload, 1) := by decide +kernel
theorem gdX12_houseTells_84 : decode cX12_houseTells 84 = .ok (.ireturn, 1) := by decide +kernel
theorem gdX12_ask_0 : decode cX12_ask 0 = .ok (.aload_n 0, 1) := by decide +kernel
theorem gdX12_ask_1 : decode cX12_ask 1 = .ok (.iload_n 1, 1) := by decide +kernel
theorem gdX12_ask_2 : decode cX12_ask 2 = .ok (.putfield 205, 3) := by decide +kernel
theorem gdX12_ask_5 : decode cX12_ask 5 = .ok (.iload_n 2, 1) := by decide +kernel
theorem gdX12_ask_6 : decode cX12_ask 6 = .ok (.ireturn, 1) := by decide +kernel
theorem gdX12_house_32 : decode cX12_house 32 = .ok (.ireturn, 1) := by decide +kernel
theorem gdX12_house_31 : decode cX12_house 31 = .ok (.iconst (-1), 1) := by decide +kernel
theorem gdX12_house_0 : decode cX12_house 0 = .ok (.aload_n 0, 1) := by decide +kernel
theorem gdX12_house_1 : decode cX12_house 1 = .ok (.iload_n 1, 1) := by decide +kernel
theorem gdX12_house_2 : decode cX12_house 2 = .ok (.invokevirtual 274, 3) := by decide +kernel
theorem gdX12_house_5 : decode cX12_house 5 = .ok (.ifCond .eq 26, 3) := by decide +kernel
theorem gdX12_house_8 : decode cX12_house 8 = .ok (.iload_n 2, 1) := by decide +kernel
theorem gdX12_house_9 : decode cX12_house 9 = .ok (.iconst 0, 1) := by decide +kernel
theorem gdX12_house_10 : decode cX12_house 10 = .ok (.iconst 5, 1) := by decide +kernel
theorem gdX12_house_11 : decode cX12_house 11 = .ok (.invokestatic 208, 3) := by decide +kernel
theorem gdX12_house_14 : decode cX12_house 14 = .ok (.ifCond .eq 17, 3) := by decide +kernel
theorem gdX12_house_17 : decode cX12_house 17 = .ok (.aload_n 0, 1) := by decide +kernel
theorem gdX12_house_18 : decode cX12_house 18 = .ok (.aload_n 0, 1) := by decide +kernel
theorem gdX12_house_19 : decode cX12_house 19 = .ok (.iload_n 1, 1) := by decide +kernel
theorem gdX12_house_20 : decode cX12_house 20 = .ok (.iload_n 2, 1) := by decide +kernel
theorem gdX12_house_21 : decode cX12_house 21 = .ok (.invokevirtual 287, 3) := by decide +kernel
theorem gdX12_house_24 : decode cX12_house 24 = .ok (.iconst 1, 1) := by decide +kernel
theorem gdX12_house_25 : decode cX12_house 25 = .ok (.invokevirtual 290, 3) := by decide +kernel
theorem gdX12_house_28 : decode cX12_house 28 = .ok (.goto 4, 3) := by decide +kernel
theorem gdX12_later_16 : decode cX12_later 16 = .ok (.iconst (-1), 1) := by decide +kernel
theorem gdX12_later_17 : decode cX12_later 17 = .ok (.ireturn, 1) := by decide +kernel
theorem gdX12_later_0 : decode cX12_later 0 = .ok (.iload_n 1, 1) := by decide +kernel
theorem gdX12_later_1 : decode cX12_later 1 = .ok (.ifCond .lt 15, 3) := by decide +kernel
theorem gdX12_later_4 : decode cX12_later 4 = .ok (.iload_n 1, 1) := by decide +kernel
theorem gdX12_later_5 : decode cX12_later 5 = .ok (.sipush 999, 3) := by decide +kernel
theorem gdX12_later_8 : decode cX12_later 8 = .ok (.aload_n 0, 1) := by decide +kernel
theorem gdX12_later_9 : decode cX12_later 9 = .ok (.getfield 229, 3) := by decide +kernel
theorem gdX12_later_12 : decode cX12_later 12 = .ok (.isub, 1) := by decide +kernel
theorem gdX12_later_13 : decode cX12_later 13 = .ok (.if_icmp .le 5, 3) := by decide +kernel
theorem gdX12_later_18 : decode cX12_later 18 = .ok (.aload_n 0, 1) := by decide +kernel
theorem gdX12_later_19 : decode cX12_later 19 = .ok (.dup, 1) := by decide +kernel
theorem gdX12_later_20 : decode cX12_later 20 = .ok (.getfield 229, 3) := by decide +kernel
theorem gdX12_later_23 : decode cX12_later 23 = .ok (.iload_n 1, 1) := by decide +kernel
theorem gdX12_later_24 : decode cX12_later 24 = .ok (.iadd, 1) := by decide +kernel
theorem gdX12_later_25 : decode cX12_later 25 = .ok (.putfield 229, 3) := by decide +kernel
theorem gdX12_later_28 : decode cX12_later 28 = .ok (.aload_n 0, 1) := by decide +kernel
theorem gdX12_later_29 : decode cX12_later 29 = .ok (.getfield 229, 3) := by decide +kernel
theorem gdX12_later_32 : decode cX12_later 32 = .ok (.ireturn, 1) := by decide +kernel
theorem gdX12_isRow_0 : decode cX12_isRow 0 = .ok (.iload_n 0, 1) := by decide +kernel
theorem gdX12_isRow_1 : decode cX12_isRow 1 = .ok (.iconst 0, 1) := by decide +kernel
theorem gdX12_isRow_2 : decode cX12_isRow 2 = .ok (.iconst 5, 1) := by decide +kernel
theorem gdX12_isRow_3 : decode cX12_isRow 3 = .ok (.invokestatic 208, 3) := by decide +kernel
theorem gdX12_isRow_6 : decode cX12_isRow 6 = .ok (.ireturn, 1) := by decide +kernel
theorem gdX12_meets_0 : decode cX12_meets 0 = .ok (.aload_n 0, 1) := by decide +kernel
theorem gdX12_meets_1 : decode cX12_meets 1 = .ok (.iload_n 1, 1) := by decide +kernel
theorem gdX12_meets_2 : decode cX12_meets 2 = .ok (.putfield 202, 3) := by decide +kernel
theorem gdX12_meets_5 : decode cX12_meets 5 = .ok (.aload_n 0, 1) := by decide +kernel
theorem gdX12_meets_6 : decode cX12_meets 6 = .ok (.getfield 7, 3) := by decide +kernel
theorem gdX12_meets_9 : decode cX12_meets 9 = .ok (.iload_n 1, 1) := by decide +kernel
theorem gdX12_meets_10 : decode cX12_meets 10 = .ok (.dup2, 1) := by decide +kernel
theorem gdX12_meets_11 : decode cX12_meets 11 = .ok (.iaload, 1) := by decide +kernel
theorem gdX12_meets_12 : decode cX12_meets 12 = .ok (.iconst 1, 1) := by decide +kernel
theorem gdX12_meets_13 : decode cX12_meets 13 = .ok (.iadd, 1) := by decide +kernel
theorem gdX12_meets_14 : decode cX12_meets 14 = .ok (.iastore, 1) := by decide +kernel
theorem gdX12_meets_15 : decode cX12_meets 15 = .ok (.bipush (-3), 2) := by decide +kernel
theorem gdX12_meets_17 : decode cX12_meets 17 = .ok (.ireturn, 1) := by decide +kernel
theorem gdX12_askedRow_29 : decode cX12_askedRow 29 = .ok (.ireturn, 1) := by decide +kernel
theorem gdX12_askedRow_0 : decode cX12_askedRow 0 = .ok (.iload_n 1, 1) := by decide +kernel
theorem gdX12_askedRow_1 : decode cX12_askedRow 1 = .ok (.invokestatic 212, 3) := by decide +kernel
theorem gdX12_askedRow_4 : decode cX12_askedRow 4 = .ok (.ifCond .ne 7, 3) := by decide +kernel
theorem gdX12_askedRow_11 : decode cX12_askedRow 11 = .ok (.aload_n 0, 1) := by decide +kernel
theorem gdX12_askedRow_12 : decode cX12_askedRow 12 = .ok (.getfield 13, 3) := by decide +kernel
theorem gdX12_askedRow_15 : decode cX12_askedRow 15 = .ok (.iload_n 1, 1) := by decide +kernel
theorem gdX12_askedRow_16 : decode cX12_askedRow 16 = .ok (.iaload, 1) := by decide +kernel
theorem gdX12_askedRow_17 : decode cX12_askedRow 17 = .ok (.ifCond .ge 11, 3) := by decide +kernel
theorem gdX12_askedRow_28 : decode cX12_askedRow 28 = .ok (.iconst 0, 1) := by decide +kernel
theorem gdX12_askedRow_20 : decode cX12_askedRow 20 = .ok (.aload_n 0, 1) := by decide +kernel
theorem gdX12_askedRow_21 : decode cX12_askedRow 21 = .ok (.iconst 1, 1) := by decide +kernel
theorem gdX12_askedRow_22 : decode cX12_askedRow 22 = .ok (.invokevirtual 216, 3) := by decide +kernel
theorem gdX12_askedRow_25 : decode cX12_askedRow 25 = .ok (.goto 4, 3) := by decide +kernel
theorem gdX12_askedRow_7 : decode cX12_askedRow 7 = .ok (.iconst (-1), 1) := by decide +kernel
theorem gdX12_askedRow_8 : decode cX12_askedRow 8 = .ok (.goto 21, 3) := by decide +kernel
theorem gdX12_lay_0 : decode cX12_lay 0 = .ok (.aload_n 0, 1) := by decide +kernel
theorem gdX12_lay_1 : decode cX12_lay 1 = .ok (.iload_n 1, 1) := by decide +kernel
theorem gdX12_lay_2 : decode cX12_lay 2 = .ok (.invokevirtual 223, 3) := by decide +kernel
theorem gdX12_lay_5 : decode cX12_lay 5 = .ok (.istore 4, 2) := by decide +kernel
theorem gdX12_lay_7 : decode cX12_lay 7 = .ok (.iload 4, 2) := by decide +kernel
theorem gdX12_lay_9 : decode cX12_lay 9 = .ok (.ifCond .ge 6, 3) := by decide +kernel
theorem gdX12_lay_15 : decode cX12_lay 15 = .ok (.iload_n 2, 1) := by decide +kernel
theorem gdX12_lay_16 : decode cX12_lay 16 = .ok (.iconst 0, 1) := by decide +kernel
theorem gdX12_lay_17 : decode cX12_lay 17 = .ok (.aload_n 0, 1) := by decide +kernel
theorem gdX12_lay_18 : decode cX12_lay 18 = .ok (.getfield 13, 3) := by decide +kernel
theorem gdX12_lay_21 : decode cX12_lay 21 = .ok (.iload_n 1, 1) := by decide +kernel
theorem gdX12_lay_22 : decode cX12_lay 22 = .ok (.iaload, 1) := by decide +kernel
theorem gdX12_lay_23 : decode cX12_lay 23 = .ok (.iconst 1, 1) := by decide +kernel
theorem gdX12_lay_24 : decode cX12_lay 24 = .ok (.isub, 1) := by decide +kernel
theorem gdX12_lay_25 : decode cX12_lay 25 = .ok (.invokestatic 208, 3) := by decide +kernel
theorem gdX12_lay_28 : decode cX12_lay 28 = .ok (.ifCond .ne 9, 3) := by decide +kernel
theorem gdX12_lay_37 : decode cX12_lay 37 = .ok (.aload_n 0, 1) := by decide +kernel
theorem gdX12_lay_38 : decode cX12_lay 38 = .ok (.aload_n 0, 1) := by decide +kernel
theorem gdX12_lay_39 : decode cX12_lay 39 = .ok (.getfield 16, 3) := by decide +kernel
theorem gdX12_lay_42 : decode cX12_lay 42 = .ok (.bipush 40, 2) := by decide +kernel
theorem gdX12_lay_44 : decode cX12_lay 44 = .ok (.iload_n 1, 1) := by decide +kernel
theorem gdX12_lay_45 : decode cX12_lay 45 = .ok (.imul, 1) := by decide +kernel
theorem gdX12_lay_46 : decode cX12_lay 46 = .ok (.iload_n 2, 1) := by decide +kernel
theorem gdX12_lay_47 : decode cX12_lay 47 = .ok (.iadd, 1) := by decide +kernel
theorem gdX12_lay_48 : decode cX12_lay 48 = .ok (.iaload, 1) := by decide +kernel
theorem gdX12_lay_49 : decode cX12_lay 49 = .ok (.putfield 205, 3) := by decide +kernel
theorem gdX12_lay_52 : decode cX12_lay 52 = .ok (.aload_n 0, 1) := by decide +kernel
theorem gdX12_lay_53 : decode cX12_lay 53 = .ok (.getfield 16, 3) := by decide +kernel
theorem gdX12_lay_56 : decode cX12_lay 56 = .ok (.bipush 40, 2) := by decide +kernel
theorem gdX12_lay_58 : decode cX12_lay 58 = .ok (.iload_n 1, 1) := by decide +kernel
theorem gdX12_lay_59 : decode cX12_lay 59 = .ok (.imul, 1) := by decide +kernel
theorem gdX12_lay_60 : decode cX12_lay 60 = .ok (.iload_n 2, 1) := by decide +kernel
theorem gdX12_lay_61 : decode cX12_lay 61 = .ok (.iadd, 1) := by decide +kernel
theorem gdX12_lay_62 : decode cX12_lay 62 = .ok (.iload_n 3, 1) := by decide +kernel
theorem gdX12_lay_63 : decode cX12_lay 63 = .ok (.iastore, 1) := by decide +kernel
theorem gdX12_lay_64 : decode cX12_lay 64 = .ok (.iconst 1, 1) := by decide +kernel
theorem gdX12_lay_65 : decode cX12_lay 65 = .ok (.ireturn, 1) := by decide +kernel
theorem gdX12_lay_31 : decode cX12_lay 31 = .ok (.aload_n 0, 1) := by decide +kernel
theorem gdX12_lay_32 : decode cX12_lay 32 = .ok (.iconst 2, 1) := by decide +kernel
theorem gdX12_lay_33 : decode cX12_lay 33 = .ok (.invokevirtual 216, 3) := by decide +kernel
theorem gdX12_lay_36 : decode cX12_lay 36 = .ok (.ireturn, 1) := by decide +kernel
theorem gdX12_lay_12 : decode cX12_lay 12 = .ok (.iload 4, 2) := by decide +kernel
theorem gdX12_lay_14 : decode cX12_lay 14 = .ok (.ireturn, 1) := by decide +kernel
theorem gdX12_isText_0 : decode cX12_isText 0 = .ok (.iload_n 0, 1) := by decide +kernel
theorem gdX12_isText_1 : decode cX12_isText 1 = .ok (.iconst 0, 1) := by decide +kernel
theorem gdX12_isText_2 : decode cX12_isText 2 = .ok (.iconst 3, 1) := by decide +kernel
theorem gdX12_isText_3 : decode cX12_isText 3 = .ok (.invokestatic 208, 3) := by decide +kernel
theorem gdX12_isText_6 : decode cX12_isText 6 = .ok (.ireturn, 1) := by decide +kernel
theorem gdX12_askedText_29 : decode cX12_askedText 29 = .ok (.ireturn, 1) := by decide +kernel
theorem gdX12_askedText_0 : decode cX12_askedText 0 = .ok (.iload_n 1, 1) := by decide +kernel
theorem gdX12_askedText_1 : decode cX12_askedText 1 = .ok (.invokestatic 220, 3) := by decide +kernel
theorem gdX12_askedText_4 : decode cX12_askedText 4 = .ok (.ifCond .ne 7, 3) := by decide +kernel
theorem gdX12_askedText_11 : decode cX12_askedText 11 = .ok (.aload_n 0, 1) := by decide +kernel
theorem gdX12_askedText_12 : decode cX12_askedText 12 = .ok (.getfield 22, 3) := by decide +kernel
theorem gdX12_askedText_15 : decode cX12_askedText 15 = .ok (.iload_n 1, 1) := by decide +kernel
theorem gdX12_askedText_16 : decode cX12_askedText 16 = .ok (.iaload, 1) := by decide +kernel
theorem gdX12_askedText_17 : decode cX12_askedText 17 = .ok (.ifCond .ge 11, 3) := by decide +kernel
theorem gdX12_askedText_28 : decode cX12_askedText 28 = .ok (.iconst 0, 1) := by decide +kernel
theorem gdX12_askedText_20 : decode cX12_askedText 20 = .ok (.aload_n 0, 1) := by decide +kernel
theorem gdX12_askedText_21 : decode cX12_askedText 21 = .ok (.iconst 1, 1) := by decide +kernel
theorem gdX12_askedText_22 : decode cX12_askedText 22 = .ok (.invokevirtual 216, 3) := by decide +kernel
theorem gdX12_askedText_25 : decode cX12_askedText 25 = .ok (.goto 4, 3) := by decide +kernel
theorem gdX12_askedText_7 : decode cX12_askedText 7 = .ok (.iconst (-1), 1) := by decide +kernel
theorem gdX12_askedText_8 : decode cX12_askedText 8 = .ok (.goto 21, 3) := by decide +kernel
theorem gdX12_put_0 : decode cX12_put 0 = .ok (.aload_n 0, 1) := by decide +kernel
theorem gdX12_put_1 : decode cX12_put 1 = .ok (.iload_n 1, 1) := by decide +kernel
theorem gdX12_put_2 : decode cX12_put 2 = .ok (.invokevirtual 226, 3) := by decide +kernel
theorem gdX12_put_5 : decode cX12_put 5 = .ok (.istore 4, 2) := by decide +kernel
theorem gdX12_put_7 : decode cX12_put 7 = .ok (.iload 4, 2) := by decide +kernel
theorem gdX12_put_9 : decode cX12_put 9 = .ok (.ifCond .ge 6, 3) := by decide +kernel
theorem gdX12_put_15 : decode cX12_put 15 = .ok (.iload_n 2, 1) := by decide +kernel
theorem gdX12_put_16 : decode cX12_put 16 = .ok (.iconst 0, 1) := by decide +kernel
theorem gdX12_put_17 : decode cX12_put 17 = .ok (.aload_n 0, 1) := by decide +kernel
theorem gdX12_put_18 : decode cX12_put 18 = .ok (.getfield 22, 3) := by decide +kernel
theorem gdX12_put_21 : decode cX12_put 21 = .ok (.iload_n 1, 1) := by decide +kernel
theorem gdX12_put_22 : decode cX12_put 22 = .ok (.iaload, 1) := by decide +kernel
theorem gdX12_put_23 : decode cX12_put 23 = .ok (.iconst 1, 1) := by decide +kernel
theorem gdX12_put_24 : decode cX12_put 24 = .ok (.isub, 1) := by decide +kernel
theorem gdX12_put_25 : decode cX12_put 25 = .ok (.invokestatic 208, 3) := by decide +kernel
theorem gdX12_put_28 : decode cX12_put 28 = .ok (.ifCond .ne 9, 3) := by decide +kernel
theorem gdX12_put_37 : decode cX12_put 37 = .ok (.aload_n 0, 1) := by decide +kernel
theorem gdX12_put_38 : decode cX12_put 38 = .ok (.getfield 25, 3) := by decide +kernel
theorem gdX12_put_41 : decode cX12_put 41 = .ok (.bipush 40, 2) := by decide +kernel
theorem gdX12_put_43 : decode cX12_put 43 = .ok (.iload_n 1, 1) := by decide +kernel
theorem gdX12_put_44 : decode cX12_put 44 = .ok (.imul, 1) := by decide +kernel
theorem gdX12_put_45 : decode cX12_put 45 = .ok (.iload_n 2, 1) := by decide +kernel
theorem gdX12_put_46 : decode cX12_put 46 = .ok (.iadd, 1) := by decide +kernel
theorem gdX12_put_47 : decode cX12_put 47 = .ok (.iaload, 1) := by decide +kernel
theorem gdX12_put_48 : decode cX12_put 48 = .ok (.istore 5, 2) := by decide +kernel
theorem gdX12_put_50 : decode cX12_put 50 = .ok (.aload_n 0, 1) := by decide +kernel
theorem gdX12_put_51 : decode cX12_put 51 = .ok (.getfield 25, 3) := by decide +kernel
theorem gdX12_put_54 : decode cX12_put 54 = .ok (.bipush 40, 2) := by decide +kernel
theorem gdX12_put_56 : decode cX12_put 56 = .ok (.iload_n 1, 1) := by decide +kernel
theorem gdX12_put_57 : decode cX12_put 57 = .ok (.imul, 1) := by decide +kernel
theorem gdX12_put_58 : decode cX12_put 58 = .ok (.iload_n 2, 1) := by decide +kernel
theorem gdX12_put_59 : decode cX12_put 59 = .ok (.iadd, 1) := by decide +kernel
theorem gdX12_put_60 : decode cX12_put 60 = .ok (.iload_n 3, 1) := by decide +kernel
theorem gdX12_put_61 : decode cX12_put 61 = .ok (.i2b, 1) := by decide +kernel
theorem gdX12_put_62 : decode cX12_put 62 = .ok (.iastore, 1) := by decide +kernel
theorem gdX12_put_63 : decode cX12_put 63 = .ok (.iload 5, 2) := by decide +kernel
theorem gdX12_put_65 : decode cX12_put 65 = .ok (.sipush 1000, 3) := by decide +kernel
theorem gdX12_put_68 : decode cX12_put 68 = .ok (.iadd, 1) := by decide +kernel
theorem gdX12_put_69 : decode cX12_put 69 = .ok (.ireturn, 1) := by decide +kernel
theorem gdX12_put_31 : decode cX12_put 31 = .ok (.aload_n 0, 1) := by decide +kernel
theorem gdX12_put_32 : decode cX12_put 32 = .ok (.iconst 2, 1) := by decide +kernel
theorem gdX12_put_33 : decode cX12_put 33 = .ok (.invokevirtual 216, 3) := by decide +kernel
theorem gdX12_put_36 : decode cX12_put 36 = .ok (.ireturn, 1) := by decide +kernel
theorem gdX12_put_12 : decode cX12_put 12 = .ok (.iload 4, 2) := by decide +kernel
theorem gdX12_put_14 : decode cX12_put 14 = .ok (.ireturn, 1) := by decide +kernel
theorem okm_X12_in : okM yX12_in cX12_in 3 (some .boolean) 3 := ⟨w_1707, w_103, by decide +kernel, by decide +kernel, by decide +kernel⟩
theorem okm_X12_living : okM yX12_living cX12_living 4 (some .int) 1 := ⟨w_1834, w_103, by decide +kernel, by decide +kernel, by decide +kernel⟩
theorem okw_X12_living : okV yX12_living := ⟨w_1833, w_48⟩
theorem okm_X12_isBuilding : okM yX12_isBuilding cX12_isBuilding 2 (some .boolean) 1 := ⟨w_1814, w_103, by decide +kernel, by decide +kernel, by decide +kernel⟩
theorem okw_X12_isBuilding : okV yX12_isBuilding := ⟨w_1813, w_45⟩
theorem okm_X12_houseTells : okM yX12_houseTells cX12_houseTells 3 (some .int) 2 := ⟨w_1830, w_103, by decide +kernel, by decide +kernel, by decide +kernel⟩
theorem okw_X12_houseTells : okV yX12_houseTells := ⟨w_1829, w_47⟩
theorem okm_X12_ask : okM yX12_ask cX12_ask 3 (some .int) 2 := ⟨w_1838, w_103, by decide +kernel, by decide +kernel, by decide +kernel⟩
theorem okw_X12_ask : okV yX12_ask := ⟨w_1837, w_49⟩
theorem okm_X12_isRow : okM yX12_isRow cX12_isRow 1 (some .boolean) 1 := ⟨w_1704, w_103, by decide +kernel, by decide +kernel, by decide +kernel⟩
theorem okm_X12_meets : okM yX12_meets cX12_meets 2 (some .int) 1 := ⟨w_1711, w_103, by decide +kernel, by decide +kernel, by decide +kernel⟩
theorem okw_X12_meets : okV yX12_meets := ⟨w_1710, w_37⟩
theorem okm_X12_askedRow : okM yX12_askedRow cX12_askedRow 2 (some .int) 1 := ⟨w_1719, w_103, by decide +kernel, by decide +kernel, by decide +kernel⟩
theorem okw_X12_askedRow : okV yX12_askedRow := ⟨w_1718, w_38⟩
theorem okm_X12_isText : okM yX12_isText cX12_isText 1 (some .boolean) 1 := ⟨w_1734, w_103, by decide +kernel, by decide +kernel, by decide +kernel⟩
theorem okm_X12_askedText : okM yX12_askedText cX12_askedText 2 (some .int) 1 := ⟨w_1742, w_103, by decide +kernel, by decide +kernel, by decide +kernel⟩
theorem okw_X12_askedText : okV yX12_askedText := ⟨w_1741, w_39⟩
noncomputable def b_X12_in_15 (y0 : Int) : Option (Int) := qZ y0 (some y0)
noncomputable def b_X12_in_14  : Option (Int) := b_X12_in_15 0
noncomputable def s_X12_in (x0 : Int) (x1 : Int) (x2 : Int) : Option (Int) := qLt x0 x1 (b_X12_in_14 ) (qLt x2 x0 (b_X12_in_14 ) (b_X12_in_15 1))
set_option maxHeartbeats 4000000 in
set_option maxRecDepth 100000 in
theorem c_X12_in (l : Launch) (g : GG) (ws : va_W) (x0 : Int) (x1 : Int) (x2 : Int) (v : Int) (h : s_X12_in x0 x1 x2 = some v) : CI l g yX12_in cX12_in 3 (some .boolean) 0 0 ws [iv x0, iv x1, iv x2] v ws := by
  refine met_I (by decide) (Nat.le_of_ble_eq_true rfl) ?_
  intro X E hQ
  show Go X 0 ws [(0, iv x0), (1, iv x1), (2, iv x2)] []
  have j15 : ∀ (y0 : Int), b_X12_in_15 y0 = some v → Go X 15 ws [] [iv y0] := by
    intro y0 h
    unfold b_X12_in_15 at h
    obtain ⟨hz, h⟩ := qZ_of h
    exact g_zret E hQ hz (Option.some.inj h) rfl gdX12_in_15
  have j14 : b_X12_in_14  = some v → Go X 14 ws [] [] := by
    intro h
    unfold b_X12_in_14 at h
    refine g_iconst E gdX12_in_14 ?_
    exact j15 0 h
  unfold s_X12_in at h
  refine g_iload_n E gdX12_in_0 rfl 0 rfl ?_
  refine g_iload_n E gdX12_in_1 rfl 1 rfl ?_
  refine g_icmp_lt E 14 gdX12_in_2 (by decide) h (fun h => ?_) (fun h => ?_)
  ·
    refine g_sub E [] rfl ?_
    exact j14  h
  ·
    refine g_iload_n E gdX12_in_5 rfl 0 rfl ?_
    refine g_iload_n E gdX12_in_6 rfl 2 rfl ?_
    refine g_icmp_gt E 14 gdX12_in_7 (by decide) h (fun h => ?_) (fun h => ?_)
    ·
      refine g_sub E [] rfl ?_
      exact j14  h
    ·
      refine g_iconst E gdX12_in_10 ?_
      refine g_goto E 15 gdX12_in_11 (by decide) ?_
      refine g_sub E [] rfl ?_
      exact j15 1 h
noncomputable def s_X12_isBuilding (o : OO) (x1 : Int) : Option (Int) := qB (s_X12_in x1 0 ((o.1 0 17) - 1)) (fun r1 => qZ r1 (some r1))
set_option maxHeartbeats 4000000 in
set_option maxRecDepth 100000 in
theorem c_X12_isBuilding (l : Launch) (g : GG) (ad : Nat → Nat) (o : OO) (x1 : Int) (v : Int) (h : s_X12_isBuilding o x1 = some v) : CI l g yX12_isBuilding cX12_isBuilding 2 (some .boolean) 1 22 (wM g ad o) [.ref (ad 0), iv x1] v (wM g ad o) := by
  refine met_I (by decide) (Nat.le_of_ble_eq_true rfl) ?_
  intro X E hQ
  show Go X 0 (wM g ad o) [(0, .ref (ad 0)), (1, iv x1)] []
  unfold s_X12_isBuilding at h
  refine g_iload_n E gdX12_isBuilding_0 rfl 1 rfl ?_
  refine g_iconst E gdX12_isBuilding_1 ?_
  refine g_aload_n E gdX12_isBuilding_2 rfl 0 rfl ?_
  refine g_get (T := TX12) E fw_X12 0 (wM_0 g ad o) rfl 17 (by decide) w_1483 rfl rfl gdX12_isBuilding_3 ?_
  refine g_iconst E gdX12_isBuilding_6 ?_
  refine g_isub E gdX12_isBuilding_7 ?_
  obtain ⟨r1, hc2, h⟩ := qB_of h
  refine g_Si (r := r1) (As := [iv x1, iv 0, iv ((o.1 0 17) - 1)]) (rest := []) (w := wM g ad o) E (c_X12_in l g (wM g ad o) x1 0 ((o.1 0 17) - 1) r1 hc2) okm_X12_in w_1706 w_1705 rfl rfl (Nat.le_of_ble_eq_true rfl) ⟨Nat.le_of_ble_eq_true rfl, Nat.le_of_ble_eq_true rfl⟩ gdX12_isBuilding_8 ?_
  obtain ⟨hz, h⟩ := qZ_of h
  exact g_zret E hQ hz (Option.some.inj h) rfl gdX12_isBuilding_11
noncomputable def b_X12_living_36 (o : OO) (x2 : Int) : Option (Int) := some x2
noncomputable def b_X12_living_28 (o : OO) (x1 : Int) (x3 : Int) (y0 : Int) (y1 : Int) : Option ((Int × Int) ⊕ ((Int))) := qNm (y0 + y1) (fun n1 => some (.inl (n1, x3 + 1)))
noncomputable def l_X12_living_4 (o : OO) (x1 : Int) (x2 : Int) (x3 : Int) : Option ((Int × Int) ⊕ ((Int))) := qLt x3 (o.1 0 27) (qIn x3 40 (qNm (o.1 21 x3.toNat) (fun n3 => qEq n3 x1 (b_X12_living_28 o x1 x3 x2 1) (b_X12_living_28 o x1 x3 x2 0)))) (some (.inr (x2)))
noncomputable def e_X12_living_4 (o : OO) (x1 : Int) (x2 : Int) (x3 : Int) : Option (Int) := qB (loopW (fun s => l_X12_living_4 o x1 s.1 s.2) (x2, x3)) (fun r => b_X12_living_36 o r)
noncomputable def s_X12_living (o : OO) (x1 : Int) : Option (Int) := e_X12_living_4 o x1 0 0
set_option maxHeartbeats 4000000 in
set_option maxRecDepth 100000 in
theorem c_X12_living (l : Launch) (g : GG) (ad : Nat → Nat) (o : OO) (x1 : Int) (v : Int) (h : s_X12_living o x1 = some v) : CI l g yX12_living cX12_living 4 (some .int) 0 0 (wM g ad o) [.ref (ad 0), iv x1] v (wM g ad o) := by
  refine met_I (by decide) (Nat.le_of_ble_eq_true rfl) ?_
  intro X E hQ
  show Go X 0 (wM g ad o) [(0, .ref (ad 0)), (1, iv x1)] []
  have j36 : ∀ (x2 : Int), b_X12_living_36 o x2 = some v → Go X 36 (wM g ad o) [(2, iv x2)] [] := by
    intro x2 h
    unfold b_X12_living_36 at h
    refine g_iload_n E gdX12_living_36 rfl 0 rfl ?_
    exact g_iret E hQ (Option.some.inj h) rfl gdX12_living_37
  have j28 : ∀ (x1 : Int) (x3 : Int) (y0 : Int) (y1 : Int) (v : (Int × Int) ⊕ ((Int))), b_X12_living_28 o x1 x3 y0 y1 = some v → (∀ (x2 : Int) (x3 : Int), v = .inl (x2, x3) → Go X 4 (wM g ad o) [(0, .ref (ad 0)), (1, iv x1), (2, iv x2), (3, iv x3)] []) → (∀ (x2 : Int), v = .inr (x2) → Go X 36 (wM g ad o) [(2, iv x2)] []) → Go X 28 (wM g ad o) [(0, .ref (ad 0)), (1, iv x1), (3, iv x3)] [iv y1, iv y0] := by
    intro x1 x3 y0 y1 v h k0 k1
    unfold b_X12_living_28 at h
    refine g_iadd E gdX12_living_28 ?_
    obtain ⟨n1, e_n1, h⟩ := qNm_of h
    refine g_nmi e_n1 ?_
    refine g_istore_n E [(2, iv n1), (0, .ref (ad 0)), (1, iv x1), (3, iv x3)] gdX12_living_29 rfl (by decide) rfl ?_
    refine g_iinc E [(3, iv (x3 + 1)), (2, iv n1), (0, .ref (ad 0)), (1, iv x1)] gdX12_living_30 3 rfl (by decide) rfl ?_
    refine g_goto E 4 gdX12_living_33 (by decide) ?_
    refine g_sub E [2, 3, 1, 0] rfl ?_
    exact k0 n1 (x3 + 1) (Option.some.inj h).symm
  have l4 : ∀ (x1 : Int) (r : (Int)) (s0 : Int × Int), loopW (fun s => l_X12_living_4 o x1 s.1 s.2) s0 = some r → (∀ (x2 : Int), r = (x2) → Go X 36 (wM g ad o) [(2, iv x2)] []) → Go X 4 (wM g ad o) [(0, .ref (ad 0)), (1, iv x1), (2, iv s0.1), (3, iv s0.2)] [] := by
    intro x1 r s0 h k1
    refine loop_rule (Head := fun s0 => Go X 4 (wM g ad o) [(0, .ref (ad 0)), (1, iv x1), (2, iv s0.1), (3, iv s0.2)] []) h ?_
    intro s v h kk kx
    obtain ⟨x2, x3⟩ := s
    have h : l_X12_living_4 o x1 x2 x3 = some v := h
    have k0 : ∀ (x2 : Int) (x3 : Int), v = .inl (x2, x3) → Go X 4 (wM g ad o) [(0, .ref (ad 0)), (1, iv x1), (2, iv x2), (3, iv x3)] [] := fun x2 x3 e => kk (x2, x3) e
    have k1 : ∀ (x2 : Int), v = .inr (x2) → Go X 36 (wM g ad o) [(2, iv x2)] [] := fun x2 e => k1 x2 (kx _ e).symm
    unfold l_X12_living_4 at h
    refine g_iload_n E gdX12_living_4 rfl 3 rfl ?_
    refine g_aload_n E gdX12_living_5 rfl 0 rfl ?_
    refine g_get (T := TX12) E fw_X12 0 (wM_0 g ad o) rfl 27 (by decide) w_1493 rfl rfl gdX12_living_6 ?_
    refine g_icmp_ge E 36 gdX12_living_9 (by decide) h (fun h => ?_) (fun h => ?_)
    ·
      refine g_sub E [2] rfl ?_
      exact k1 x2 (Option.some.inj h).symm
    ·
      refine g_iload_n E gdX12_living_12 rfl 2 rfl ?_
      refine g_aload_n E gdX12_living_13 rfl 0 rfl ?_
      refine g_get (T := TX12) E fw_X12 0 (wM_0 g ad o) rfl 28 (by decide) w_1494 rfl rfl gdX12_living_14 ?_
      refine g_iload_n E gdX12_living_17 rfl 3 rfl ?_
      obtain ⟨hi2, h⟩ := qIn_of h
      refine g_iald E 21 (wM_21 g ad o) (by decide) hi2 gdX12_living_18 ?_
      obtain ⟨n3, e_n3, h⟩ := qNm_of h
      refine g_nmi e_n3 ?_
      refine g_iload_n E gdX12_living_19 rfl 1 rfl ?_
      refine g_icmp_ne E 27 gdX12_living_20 (by decide) h (fun h => ?_) (fun h => ?_)
      ·
        refine g_iconst E gdX12_living_27 ?_
        refine g_sub E [0, 1, 3] rfl ?_
        exact j28 x1 x3 x2 0 v h k0 k1
      ·
        refine g_iconst E gdX12_living_23 ?_
        refine g_goto E 28 gdX12_living_24 (by decide) ?_
        refine g_sub E [0, 1, 3] rfl ?_
        exact j28 x1 x3 x2 1 v h k0 k1
  have j4 : ∀ (x1 : Int) (x2 : Int) (x3 : Int), e_X12_living_4 o x1 x2 x3 = some v → Go X 4 (wM g ad o) [(0, .ref (ad 0)), (1, iv x1), (2, iv x2), (3, iv x3)] [] := by
    intro x1 x2 x3 h
    unfold e_X12_living_4 at h
    obtain ⟨r, hr, h⟩ := qB_of h
    refine l4 x1 r _ hr ?_
    ·
      intro u0 e
      have e := e.symm
      subst e
      have h : b_X12_living_36 o u0 = some v := h
      exact j36 u0 h
  unfold s_X12_living at h
  refine g_iconst E gdX12_living_0 ?_
  refine g_istore_n E [(2, iv 0), (0, .ref (ad 0)), (1, iv x1)] gdX12_living_1 rfl (by decide) rfl ?_
  refine g_iconst E gdX12_living_2 ?_
  refine g_istore_n E [(3, iv 0), (2, iv 0), (0, .ref (ad 0)), (1, iv x1)] gdX12_living_3 rfl (by decide) rfl ?_
  refine g_sub E [2, 3, 1, 0] rfl ?_
  exact j4 x1 0 0 h
noncomputable def b_X12_houseTells_77 (o : OO) (y0 : Int) : Option (Int) := some y0
noncomputable def s_X12_houseTells (o : OO) (x1 : Int) (x2 : Int) : Option (Int) := qEq x2 0 (qIn x1 32 (qNm (o.1 13 x1.toNat) (fun n2 => some n2))) (qEq x2 1 (qIn x1 32 (qNm (o.1 14 x1.toNat) (fun n4 => some n4))) (qEq x2 2 (qIn x1 32 (qNm (o.1 15 x1.toNat) (fun n6 => some n6))) (qEq x2 3 (qB (s_X12_living o x1) (fun r7 => some r7)) (qEq x2 4 (qIn x1 32 (qNm (o.1 16 x1.toNat) (fun n10 => qEq n10 0 (b_X12_houseTells_77 o 0) (b_X12_houseTells_77 o 1)))) (qIn x1 32 (qNm (o.1 17 x1.toNat) (fun n12 => some n12)))))))
set_option maxHeartbeats 4000000 in
set_option maxRecDepth 100000 in
theorem c_X12_houseTells (l : Launch) (g : GG) (ad : Nat → Nat) (o : OO) (x1 : Int) (x2 : Int) (v : Int) (h : s_X12_houseTells o x1 x2 = some v) : CI l g yX12_houseTells cX12_houseTells 3 (some .int) 1 23 (wM g ad o) [.ref (ad 0), iv x1, iv x2] v (wM g ad o) := by
  refine met_I (by decide) (Nat.le_of_ble_eq_true rfl) ?_
  intro X E hQ
  show Go X 0 (wM g ad o) [(0, .ref (ad 0)), (1, iv x1), (2, iv x2)] []
  have j77 : ∀ (y0 : Int), b_X12_houseTells_77 o y0 = some v → Go X 77 (wM g ad o) [] [iv y0] := by
    intro y0 h
    unfold b_X12_houseTells_77 at h
    exact g_iret E hQ (Option.some.inj h) rfl gdX12_houseTells_77
  unfold s_X12_houseTells at h
  refine g_iload_n E gdX12_houseTells_0 rfl 2 rfl ?_
  obtain ⟨h1, -, ⟨hx, h⟩ | ⟨hx0, h⟩⟩ := qEq_of h
  ·
    refine g_tabIn (kx := 0) (off := 35) E 36 gdX12_houseTells_1 hx (by decide) (by decide) (by decide) (by decide) (by decide) ?_
    refine g_aload_n E gdX12_houseTells_36 rfl 0 rfl ?_
    refine g_get (T := TX12) E fw_X12 0 (wM_0 g ad o) rfl 18 (by decide) w_1484 rfl rfl gdX12_houseTells_37 ?_
    refine g_iload_n E gdX12_houseTells_40 rfl 1 rfl ?_
    obtain ⟨hi1, h⟩ := qIn_of h
    refine g_iald E 13 (wM_13 g ad o) (by decide) hi1 gdX12_houseTells_41 ?_
    obtain ⟨n2, e_n2, h⟩ := qNm_of h
    refine g_nmi e_n2 ?_
    exact g_iret E hQ (Option.some.inj h) rfl gdX12_houseTells_42
  ·
    obtain ⟨h1, -, ⟨hx, h⟩ | ⟨hx1, h⟩⟩ := qEq_of h
    ·
      refine g_tabIn (kx := 1) (off := 42) E 43 gdX12_houseTells_1 hx (by decide) (by decide) (by decide) (by decide) (by decide) ?_
      refine g_aload_n E gdX12_houseTells_43 rfl 0 rfl ?_
      refine g_get (T := TX12) E fw_X12 0 (wM_0 g ad o) rfl 19 (by decide) w_1485 rfl rfl gdX12_houseTells_44 ?_
      refine g_iload_n E gdX12_houseTells_47 rfl 1 rfl ?_
      obtain ⟨hi3, h⟩ := qIn_of h
      refine g_iald E 14 (wM_14 g ad o) (by decide) hi3 gdX12_houseTells_48 ?_
      obtain ⟨n4, e_n4, h⟩ := qNm_of h
      refine g_nmi e_n4 ?_
      exact g_iret E hQ (Option.some.inj h) rfl gdX12_houseTells_49
    ·
      obtain ⟨h1, -, ⟨hx, h⟩ | ⟨hx2, h⟩⟩ := qEq_of h
      ·
        refine g_tabIn (kx := 2) (off := 49) E 50 gdX12_houseTells_1 hx (by decide) (by decide) (by decide) (by decide) (by decide) ?_
        refine g_aload_n E gdX12_houseTells_50 rfl 0 rfl ?_
        refine g_get (T := TX12) E fw_X12 0 (wM_0 g ad o) rfl 20 (by decide) w_1486 rfl rfl gdX12_houseTells_51 ?_
        refine g_iload_n E gdX12_houseTells_54 rfl 1 rfl ?_
        obtain ⟨hi5, h⟩ := qIn_of h
        refine g_iald E 15 (wM_15 g ad o) (by decide) hi5 gdX12_houseTells_55 ?_
        obtain ⟨n6, e_n6, h⟩ := qNm_of h
        refine g_nmi e_n6 ?_
        exact g_iret E hQ (Option.some.inj h) rfl gdX12_houseTells_56
      ·
        obtain ⟨h1, -, ⟨hx, h⟩ | ⟨hx3, h⟩⟩ := qEq_of h
        ·
          refine g_tabIn (kx := 3) (off := 56) E 57 gdX12_houseTells_1 hx (by decide) (by decide) (by decide) (by decide) (by decide) ?_
          refine g_aload_n E gdX12_houseTells_57 rfl 0 rfl ?_
          refine g_iload_n E gdX12_houseTells_58 rfl 1 rfl ?_
          obtain ⟨r7, hc8, h⟩ := qB_of h
          refine g_Vi (r := r7) (As := [iv x1]) (rest := []) (w := wM g ad o) E (c_X12_living l g ad o x1 r7 hc8) okm_X12_living okw_X12_living w_1831 rfl (wM_0 g ad o) rfl rfl (Nat.le_of_ble_eq_true rfl) ⟨Nat.le_of_ble_eq_true rfl, Nat.le_of_ble_eq_true rfl⟩ gdX12_houseTells_59 ?_
          exact g_iret E hQ (Option.some.inj h) rfl gdX12_houseTells_62
        ·
          obtain ⟨h1, -, ⟨hx, h⟩ | ⟨hx4, h⟩⟩ := qEq_of h
          ·
            refine g_tabIn (kx := 4) (off := 62) E 63 gdX12_houseTells_1 hx (by decide) (by decide) (by decide) (by decide) (by decide) ?_
            refine g_aload_n E gdX12_houseTells_63 rfl 0 rfl ?_
            refine g_get (T := TX12) E fw_X12 0 (wM_0 g ad o) rfl 21 (by decide) w_1487 rfl rfl gdX12_houseTells_64 ?_
            refine g_iload_n E gdX12_houseTells_67 rfl 1 rfl ?_
            obtain ⟨hi9, h⟩ := qIn_of h
            refine g_zald E 16 (wM_16 g ad o) (by decide) hi9 gdX12_houseTells_68 ?_
            obtain ⟨n10, e_n10, h⟩ := qNm_of h
            refine g_nmi e_n10 ?_
            refine g_if_eq E 76 gdX12_houseTells_69 (by decide) h (fun h => ?_) (fun h => ?_)
            ·
              refine g_iconst E gdX12_houseTells_76 ?_
              refine g_sub E [] rfl ?_
              exact j77 0 h
            ·
              refine g_iconst E gdX12_houseTells_72 ?_
              refine g_goto E 77 gdX12_houseTells_73 (by decide) ?_
              refine g_sub E [] rfl ?_
              exact j77 1 h
          ·
            refine g_tabOut E 78 gdX12_houseTells_1 h1 (by omega) (by decide) ?_
            refine g_aload_n E gdX12_houseTells_78 rfl 0 rfl ?_
            refine g_get (T := TX12) E fw_X12 0 (wM_0 g ad o) rfl 22 (by decide) w_1488 rfl rfl gdX12_houseTells_79 ?_
            refine g_iload_n E gdX12_houseTells_82 rfl 1 rfl ?_
            obtain ⟨hi11, h⟩ := qIn_of h
            refine g_iald E 17 (wM_17 g ad o) (by decide) hi11 gdX12_houseTells_83 ?_
            obtain ⟨n12, e_n12, h⟩ := qNm_of h
            refine g_nmi e_n12 ?_
            exact g_iret E hQ (Option.some.inj h) rfl gdX12_houseTells_84
noncomputable def s_X12_ask (o : OO) (x1 : Int) (x2 : Int) : Option (Int × OO) := qNm (st1 o 0 2 x1) (fun o1 => some (x2, o1))
set_option maxHeartbeats 4000000 in
set_option maxRecDepth 100000 in
theorem c_X12_ask (l : Launch) (g : GG) (ad : Nat → Nat) (o : OO) (x1 : Int) (x2 : Int) (v : Int × OO) (h : s_X12_ask o x1 x2 = some v) : CI l g yX12_ask cX12_ask 3 (some .int) 0 0 (wM g ad o) [.ref (ad 0), iv x1, iv x2] v.1 (wM g ad v.2) := by
  refine met_I (by decide) (Nat.le_of_ble_eq_true rfl) ?_
  intro X E hQ
  show Go X 0 (wM g ad o) [(0, .ref (ad 0)), (1, iv x1), (2, iv x2)] []
  unfold s_X12_ask at h
  refine g_aload_n E gdX12_ask_0 rfl 0 rfl ?_
  refine g_iload_n E gdX12_ask_1 rfl 1 rfl ?_
  obtain ⟨o1, e_o1, h⟩ := qNm_of h
  refine g_puti (T := TX12) (ws' := wM g ad o1) E fw_X12 tyX12 tyX12_ok nmX12 0 (wM_0 g ad o) rfl 2 (by decide) w_1468 rfl rfl (by decide +kernel) (Nat.le_of_ble_eq_true rfl) (by rw [e_o1]; exact wM_p0_2 g ad o _) gdX12_ask_2 ?_
  refine g_iload_n E gdX12_ask_5 rfl 2 rfl ?_
  exact g_iret E hQ (by rw [← Option.some.inj h]) (by rw [← Option.some.inj h]) gdX12_ask_6
noncomputable def b_X12_house_32 (o : OO) (y0 : Int) : Option (Int × OO) := some (y0, o)
noncomputable def b_X12_house_31 (o : OO) : Option (Int × OO) := b_X12_house_32 o (-1)
noncomputable def s_X12_house (o : OO) (x1 : Int) (x2 : Int) : Option (Int × OO) := qB (s_X12_isBuilding o x1) (fun r1 => qEq r1 0 (b_X12_house_31 o) (qB (s_X12_in x2 0 5) (fun r3 => qEq r3 0 (b_X12_house_31 o) (qB (s_X12_houseTells o x1 x2) (fun r5 => qB2 (s_X12_ask o r5 1) (fun r7 o9 => b_X12_house_32 o9 r7))))))
set_option maxHeartbeats 4000000 in
set_option maxRecDepth 100000 in
theorem c_X12_house (l : Launch) (g : GG) (ad : Nat → Nat) (o : OO) (x1 : Int) (x2 : Int) (v : Int × OO) (h : s_X12_house o x1 x2 = some v) : CI l g yX12_house cX12_house 3 (some .int) 2 45 (wM g ad o) [.ref (ad 0), iv x1, iv x2] v.1 (wM g ad v.2) := by
  refine met_I (by decide) (Nat.le_of_ble_eq_true rfl) ?_
  intro X E hQ
  show Go X 0 (wM g ad o) [(0, .ref (ad 0)), (1, iv x1), (2, iv x2)] []
  have j32 : ∀ (o : OO) (y0 : Int), b_X12_house_32 o y0 = some v → Go X 32 (wM g ad o) [] [iv y0] := by
    intro o y0 h
    unfold b_X12_house_32 at h
    exact g_iret E hQ (by rw [← Option.some.inj h]) (by rw [← Option.some.inj h]) gdX12_house_32
  have j31 : ∀ (o : OO), b_X12_house_31 o = some v → Go X 31 (wM g ad o) [] [] := by
    intro o h
    unfold b_X12_house_31 at h
    refine g_iconst E gdX12_house_31 ?_
    exact j32 o (-1) h
  unfold s_X12_house at h
  refine g_aload_n E gdX12_house_0 rfl 0 rfl ?_
  refine g_iload_n E gdX12_house_1 rfl 1 rfl ?_
  obtain ⟨r1, hc2, h⟩ := qB_of h
  refine g_Vi (r := r1) (As := [iv x1]) (rest := []) (w := wM g ad o) E (c_X12_isBuilding l g ad o x1 r1 hc2) okm_X12_isBuilding okw_X12_isBuilding w_1811 rfl (wM_0 g ad o) rfl rfl (Nat.le_of_ble_eq_true rfl) ⟨Nat.le_of_ble_eq_true rfl, Nat.le_of_ble_eq_true rfl⟩ gdX12_house_2 ?_
  refine g_if_eq E 31 gdX12_house_5 (by decide) h (fun h => ?_) (fun h => ?_)
  ·
    refine g_sub E [] rfl ?_
    exact j31 o h
  ·
    refine g_iload_n E gdX12_house_8 rfl 2 rfl ?_
    refine g_iconst E gdX12_house_9 ?_
    refine g_iconst E gdX12_house_10 ?_
    obtain ⟨r3, hc4, h⟩ := qB_of h
    refine g_Si (r := r3) (As := [iv x2, iv 0, iv 5]) (rest := []) (w := wM g ad o) E (c_X12_in l g (wM g ad o) x2 0 5 r3 hc4) okm_X12_in w_1706 w_1705 rfl rfl (Nat.le_of_ble_eq_true rfl) ⟨Nat.le_of_ble_eq_true rfl, Nat.le_of_ble_eq_true rfl⟩ gdX12_house_11 ?_
    refine g_if_eq E 31 gdX12_house_14 (by decide) h (fun h => ?_) (fun h => ?_)
    ·
      refine g_sub E [] rfl ?_
      exact j31 o h
    ·
      refine g_aload_n E gdX12_house_17 rfl 0 rfl ?_
      refine g_aload_n E gdX12_house_18 rfl 0 rfl ?_
      refine g_iload_n E gdX12_house_19 rfl 1 rfl ?_
      refine g_iload_n E gdX12_house_20 rfl 2 rfl ?_
      obtain ⟨r5, hc6, h⟩ := qB_of h
      refine g_Vi (r := r5) (As := [iv x1, iv x2]) (rest := [.ref (ad 0)]) (w := wM g ad o) E (c_X12_houseTells l g ad o x1 x2 r5 hc6) okm_X12_houseTells okw_X12_houseTells w_1827 rfl (wM_0 g ad o) rfl rfl (Nat.le_of_ble_eq_true rfl) ⟨Nat.le_of_ble_eq_true rfl, Nat.le_of_ble_eq_true rfl⟩ gdX12_house_21 ?_
      refine g_iconst E gdX12_house_24 ?_
      obtain ⟨r7, o9, hc8, h⟩ := qB2_of h
      refine g_Vi (r := r7) (As := [iv r5, iv 1]) (rest := []) (w := wM g ad o9) E (c_X12_ask l g ad o r5 1 (r7, o9) hc8) okm_X12_ask okw_X12_ask w_1835 rfl (wM_0 g ad o) rfl rfl (Nat.le_of_ble_eq_true rfl) ⟨Nat.le_of_ble_eq_true rfl, Nat.le_of_ble_eq_true rfl⟩ gdX12_house_25 ?_
      refine g_goto E 32 gdX12_house_28 (by decide) ?_
      refine g_sub E [] rfl ?_
      exact j32 o9 r7 h
noncomputable def b_X12_later_16 (o : OO) : Option (Int × OO) := some ((-1), o)
noncomputable def s_X12_later (o : OO) (x1 : Int) : Option (Int × OO) := qLt x1 0 (b_X12_later_16 o) (qLt (999 - (o.1 0 4)) x1 (b_X12_later_16 o) (qNm (st1 o 0 4 ((o.1 0 4) + x1)) (fun o1 => some (o1.1 0 4, o1))))
set_option maxHeartbeats 4000000 in
set_option maxRecDepth 100000 in
theorem c_X12_later (l : Launch) (g : GG) (ad : Nat → Nat) (o : OO) (x1 : Int) (v : Int × OO) (h : s_X12_later o x1 = some v) : CI l g yX12_later cX12_later 2 (some .int) 0 0 (wM g ad o) [.ref (ad 0), iv x1] v.1 (wM g ad v.2) := by
  refine met_I (by decide) (Nat.le_of_ble_eq_true rfl) ?_
  intro X E hQ
  show Go X 0 (wM g ad o) [(0, .ref (ad 0)), (1, iv x1)] []
  have j16 : ∀ (o : OO), b_X12_later_16 o = some v → Go X 16 (wM g ad o) [] [] := by
    intro o h
    unfold b_X12_later_16 at h
    refine g_iconst E gdX12_later_16 ?_
    exact g_iret E hQ (by rw [← Option.some.inj h]) (by rw [← Option.some.inj h]) gdX12_later_17
  unfold s_X12_later at h
  refine g_iload_n E gdX12_later_0 rfl 1 rfl ?_
  refine g_if_lt E 16 gdX12_later_1 (by decide) h (fun h => ?_) (fun h => ?_)
  ·
    refine g_sub E [] rfl ?_
    exact j16 o h
  ·
    refine g_iload_n E gdX12_later_4 rfl 1 rfl ?_
    refine g_sipush E gdX12_later_5 (by decide) ?_
    refine g_aload_n E gdX12_later_8 rfl 0 rfl ?_
    refine g_get (T := TX12) E fw_X12 0 (wM_0 g ad o) rfl 4 (by decide) w_1470 rfl rfl gdX12_later_9 ?_
    refine g_isub E gdX12_later_12 ?_
    refine g_icmp_le E 18 gdX12_later_13 (by decide) h (fun h => ?_) (fun h => ?_)
    ·
      refine g_aload_n E gdX12_later_18 rfl 0 rfl ?_
      refine g_dup E gdX12_later_19 rfl ?_
      refine g_get (T := TX12) E fw_X12 0 (wM_0 g ad o) rfl 4 (by decide) w_1470 rfl rfl gdX12_later_20 ?_
      refine g_iload_n E gdX12_later_23 rfl 1 rfl ?_
      refine g_iadd E gdX12_later_24 ?_
      obtain ⟨o1, e_o1, h⟩ := qNm_of h
      refine g_puti (T := TX12) (ws' := wM g ad o1) E fw_X12 tyX12 tyX12_ok nmX12 0 (wM_0 g ad o) rfl 4 (by decide) w_1470 rfl rfl (by decide +kernel) (Nat.le_of_ble_eq_true rfl) (by rw [e_o1]; exact wM_p0_4 g ad o _) gdX12_later_25 ?_
      refine g_aload_n E gdX12_later_28 rfl 0 rfl ?_
      refine g_get (T := TX12) E fw_X12 0 (wM_0 g ad o1) rfl 4 (by decide) w_1470 rfl rfl gdX12_later_29 ?_
      exact g_iret E hQ (by rw [← Option.some.inj h]) (by rw [← Option.some.inj h]) gdX12_later_32
    ·
      refine g_sub E [] rfl ?_
      exact j16 o h
noncomputable def s_X12_isRow (x0 : Int) : Option (Int) := qB (s_X12_in x0 0 5) (fun r1 => qZ r1 (some r1))
set_option maxHeartbeats 4000000 in
set_option maxRecDepth 100000 in
theorem c_X12_isRow (l : Launch) (g : GG) (ws : va_W) (x0 : Int) (v : Int) (h : s_X12_isRow x0 = some v) : CI l g yX12_isRow cX12_isRow 1 (some .boolean) 1 22 ws [iv x0] v ws := by
  refine met_I (by decide) (Nat.le_of_ble_eq_true rfl) ?_
  intro X E hQ
  show Go X 0 ws [(0, iv x0)] []
  unfold s_X12_isRow at h
  refine g_iload_n E gdX12_isRow_0 rfl 0 rfl ?_
  refine g_iconst E gdX12_isRow_1 ?_
  refine g_iconst E gdX12_isRow_2 ?_
  obtain ⟨r1, hc2, h⟩ := qB_of h
  refine g_Si (r := r1) (As := [iv x0, iv 0, iv 5]) (rest := []) (w := ws) E (c_X12_in l g ws x0 0 5 r1 hc2) okm_X12_in w_1706 w_1705 rfl rfl (Nat.le_of_ble_eq_true rfl) ⟨Nat.le_of_ble_eq_true rfl, Nat.le_of_ble_eq_true rfl⟩ gdX12_isRow_3 ?_
  obtain ⟨hz, h⟩ := qZ_of h
  exact g_zret E hQ hz (Option.some.inj h) rfl gdX12_isRow_6
noncomputable def s_X12_meets (o : OO) (x1 : Int) : Option (Int × OO) := qNm (st1 o 0 0 x1) (fun o1 => qIn x1 6 (qNm (o1.1 1 x1.toNat) (fun n3 => qIn x1 6 (qNm (st1 o1 1 x1.toNat (n3 + 1)) (fun o5 => some ((-3), o5))))))
set_option maxHeartbeats 4000000 in
set_option maxRecDepth 100000 in
theorem c_X12_meets (l : Launch) (g : GG) (ad : Nat → Nat) (o : OO) (x1 : Int) (v : Int × OO) (h : s_X12_meets o x1 = some v) : CI l g yX12_meets cX12_meets 2 (some .int) 0 0 (wM g ad o) [.ref (ad 0), iv x1] v.1 (wM g ad v.2) := by
  refine met_I (by decide) (Nat.le_of_ble_eq_true rfl) ?_
  intro X E hQ
  show Go X 0 (wM g ad o) [(0, .ref (ad 0)), (1, iv x1)] []
  unfold s_X12_meets at h
  refine g_aload_n E gdX12_meets_0 rfl 0 rfl ?_
  refine g_iload_n E gdX12_meets_1 rfl 1 rfl ?_
  obtain ⟨o1, e_o1, h⟩ := qNm_of h
  refine g_puti (T := TX12) (ws' := wM g ad o1) E fw_X12 tyX12 tyX12_ok nmX12 0 (wM_0 g ad o) rfl 0 (by decide) w_1466 rfl rfl (by decide +kernel) (Nat.le_of_ble_eq_true rfl) (by rw [e_o1]; exact wM_p0_0 g ad o _) gdX12_meets_2 ?_
  refine g_aload_n E gdX12_meets_5 rfl 0 rfl ?_
  refine g_get (T := TX12) E fw_X12 0 (wM_0 g ad o1) rfl 1 (by decide) w_1467 rfl rfl gdX12_meets_6 ?_
  refine g_iload_n E gdX12_meets_9 rfl 1 rfl ?_
  refine g_dup2 E gdX12_meets_10 rfl rfl ?_
  obtain ⟨hi2, h⟩ := qIn_of h
  refine g_iald E 1 (wM_1 g ad o1) (by decide) hi2 gdX12_meets_11 ?_
  obtain ⟨n3, e_n3, h⟩ := qNm_of h
  refine g_nmi e_n3 ?_
  refine g_iconst E gdX12_meets_12 ?_
  refine g_iadd E gdX12_meets_13 ?_
  obtain ⟨hi4, h⟩ := qIn_of h
  obtain ⟨o5, e_o5, h⟩ := qNm_of h
  refine g_iast (ws' := wM g ad o5) E 1 (wM_1 g ad o1) (by decide) hi4 (by rw [e_o5]; exact wM_s1 g ad o1 _ _) gdX12_meets_14 ?_
  refine g_bipush E gdX12_meets_15 (by decide) ?_
  exact g_iret E hQ (by rw [← Option.some.inj h]) (by rw [← Option.some.inj h]) gdX12_meets_17
noncomputable def b_X12_askedRow_29 (o : OO) (y0 : Int) : Option (Int × OO) := some (y0, o)
noncomputable def s_X12_askedRow (o : OO) (x1 : Int) : Option (Int × OO) := qB (s_X12_isRow x1) (fun r1 => qEq r1 0 (b_X12_askedRow_29 o (-1)) (qIn x1 6 (qNm (o.1 2 x1.toNat) (fun n4 => qLt n4 0 (qB2 (s_X12_meets o 1) (fun r5 o7 => b_X12_askedRow_29 o7 r5)) (b_X12_askedRow_29 o 0)))))
set_option maxHeartbeats 4000000 in
set_option maxRecDepth 100000 in
theorem c_X12_askedRow (l : Launch) (g : GG) (ad : Nat → Nat) (o : OO) (x1 : Int) (v : Int × OO) (h : s_X12_askedRow o x1 = some v) : CI l g yX12_askedRow cX12_askedRow 2 (some .int) 2 42 (wM g ad o) [.ref (ad 0), iv x1] v.1 (wM g ad v.2) := by
  refine met_I (by decide) (Nat.le_of_ble_eq_true rfl) ?_
  intro X E hQ
  show Go X 0 (wM g ad o) [(0, .ref (ad 0)), (1, iv x1)] []
  have j29 : ∀ (o : OO) (y0 : Int), b_X12_askedRow_29 o y0 = some v → Go X 29 (wM g ad o) [] [iv y0] := by
    intro o y0 h
    unfold b_X12_askedRow_29 at h
    exact g_iret E hQ (by rw [← Option.some.inj h]) (by rw [← Option.some.inj h]) gdX12_askedRow_29
  unfold s_X12_askedRow at h
  refine g_iload_n E gdX12_askedRow_0 rfl 1 rfl ?_
  obtain ⟨r1, hc2, h⟩ := qB_of h
  refine g_Si (r := r1) (As := [iv x1]) (rest := []) (w := wM g ad o) E (c_X12_isRow l g (wM g ad o) x1 r1 hc2) okm_X12_isRow w_1703 w_1702 rfl rfl (Nat.le_of_ble_eq_true rfl) ⟨Nat.le_of_ble_eq_true rfl, Nat.le_of_ble_eq_true rfl⟩ gdX12_askedRow_1 ?_
  refine g_if_ne E 11 gdX12_askedRow_4 (by decide) h (fun h => ?_) (fun h => ?_)
  ·
    refine g_aload_n E gdX12_askedRow_11 rfl 0 rfl ?_
    refine g_get (T := TX12) E fw_X12 0 (wM_0 g ad o) rfl 5 (by decide) w_1471 rfl rfl gdX12_askedRow_12 ?_
    refine g_iload_n E gdX12_askedRow_15 rfl 1 rfl ?_
    obtain ⟨hi3, h⟩ := qIn_of h
    refine g_iald E 2 (wM_2 g ad o) (by decide) hi3 gdX12_askedRow_16 ?_
    obtain ⟨n4, e_n4, h⟩ := qNm_of h
    refine g_nmi e_n4 ?_
    refine g_if_ge E 28 gdX12_askedRow_17 (by decide) h (fun h => ?_) (fun h => ?_)
    ·
      refine g_iconst E gdX12_askedRow_28 ?_
      refine g_sub E [] rfl ?_
      exact j29 o 0 h
    ·
      refine g_aload_n E gdX12_askedRow_20 rfl 0 rfl ?_
      refine g_iconst E gdX12_askedRow_21 ?_
      obtain ⟨r5, o7, hc6, h⟩ := qB2_of h
      refine g_Vi (r := r5) (As := [iv 1]) (rest := []) (w := wM g ad o7) E (c_X12_meets l g ad o 1 (r5, o7) hc6) okm_X12_meets okw_X12_meets w_1708 rfl (wM_0 g ad o) rfl rfl (Nat.le_of_ble_eq_true rfl) ⟨Nat.le_of_ble_eq_true rfl, Nat.le_of_ble_eq_true rfl⟩ gdX12_askedRow_22 ?_
      refine g_goto E 29 gdX12_askedRow_25 (by decide) ?_
      refine g_sub E [] rfl ?_
      exact j29 o7 r5 h
  ·
    refine g_iconst E gdX12_askedRow_7 ?_
    refine g_goto E 29 gdX12_askedRow_8 (by decide) ?_
    refine g_sub E [] rfl ?_
    exact j29 o (-1) h
noncomputable def s_X12_lay (o : OO) (x1 : Int) (x2 : Int) (x3 : Int) : Option (Int × OO) := qB2 (s_X12_askedRow o x1) (fun r1 o3 => qLt r1 0 (some (r1, o3)) (qIn x1 6 (qNm (o3.1 2 x1.toNat) (fun n5 => qB (s_X12_in x2 0 (n5 - 1)) (fun r6 => qEq r6 0 (qB2 (s_X12_meets o3 2) (fun r13 o15 => some (r13, o15))) (qIn ((40 * x1) + x2) 240 (qNm (o3.1 3 ((40 * x1) + x2).toNat) (fun n9 => qNm (st1 o3 0 2 n9) (fun o10 => qIn ((40 * x1) + x2) 240 (qNm (st1 o10 3 (((40 * x1) + x2).toNat) x3) (fun o12 => some (1, o12))))))))))))
set_option maxHeartbeats 4000000 in
set_option maxRecDepth 100000 in
theorem c_X12_lay (l : Launch) (g : GG) (ad : Nat → Nat) (o : OO) (x1 : Int) (x2 : Int) (x3 : Int) (v : Int × OO) (h : s_X12_lay o x1 x2 x3 = some v) : CI l g yX12_lay cX12_lay 5 (some .int) 3 63 (wM g ad o) [.ref (ad 0), iv x1, iv x2, iv x3] v.1 (wM g ad v.2) := by
  refine met_I (by decide) (Nat.le_of_ble_eq_true rfl) ?_
  intro X E hQ
  show Go X 0 (wM g ad o) [(0, .ref (ad 0)), (1, iv x1), (2, iv x2), (3, iv x3)] []
  unfold s_X12_lay at h
  refine g_aload_n E gdX12_lay_0 rfl 0 rfl ?_
  refine g_iload_n E gdX12_lay_1 rfl 1 rfl ?_
  obtain ⟨r1, o3, hc2, h⟩ := qB2_of h
  refine g_Vi (r := r1) (As := [iv x1]) (rest := []) (w := wM g ad o3) E (c_X12_askedRow l g ad o x1 (r1, o3) hc2) okm_X12_askedRow okw_X12_askedRow w_1716 rfl (wM_0 g ad o) rfl rfl (Nat.le_of_ble_eq_true rfl) ⟨Nat.le_of_ble_eq_true rfl, Nat.le_of_ble_eq_true rfl⟩ gdX12_lay_2 ?_
  refine g_istore E [(4, iv r1), (0, .ref (ad 0)), (1, iv x1), (2, iv x2), (3, iv x3)] gdX12_lay_5 (by decide) rfl ?_
  refine g_iload E gdX12_lay_7 0 rfl ?_
  refine g_if_ge E 15 gdX12_lay_9 (by decide) h (fun h => ?_) (fun h => ?_)
  ·
    refine g_iload_n E gdX12_lay_15 rfl 3 rfl ?_
    refine g_iconst E gdX12_lay_16 ?_
    refine g_aload_n E gdX12_lay_17 rfl 1 rfl ?_
    refine g_get (T := TX12) E fw_X12 0 (wM_0 g ad o3) rfl 5 (by decide) w_1471 rfl rfl gdX12_lay_18 ?_
    refine g_iload_n E gdX12_lay_21 rfl 2 rfl ?_
    obtain ⟨hi4, h⟩ := qIn_of h
    refine g_iald E 2 (wM_2 g ad o3) (by decide) hi4 gdX12_lay_22 ?_
    obtain ⟨n5, e_n5, h⟩ := qNm_of h
    refine g_nmi e_n5 ?_
    refine g_iconst E gdX12_lay_23 ?_
    refine g_isub E gdX12_lay_24 ?_
    obtain ⟨r6, hc7, h⟩ := qB_of h
    refine g_Si (r := r6) (As := [iv x2, iv 0, iv (n5 - 1)]) (rest := []) (w := wM g ad o3) E (c_X12_in l g (wM g ad o3) x2 0 (n5 - 1) r6 hc7) okm_X12_in w_1706 w_1705 rfl rfl (Nat.le_of_ble_eq_true rfl) ⟨Nat.le_of_ble_eq_true rfl, Nat.le_of_ble_eq_true rfl⟩ gdX12_lay_25 ?_
    refine g_if_ne E 37 gdX12_lay_28 (by decide) h (fun h => ?_) (fun h => ?_)
    ·
      refine g_aload_n E gdX12_lay_37 rfl 1 rfl ?_
      refine g_aload_n E gdX12_lay_38 rfl 1 rfl ?_
      refine g_get (T := TX12) E fw_X12 0 (wM_0 g ad o3) rfl 6 (by decide) w_1472 rfl rfl gdX12_lay_39 ?_
      refine g_bipush E gdX12_lay_42 (by decide) ?_
      refine g_iload_n E gdX12_lay_44 rfl 2 rfl ?_
      refine g_imul E gdX12_lay_45 ?_
      refine g_iload_n E gdX12_lay_46 rfl 3 rfl ?_
      refine g_iadd E gdX12_lay_47 ?_
      obtain ⟨hi8, h⟩ := qIn_of h
      refine g_iald E 3 (wM_3 g ad o3) (by decide) hi8 gdX12_lay_48 ?_
      obtain ⟨n9, e_n9, h⟩ := qNm_of h
      refine g_nmi e_n9 ?_
      obtain ⟨o10, e_o10, h⟩ := qNm_of h
      refine g_puti (T := TX12) (ws' := wM g ad o10) E fw_X12 tyX12 tyX12_ok nmX12 0 (wM_0 g ad o3) rfl 2 (by decide) w_1468 rfl rfl (by decide +kernel) (Nat.le_of_ble_eq_true rfl) (by rw [e_o10]; exact wM_p0_2 g ad o3 _) gdX12_lay_49 ?_
      refine g_aload_n E gdX12_lay_52 rfl 1 rfl ?_
      refine g_get (T := TX12) E fw_X12 0 (wM_0 g ad o10) rfl 6 (by decide) w_1472 rfl rfl gdX12_lay_53 ?_
      refine g_bipush E gdX12_lay_56 (by decide) ?_
      refine g_iload_n E gdX12_lay_58 rfl 2 rfl ?_
      refine g_imul E gdX12_lay_59 ?_
      refine g_iload_n E gdX12_lay_60 rfl 3 rfl ?_
      refine g_iadd E gdX12_lay_61 ?_
      refine g_iload_n E gdX12_lay_62 rfl 4 rfl ?_
      obtain ⟨hi11, h⟩ := qIn_of h
      obtain ⟨o12, e_o12, h⟩ := qNm_of h
      refine g_iast (ws' := wM g ad o12) E 3 (wM_3 g ad o10) (by decide) hi11 (by rw [e_o12]; exact wM_s3 g ad o10 _ _) gdX12_lay_63 ?_
      refine g_iconst E gdX12_lay_64 ?_
      exact g_iret E hQ (by rw [← Option.some.inj h]) (by rw [← Option.some.inj h]) gdX12_lay_65
    ·
      refine g_aload_n E gdX12_lay_31 rfl 1 rfl ?_
      refine g_iconst E gdX12_lay_32 ?_
      obtain ⟨r13, o15, hc14, h⟩ := qB2_of h
      refine g_Vi (r := r13) (As := [iv 2]) (rest := []) (w := wM g ad o15) E (c_X12_meets l g ad o3 2 (r13, o15) hc14) okm_X12_meets okw_X12_meets w_1708 rfl (wM_0 g ad o3) rfl rfl (Nat.le_of_ble_eq_true rfl) ⟨Nat.le_of_ble_eq_true rfl, Nat.le_of_ble_eq_true rfl⟩ gdX12_lay_33 ?_
      exact g_iret E hQ (by rw [← Option.some.inj h]) (by rw [← Option.some.inj h]) gdX12_lay_36
  ·
    refine g_iload E gdX12_lay_12 0 rfl ?_
    exact g_iret E hQ (by rw [← Option.some.inj h]) (by rw [← Option.some.inj h]) gdX12_lay_14
noncomputable def s_X12_isText (x0 : Int) : Option (Int) := qB (s_X12_in x0 0 3) (fun r1 => qZ r1 (some r1))
set_option maxHeartbeats 4000000 in
set_option maxRecDepth 100000 in
theorem c_X12_isText (l : Launch) (g : GG) (ws : va_W) (x0 : Int) (v : Int) (h : s_X12_isText x0 = some v) : CI l g yX12_isText cX12_isText 1 (some .boolean) 1 22 ws [iv x0] v ws := by
  refine met_I (by decide) (Nat.le_of_ble_eq_true rfl) ?_
  intro X E hQ
  show Go X 0 ws [(0, iv x0)] []
  unfold s_X12_isText at h
  refine g_iload_n E gdX12_isText_0 rfl 0 rfl ?_
  refine g_iconst E gdX12_isText_1 ?_
  refine g_iconst E gdX12_isText_2 ?_
  obtain ⟨r1, hc2, h⟩ := qB_of h
  refine g_Si (r := r1) (As := [iv x0, iv 0, iv 3]) (rest := []) (w := ws) E (c_X12_in l g ws x0 0 3 r1 hc2) okm_X12_in w_1706 w_1705 rfl rfl (Nat.le_of_ble_eq_true rfl) ⟨Nat.le_of_ble_eq_true rfl, Nat.le_of_ble_eq_true rfl⟩ gdX12_isText_3 ?_
  obtain ⟨hz, h⟩ := qZ_of h
  exact g_zret E hQ hz (Option.some.inj h) rfl gdX12_isText_6
noncomputable def b_X12_askedText_29 (o : OO) (y0 : Int) : Option (Int × OO) := some (y0, o)
noncomputable def s_X12_askedText (o : OO) (x1 : Int) : Option (Int × OO) := qB (s_X12_isText x1) (fun r1 => qEq r1 0 (b_X12_askedText_29 o (-1)) (qIn x1 4 (qNm (o.1 5 x1.toNat) (fun n4 => qLt n4 0 (qB2 (s_X12_meets o 1) (fun r5 o7 => b_X12_askedText_29 o7 r5)) (b_X12_askedText_29 o 0)))))
set_option maxHeartbeats 4000000 in
set_option maxRecDepth 100000 in
theorem c_X12_askedText (l : Launch) (g : GG) (ad : Nat → Nat) (o : OO) (x1 : Int) (v : Int × OO) (h : s_X12_askedText o x1 = some v) : CI l g yX12_askedText cX12_askedText 2 (some .int) 2 42 (wM g ad o) [.ref (ad 0), iv x1] v.1 (wM g ad v.2) := by
  refine met_I (by decide) (Nat.le_of_ble_eq_true rfl) ?_
  intro X E hQ
  show Go X 0 (wM g ad o) [(0, .ref (ad 0)), (1, iv x1)] []
  have j29 : ∀ (o : OO) (y0 : Int), b_X12_askedText_29 o y0 = some v → Go X 29 (wM g ad o) [] [iv y0] := by
    intro o y0 h
    unfold b_X12_askedText_29 at h
    exact g_iret E hQ (by rw [← Option.some.inj h]) (by rw [← Option.some.inj h]) gdX12_askedText_29
  unfold s_X12_askedText at h
  refine g_iload_n E gdX12_askedText_0 rfl 1 rfl ?_
  obtain ⟨r1, hc2, h⟩ := qB_of h
  refine g_Si (r := r1) (As := [iv x1]) (rest := []) (w := wM g ad o) E (c_X12_isText l g (wM g ad o) x1 r1 hc2) okm_X12_isText w_1733 w_1732 rfl rfl (Nat.le_of_ble_eq_true rfl) ⟨Nat.le_of_ble_eq_true rfl, Nat.le_of_ble_eq_true rfl⟩ gdX12_askedText_1 ?_
  refine g_if_ne E 11 gdX12_askedText_4 (by decide) h (fun h => ?_) (fun h => ?_)
  ·
    refine g_aload_n E gdX12_askedText_11 rfl 0 rfl ?_
    refine g_get (T := TX12) E fw_X12 0 (wM_0 g ad o) rfl 8 (by decide) w_1474 rfl rfl gdX12_askedText_12 ?_
    refine g_iload_n E gdX12_askedText_15 rfl 1 rfl ?_
    obtain ⟨hi3, h⟩ := qIn_of h
    refine g_iald E 5 (wM_5 g ad o) (by decide) hi3 gdX12_askedText_16 ?_
    obtain ⟨n4, e_n4, h⟩ := qNm_of h
    refine g_nmi e_n4 ?_
    refine g_if_ge E 28 gdX12_askedText_17 (by decide) h (fun h => ?_) (fun h => ?_)
    ·
      refine g_iconst E gdX12_askedText_28 ?_
      refine g_sub E [] rfl ?_
      exact j29 o 0 h
    ·
      refine g_aload_n E gdX12_askedText_20 rfl 0 rfl ?_
      refine g_iconst E gdX12_askedText_21 ?_
      obtain ⟨r5, o7, hc6, h⟩ := qB2_of h
      refine g_Vi (r := r5) (As := [iv 1]) (rest := []) (w := wM g ad o7) E (c_X12_meets l g ad o 1 (r5, o7) hc6) okm_X12_meets okw_X12_meets w_1708 rfl (wM_0 g ad o) rfl rfl (Nat.le_of_ble_eq_true rfl) ⟨Nat.le_of_ble_eq_true rfl, Nat.le_of_ble_eq_true rfl⟩ gdX12_askedText_22 ?_
      refine g_goto E 29 gdX12_askedText_25 (by decide) ?_
      refine g_sub E [] rfl ?_
      exact j29 o7 r5 h
  ·
    refine g_iconst E gdX12_askedText_7 ?_
    refine g_goto E 29 gdX12_askedText_8 (by decide) ?_
    refine g_sub E [] rfl ?_
    exact j29 o (-1) h
noncomputable def s_X12_put (o : OO) (x1 : Int) (x2 : Int) (x3 : Int) : Option (Int × OO) := qB2 (s_X12_askedText o x1) (fun r1 o3 => qLt r1 0 (some (r1, o3)) (qIn x1 4 (qNm (o3.1 5 x1.toNat) (fun n5 => qB (s_X12_in x2 0 (n5 - 1)) (fun r6 => qEq r6 0 (qB2 (s_X12_meets o3 2) (fun r12 o14 => some (r12, o14))) (qIn ((40 * x1) + x2) 160 (qNm (o3.1 6 ((40 * x1) + x2).toNat) (fun n9 => qIn ((40 * x1) + x2) 160 (qNm (st1 o3 6 (((40 * x1) + x2).toNat) (jb x3)) (fun o11 => some (n9 + 1000, o11)))))))))))
set_option maxHeartbeats 4000000 in
set_option maxRecDepth 100000 in
theorem c_X12_put (l : Launch) (g : GG) (ad : Nat → Nat) (o : OO) (x1 : Int) (x2 : Int) (x3 : Int) (v : Int × OO) (h : s_X12_put o x1 x2 x3 = some v) : CI l g yX12_put cX12_put 6 (some .int) 3 63 (wM g ad o) [.ref (ad 0), iv x1, iv x2, iv x3] v.1 (wM g ad v.2) := by
  refine met_I (by decide) (Nat.le_of_ble_eq_true rfl) ?_
  intro X E hQ
  show Go X 0 (wM g ad o) [(0, .ref (ad 0)), (1, iv x1), (2, iv x2), (3, iv x3)] []
  unfold s_X12_put at h
  refine g_aload_n E gdX12_put_0 rfl 0 rfl ?_
  refine g_iload_n E gdX12_put_1 rfl 1 rfl ?_
  obtain ⟨r1, o3, hc2, h⟩ := qB2_of h
  refine g_Vi (r := r1) (As := [iv x1]) (rest := []) (w := wM g ad o3) E (c_X12_askedText l g ad o x1 (r1, o3) hc2) okm_X12_askedText okw_X12_askedText w_1739 rfl (wM_0 g ad o) rfl rfl (Nat.le_of_ble_eq_true rfl) ⟨Nat.le_of_ble_eq_true rfl, Nat.le_of_ble_eq_true rfl⟩ gdX12_put_2 ?_
  refine g_istore E [(4, iv r1), (0, .ref (ad 0)), (1, iv x1), (2, iv x2), (3, iv x3)] gdX12_put_5 (by decide) rfl ?_
  refine g_iload E gdX12_put_7 0 rfl ?_
  refine g_if_ge E 15 gdX12_put_9 (by decide) h (fun h => ?_) (fun h => ?_)
  ·
    refine g_iload_n E gdX12_put_15 rfl 3 rfl ?_
    refine g_iconst E gdX12_put_16 ?_
    refine g_aload_n E gdX12_put_17 rfl 1 rfl ?_
    refine g_get (T := TX12) E fw_X12 0 (wM_0 g ad o3) rfl 8 (by decide) w_1474 rfl rfl gdX12_put_18 ?_
    refine g_iload_n E gdX12_put_21 rfl 2 rfl ?_
    obtain ⟨hi4, h⟩ := qIn_of h
    refine g_iald E 5 (wM_5 g ad o3) (by decide) hi4 gdX12_put_22 ?_
    obtain ⟨n5, e_n5, h⟩ := qNm_of h
    refine g_nmi e_n5 ?_
    refine g_iconst E gdX12_put_23 ?_
    refine g_isub E gdX12_put_24 ?_
    obtain ⟨r6, hc7, h⟩ := qB_of h
    refine g_Si (r := r6) (As := [iv x2, iv 0, iv (n5 - 1)]) (rest := []) (w := wM g ad o3) E (c_X12_in l g (wM g ad o3) x2 0 (n5 - 1) r6 hc7) okm_X12_in w_1706 w_1705 rfl rfl (Nat.le_of_ble_eq_true rfl) ⟨Nat.le_of_ble_eq_true rfl, Nat.le_of_ble_eq_true rfl⟩ gdX12_put_25 ?_
    refine g_if_ne E 37 gdX12_put_28 (by decide) h (fun h => ?_) (fun h => ?_)
    ·
      refine g_aload_n E gdX12_put_37 rfl 1 rfl ?_
      refine g_get (T := TX12) E fw_X12 0 (wM_0 g ad o3) rfl 9 (by decide) w_1475 rfl rfl gdX12_put_38 ?_
      refine g_bipush E gdX12_put_41 (by decide) ?_
      refine g_iload_n E gdX12_put_43 rfl 2 rfl ?_
      refine g_imul E gdX12_put_44 ?_
      refine g_iload_n E gdX12_put_45 rfl 3 rfl ?_
      refine g_iadd E gdX12_put_46 ?_
      obtain ⟨hi8, h⟩ := qIn_of h
      refine g_iald E 6 (wM_6 g ad o3) (by decide) hi8 gdX12_put_47 ?_
      obtain ⟨n9, e_n9, h⟩ := qNm_of h
      refine g_nmi e_n9 ?_
      refine g_istore E [(5, iv n9), (4, iv r1), (0, .ref (ad 0)), (1, iv x1), (2, iv x2), (3, iv x3)] gdX12_put_48 (by decide) rfl ?_
      refine g_aload_n E gdX12_put_50 rfl 2 rfl ?_
      refine g_get (T := TX12) E fw_X12 0 (wM_0 g ad o3) rfl 9 (by decide) w_1475 rfl rfl gdX12_put_51 ?_
      refine g_bipush E gdX12_put_54 (by decide) ?_
      refine g_iload_n E gdX12_put_56 rfl 3 rfl ?_
      refine g_imul E gdX12_put_57 ?_
      refine g_iload_n E gdX12_put_58 rfl 4 rfl ?_
      refine g_iadd E gdX12_put_59 ?_
      refine g_iload_n E gdX12_put_60 rfl 5 rfl ?_
      refine g_i2b E gdX12_put_61 ?_
      obtain ⟨hi10, h⟩ := qIn_of h
      obtain ⟨o11, e_o11, h⟩ := qNm_of h
      refine g_iast (ws' := wM g ad o11) E 6 (wM_6 g ad o3) (by decide) hi10 (by rw [e_o11]; exact wM_s6 g ad o3 _ _) gdX12_put_62 ?_
      refine g_iload E gdX12_put_63 0 rfl ?_
      refine g_sipush E gdX12_put_65 (by decide) ?_
      refine g_iadd E gdX12_put_68 ?_
      exact g_iret E hQ (by rw [← Option.some.inj h]) (by rw [← Option.some.inj h]) gdX12_put_69
    ·
      refine g_aload_n E gdX12_put_31 rfl 1 rfl ?_
      refine g_iconst E gdX12_put_32 ?_
      obtain ⟨r12, o14, hc13, h⟩ := qB2_of h
      refine g_Vi (r := r12) (As := [iv 2]) (rest := []) (w := wM g ad o14) E (c_X12_meets l g ad o3 2 (r12, o14) hc13) okm_X12_meets okw_X12_meets w_1708 rfl (wM_0 g ad o3) rfl rfl (Nat.le_of_ble_eq_true rfl) ⟨Nat.le_of_ble_eq_true rfl, Nat.le_of_ble_eq_true rfl⟩ gdX12_put_33 ?_
      exact g_iret E hQ (by rw [← Option.some.inj h]) (by rw [← Option.some.inj h]) gdX12_put_36
  ·
    refine g_iload E gdX12_put_12 0 rfl ?_
    exact g_iret E hQ (by rw [← Option.some.inj h]) (by rw [← Option.some.inj h]) gdX12_put_14
