set_option maxRecDepth 200000 in
theorem q_1707 : Cond.code yX12_in cX12_in 3 (some .boolean) ∈ tb := tb_mem 1707 (by rfl) rfl
set_option maxRecDepth 200000 in
theorem q_103 : Cond.initialized "CityRoadModel" ∈ tb := tb_mem 103 (by decide +kernel) rfl
set_option maxRecDepth 200000 in
theorem q_1706 : Cond.static yX12_in ∈ tb := tb_mem 1706 (by decide +kernel) rfl
set_option maxRecDepth 200000 in
theorem q_1705 : Cond.methodLink "CityRoadModel" 208 yX12_in ∈ tb := tb_mem 1705 (by decide +kernel) rfl
set_option maxRecDepth 200000 in
theorem q_1802 : Cond.constant "CityRoadModel" 266 (100000) ∈ tb := tb_mem 1802 (by decide +kernel) rfl
set_option maxRecDepth 200000 in
theorem q_1466 : Cond.fieldLink "CityRoadModel" 202 "CityRoadModel" "finding" "I" ∈ tb := tb_mem 1466 (by decide +kernel) rfl
set_option maxRecDepth 200000 in
theorem q_1704 : Cond.code yX12_isRow cX12_isRow 1 (some .boolean) ∈ tb := tb_mem 1704 (by rfl) rfl
set_option maxRecDepth 200000 in
theorem q_1703 : Cond.static yX12_isRow ∈ tb := tb_mem 1703 (by decide +kernel) rfl
set_option maxRecDepth 200000 in
theorem q_1702 : Cond.methodLink "CityRoadModel" 212 yX12_isRow ∈ tb := tb_mem 1702 (by decide +kernel) rfl
set_option maxRecDepth 200000 in
theorem q_1711 : Cond.code yX12_meets cX12_meets 2 (some .int) ∈ tb := tb_mem 1711 (by rfl) rfl
set_option maxRecDepth 200000 in
theorem q_1710 : Cond.instanceMethod yX12_meets ∈ tb := tb_mem 1710 (by decide +kernel) rfl
set_option maxRecDepth 200000 in
theorem q_37 : Cond.selects "CityRoadModel" yX12_meets yX12_meets ∈ tb := tb_mem 37 (by decide +kernel) rfl
set_option maxRecDepth 200000 in
theorem q_1708 : Cond.methodLink "CityRoadModel" 216 yX12_meets ∈ tb := tb_mem 1708 (by decide +kernel) rfl
set_option maxRecDepth 200000 in
theorem q_1734 : Cond.code yX12_isText cX12_isText 1 (some .boolean) ∈ tb := tb_mem 1734 (by rfl) rfl
set_option maxRecDepth 200000 in
theorem q_1733 : Cond.static yX12_isText ∈ tb := tb_mem 1733 (by decide +kernel) rfl
set_option maxRecDepth 200000 in
theorem q_1732 : Cond.methodLink "CityRoadModel" 220 yX12_isText ∈ tb := tb_mem 1732 (by decide +kernel) rfl
set_option maxRecDepth 200000 in
theorem q_1483 : Cond.fieldLink "CityRoadModel" 254 "CityRoadModel" "buildings" "I" ∈ tb := tb_mem 1483 (by decide +kernel) rfl
set_option maxRecDepth 200000 in
theorem q_1493 : Cond.fieldLink "CityRoadModel" 281 "CityRoadModel" "persons" "I" ∈ tb := tb_mem 1493 (by decide +kernel) rfl
set_option maxRecDepth 200000 in
theorem q_1498 : Cond.fieldLink "CityRoadModel" 305 "CityRoadModel" "marks" "I" ∈ tb := tb_mem 1498 (by decide +kernel) rfl
set_option maxRecDepth 200000 in
theorem q_1476 : Cond.fieldLink "CityRoadModel" 241 "CityRoadModel" "rules" "I" ∈ tb := tb_mem 1476 (by decide +kernel) rfl
set_option maxRecDepth 200000 in
theorem q_1764 : Cond.code yX12_isDay cX12_isDay 1 (some .boolean) ∈ tb := tb_mem 1764 (by rfl) rfl
set_option maxRecDepth 200000 in
theorem q_1763 : Cond.static yX12_isDay ∈ tb := tb_mem 1763 (by decide +kernel) rfl
set_option maxRecDepth 200000 in
theorem q_1762 : Cond.methodLink "CityRoadModel" 238 yX12_isDay ∈ tb := tb_mem 1762 (by decide +kernel) rfl
set_option maxRecDepth 200000 in
theorem q_1906 : Cond.code yX12_isMark cX12_isMark 2 (some .boolean) ∈ tb := tb_mem 1906 (by rfl) rfl
set_option maxRecDepth 200000 in
theorem q_1905 : Cond.instanceMethod yX12_isMark ∈ tb := tb_mem 1905 (by decide +kernel) rfl
set_option maxRecDepth 200000 in
theorem q_60 : Cond.selects "CityRoadModel" yX12_isMark yX12_isMark ∈ tb := tb_mem 60 (by decide +kernel) rfl
set_option maxRecDepth 200000 in
theorem q_1903 : Cond.methodLink "CityRoadModel" 308 yX12_isMark ∈ tb := tb_mem 1903 (by decide +kernel) rfl
set_option maxRecDepth 200000 in
theorem q_1470 : Cond.fieldLink "CityRoadModel" 229 "CityRoadModel" "today" "I" ∈ tb := tb_mem 1470 (by decide +kernel) rfl
set_option maxRecDepth 200000 in
theorem q_1489 : Cond.fieldLink "CityRoadModel" 263 "CityRoadModel" "tellings" "I" ∈ tb := tb_mem 1489 (by decide +kernel) rfl
theorem dX12_in_0 : decode cX12_in 0 = .ok (.iload_n 0, 1) := by decide +kernel
theorem dX12_in_1 : decode cX12_in 1 = .ok (.iload_n 1, 1) := by decide +kernel
theorem dX12_in_2 : decode cX12_in 2 = .ok (.if_icmp .lt 12, 3) := by decide +kernel
theorem dX12_in_14 : decode cX12_in 14 = .ok (.iconst 0, 1) := by decide +kernel
theorem dX12_in_15 : decode cX12_in 15 = .ok (.ireturn, 1) := by decide +kernel
theorem dX12_in_5 : decode cX12_in 5 = .ok (.iload_n 0, 1) := by decide +kernel
theorem dX12_in_6 : decode cX12_in 6 = .ok (.iload_n 2, 1) := by decide +kernel
theorem dX12_in_7 : decode cX12_in 7 = .ok (.if_icmp .gt 7, 3) := by decide +kernel
theorem dX12_in_10 : decode cX12_in 10 = .ok (.iconst 1, 1) := by decide +kernel
theorem dX12_in_11 : decode cX12_in 11 = .ok (.goto 4, 3) := by decide +kernel
theorem dX12_isDay_0 : decode cX12_isDay 0 = .ok (.iload_n 0, 1) := by decide +kernel
theorem dX12_isDay_1 : decode cX12_isDay 1 = .ok (.iconst 0, 1) := by decide +kernel
theorem dX12_isDay_2 : decode cX12_isDay 2 = .ok (.sipush 999, 3) := by decide +kernel
theorem dX12_isDay_5 : decode cX12_isDay 5 = .ok (.invokestatic 208, 3) := by decide +kernel
theorem dX12_isDay_8 : decode cX12_isDay 8 = .ok (.ireturn, 1) := by decide +kernel
theorem dX12_isCell_0 : decode cX12_isCell 0 = .ok (.iload_n 0, 1) := by decide +kernel
theorem dX12_isCell_1 : decode cX12_isCell 1 = .ok (.iconst 0, 1) := by decide +kernel
theorem dX12_isCell_2 : decode cX12_isCell 2 = .ok (.bipush 63, 2) := by decide +kernel
theorem dX12_isCell_4 : decode cX12_isCell 4 = .ok (.invokestatic 208, 3) := by decide +kernel
theorem dX12_isCell_7 : decode cX12_isCell 7 = .ok (.ireturn, 1) := by decide +kernel
theorem dX12_isRow_0 : decode cX12_isRow 0 = .ok (.iload_n 0, 1) := by decide +kernel
theorem dX12_isRow_1 : decode cX12_isRow 1 = .ok (.iconst 0, 1) := by decide +kernel
theorem dX12_isRow_2 : decode cX12_isRow 2 = .ok (.iconst 5, 1) := by decide +kernel
theorem dX12_isRow_3 : decode cX12_isRow 3 = .ok (.invokestatic 208, 3) := by decide +kernel
theorem dX12_isRow_6 : decode cX12_isRow 6 = .ok (.ireturn, 1) := by decide +kernel
theorem dX12_isText_0 : decode cX12_isText 0 = .ok (.iload_n 0, 1) := by decide +kernel
theorem dX12_isText_1 : decode cX12_isText 1 = .ok (.iconst 0, 1) := by decide +kernel
theorem dX12_isText_2 : decode cX12_isText 2 = .ok (.iconst 3, 1) := by decide +kernel
theorem dX12_isText_3 : decode cX12_isText 3 = .ok (.invokestatic 208, 3) := by decide +kernel
theorem dX12_isText_6 : decode cX12_isText 6 = .ok (.ireturn, 1) := by decide +kernel
theorem dX12_isWorth_0 : decode cX12_isWorth 0 = .ok (.iload_n 0, 1) := by decide +kernel
theorem dX12_isWorth_1 : decode cX12_isWorth 1 = .ok (.iconst 1, 1) := by decide +kernel
theorem dX12_isWorth_2 : decode cX12_isWorth 2 = .ok (.ldc_w 266, 3) := by decide +kernel
theorem dX12_isWorth_5 : decode cX12_isWorth 5 = .ok (.invokestatic 208, 3) := by decide +kernel
theorem dX12_isWorth_8 : decode cX12_isWorth 8 = .ok (.ireturn, 1) := by decide +kernel
theorem dX12_meets_0 : decode cX12_meets 0 = .ok (.aload_n 0, 1) := by decide +kernel
theorem dX12_meets_1 : decode cX12_meets 1 = .ok (.iload_n 1, 1) := by decide +kernel
theorem dX12_meets_2 : decode cX12_meets 2 = .ok (.putfield 202, 3) := by decide +kernel
theorem dX12_meets_5 : decode cX12_meets 5 = .ok (.aload_n 0, 1) := by decide +kernel
theorem dX12_meets_6 : decode cX12_meets 6 = .ok (.getfield 7, 3) := by decide +kernel
theorem dX12_meets_9 : decode cX12_meets 9 = .ok (.iload_n 1, 1) := by decide +kernel
theorem dX12_meets_10 : decode cX12_meets 10 = .ok (.dup2, 1) := by decide +kernel
theorem dX12_meets_11 : decode cX12_meets 11 = .ok (.iaload, 1) := by decide +kernel
theorem dX12_meets_12 : decode cX12_meets 12 = .ok (.iconst 1, 1) := by decide +kernel
theorem dX12_meets_13 : decode cX12_meets 13 = .ok (.iadd, 1) := by decide +kernel
theorem dX12_meets_14 : decode cX12_meets 14 = .ok (.iastore, 1) := by decide +kernel
theorem dX12_meets_15 : decode cX12_meets 15 = .ok (.bipush (-3), 2) := by decide +kernel
theorem dX12_meets_17 : decode cX12_meets 17 = .ok (.ireturn, 1) := by decide +kernel
theorem dX12_askedRow_0 : decode cX12_askedRow 0 = .ok (.iload_n 1, 1) := by decide +kernel
theorem dX12_askedRow_1 : decode cX12_askedRow 1 = .ok (.invokestatic 212, 3) := by decide +kernel
theorem dX12_askedRow_4 : decode cX12_askedRow 4 = .ok (.ifCond .ne 7, 3) := by decide +kernel
theorem dX12_askedRow_7 : decode cX12_askedRow 7 = .ok (.iconst (-1), 1) := by decide +kernel
theorem dX12_askedRow_8 : decode cX12_askedRow 8 = .ok (.goto 21, 3) := by decide +kernel
theorem dX12_askedRow_29 : decode cX12_askedRow 29 = .ok (.ireturn, 1) := by decide +kernel
theorem dX12_askedRow_11 : decode cX12_askedRow 11 = .ok (.aload_n 0, 1) := by decide +kernel
theorem dX12_askedRow_12 : decode cX12_askedRow 12 = .ok (.getfield 13, 3) := by decide +kernel
theorem dX12_askedRow_15 : decode cX12_askedRow 15 = .ok (.iload_n 1, 1) := by decide +kernel
theorem dX12_askedRow_16 : decode cX12_askedRow 16 = .ok (.iaload, 1) := by decide +kernel
theorem dX12_askedRow_17 : decode cX12_askedRow 17 = .ok (.ifCond .ge 11, 3) := by decide +kernel
theorem dX12_askedRow_20 : decode cX12_askedRow 20 = .ok (.aload_n 0, 1) := by decide +kernel
theorem dX12_askedRow_21 : decode cX12_askedRow 21 = .ok (.iconst 1, 1) := by decide +kernel
theorem dX12_askedRow_22 : decode cX12_askedRow 22 = .ok (.invokevirtual 216, 3) := by decide +kernel
theorem dX12_askedRow_25 : decode cX12_askedRow 25 = .ok (.goto 4, 3) := by decide +kernel
theorem dX12_askedText_0 : decode cX12_askedText 0 = .ok (.iload_n 1, 1) := by decide +kernel
theorem dX12_askedText_1 : decode cX12_askedText 1 = .ok (.invokestatic 220, 3) := by decide +kernel
theorem dX12_askedText_4 : decode cX12_askedText 4 = .ok (.ifCond .ne 7, 3) := by decide +kernel
theorem dX12_askedText_7 : decode cX12_askedText 7 = .ok (.iconst (-1), 1) := by decide +kernel
theorem dX12_askedText_8 : decode cX12_askedText 8 = .ok (.goto 21, 3) := by decide +kernel
theorem dX12_askedText_29 : decode cX12_askedText 29 = .ok (.ireturn, 1) := by decide +kernel
theorem dX12_askedText_11 : decode cX12_askedText 11 = .ok (.aload_n 0, 1) := by decide +kernel
theorem dX12_askedText_12 : decode cX12_askedText 12 = .ok (.getfield 22, 3) := by decide +kernel
theorem dX12_askedText_15 : decode cX12_askedText 15 = .ok (.iload_n 1, 1) := by decide +kernel
theorem dX12_askedText_16 : decode cX12_askedText 16 = .ok (.iaload, 1) := by decide +kernel
theorem dX12_askedText_17 : decode cX12_askedText 17 = .ok (.ifCond .ge 11, 3) := by decide +kernel
theorem dX12_askedText_20 : decode cX12_askedText 20 = .ok (.aload_n 0, 1) := by decide +kernel
theorem dX12_askedText_21 : decode cX12_askedText 21 = .ok (.iconst 1, 1) := by decide +kernel
theorem dX12_askedText_22 : decode cX12_askedText 22 = .ok (.invokevirtual 216, 3) := by decide +kernel
theorem dX12_askedText_25 : decode cX12_askedText 25 = .ok (.goto 4, 3) := by decide +kernel
theorem dX12_isBuilding_0 : decode cX12_isBuilding 0 = .ok (.iload_n 1, 1) := by decide +kernel
theorem dX12_isBuilding_1 : decode cX12_isBuilding 1 = .ok (.iconst 0, 1) := by decide +kernel
theorem dX12_isBuilding_2 : decode cX12_isBuilding 2 = .ok (.aload_n 0, 1) := by decide +kernel
theorem dX12_isBuilding_3 : decode cX12_isBuilding 3 = .ok (.getfield 254, 3) := by decide +kernel
theorem dX12_isBuilding_6 : decode cX12_isBuilding 6 = .ok (.iconst 1, 1) := by decide +kernel
theorem dX12_isBuilding_7 : decode cX12_isBuilding 7 = .ok (.isub, 1) := by decide +kernel
theorem dX12_isBuilding_8 : decode cX12_isBuilding 8 = .ok (.invokestatic 208, 3) := by decide +kernel
theorem dX12_isBuilding_11 : decode cX12_isBuilding 11 = .ok (.ireturn, 1) := by decide +kernel
theorem dX12_isPerson_0 : decode cX12_isPerson 0 = .ok (.iload_n 1, 1) := by decide +kernel
theorem dX12_isPerson_1 : decode cX12_isPerson 1 = .ok (.iconst 0, 1) := by decide +kernel
theorem dX12_isPerson_2 : decode cX12_isPerson 2 = .ok (.aload_n 0, 1) := by decide +kernel
theorem dX12_isPerson_3 : decode cX12_isPerson 3 = .ok (.getfield 281, 3) := by decide +kernel
theorem dX12_isPerson_6 : decode cX12_isPerson 6 = .ok (.iconst 1, 1) := by decide +kernel
theorem dX12_isPerson_7 : decode cX12_isPerson 7 = .ok (.isub, 1) := by decide +kernel
theorem dX12_isPerson_8 : decode cX12_isPerson 8 = .ok (.invokestatic 208, 3) := by decide +kernel
theorem dX12_isPerson_11 : decode cX12_isPerson 11 = .ok (.ireturn, 1) := by decide +kernel
theorem dX12_isMark_0 : decode cX12_isMark 0 = .ok (.iload_n 1, 1) := by decide +kernel
theorem dX12_isMark_1 : decode cX12_isMark 1 = .ok (.iconst 0, 1) := by decide +kernel
theorem dX12_isMark_2 : decode cX12_isMark 2 = .ok (.aload_n 0, 1) := by decide +kernel
theorem dX12_isMark_3 : decode cX12_isMark 3 = .ok (.getfield 305, 3) := by decide +kernel
theorem dX12_isMark_6 : decode cX12_isMark 6 = .ok (.iconst 1, 1) := by decide +kernel
theorem dX12_isMark_7 : decode cX12_isMark 7 = .ok (.isub, 1) := by decide +kernel
theorem dX12_isMark_8 : decode cX12_isMark 8 = .ok (.invokestatic 208, 3) := by decide +kernel
theorem dX12_isMark_11 : decode cX12_isMark 11 = .ok (.ireturn, 1) := by decide +kernel
theorem dX12_on_0 : decode cX12_on 0 = .ok (.bipush (-9), 2) := by decide +kernel
theorem dX12_on_2 : decode cX12_on 2 = .ok (.istore_n 2, 1) := by decide +kernel
theorem dX12_on_3 : decode cX12_on 3 = .ok (.iconst 0, 1) := by decide +kernel
theorem dX12_on_4 : decode cX12_on 4 = .ok (.istore_n 3, 1) := by decide +kernel
theorem dX12_on_5 : decode cX12_on 5 = .ok (.iload_n 3, 1) := by decide +kernel
theorem dX12_on_6 : decode cX12_on 6 = .ok (.aload_n 0, 1) := by decide +kernel
theorem dX12_on_7 : decode cX12_on 7 = .ok (.getfield 254, 3) := by decide +kernel
theorem dX12_on_10 : decode cX12_on 10 = .ok (.if_icmp .ge 34, 3) := by decide +kernel
theorem dX12_on_44 : decode cX12_on 44 = .ok (.iload_n 2, 1) := by decide +kernel
theorem dX12_on_45 : decode cX12_on 45 = .ok (.ireturn, 1) := by decide +kernel
theorem dX12_ruleFor_0 : decode cX12_ruleFor 0 = .ok (.bipush (-9), 2) := by decide +kernel
theorem dX12_ruleFor_2 : decode cX12_ruleFor 2 = .ok (.istore 4, 2) := by decide +kernel
theorem dX12_ruleFor_4 : decode cX12_ruleFor 4 = .ok (.iconst 0, 1) := by decide +kernel
theorem dX12_ruleFor_5 : decode cX12_ruleFor 5 = .ok (.istore 5, 2) := by decide +kernel
theorem dX12_ruleFor_7 : decode cX12_ruleFor 7 = .ok (.iload 5, 2) := by decide +kernel
theorem dX12_ruleFor_9 : decode cX12_ruleFor 9 = .ok (.aload_n 0, 1) := by decide +kernel
theorem dX12_ruleFor_10 : decode cX12_ruleFor 10 = .ok (.getfield 241, 3) := by decide +kernel
theorem dX12_ruleFor_13 : decode cX12_ruleFor 13 = .ok (.if_icmp .ge 89, 3) := by decide +kernel
theorem dX12_ruleFor_102 : decode cX12_ruleFor 102 = .ok (.iload 4, 2) := by decide +kernel
theorem dX12_ruleFor_104 : decode cX12_ruleFor 104 = .ok (.ireturn, 1) := by decide +kernel
theorem dX12_isAsked_0 : decode cX12_isAsked 0 = .ok (.iload_n 0, 1) := by decide +kernel
theorem dX12_isAsked_1 : decode cX12_isAsked 1 = .ok (.iconst 0, 1) := by decide +kernel
theorem dX12_isAsked_2 : decode cX12_isAsked 2 = .ok (.bipush 7, 2) := by decide +kernel
theorem dX12_isAsked_4 : decode cX12_isAsked 4 = .ok (.invokestatic 208, 3) := by decide +kernel
theorem dX12_isAsked_7 : decode cX12_isAsked 7 = .ok (.ifCond .eq 21, 3) := by decide +kernel
theorem dX12_isAsked_28 : decode cX12_isAsked 28 = .ok (.iconst 0, 1) := by decide +kernel
theorem dX12_isAsked_29 : decode cX12_isAsked 29 = .ok (.ireturn, 1) := by decide +kernel
theorem dX12_isAsked_10 : decode cX12_isAsked 10 = .ok (.iload_n 1, 1) := by decide +kernel
theorem dX12_isAsked_11 : decode cX12_isAsked 11 = .ok (.invokestatic 238, 3) := by decide +kernel
theorem dX12_isAsked_14 : decode cX12_isAsked 14 = .ok (.ifCond .eq 14, 3) := by decide +kernel
theorem dX12_isAsked_17 : decode cX12_isAsked 17 = .ok (.iload_n 2, 1) := by decide +kernel
theorem dX12_isAsked_18 : decode cX12_isAsked 18 = .ok (.invokestatic 238, 3) := by decide +kernel
theorem dX12_isAsked_21 : decode cX12_isAsked 21 = .ok (.ifCond .eq 7, 3) := by decide +kernel
theorem dX12_isAsked_24 : decode cX12_isAsked 24 = .ok (.iconst 1, 1) := by decide +kernel
theorem dX12_isAsked_25 : decode cX12_isAsked 25 = .ok (.goto 4, 3) := by decide +kernel
theorem dX12_askedLine_0 : decode cX12_askedLine 0 = .ok (.aload_n 0, 1) := by decide +kernel
theorem dX12_askedLine_1 : decode cX12_askedLine 1 = .ok (.iload_n 1, 1) := by decide +kernel
theorem dX12_askedLine_2 : decode cX12_askedLine 2 = .ok (.invokevirtual 308, 3) := by decide +kernel
theorem dX12_askedLine_5 : decode cX12_askedLine 5 = .ok (.ifCond .ne 7, 3) := by decide +kernel
theorem dX12_askedLine_8 : decode cX12_askedLine 8 = .ok (.iconst (-1), 1) := by decide +kernel
theorem dX12_askedLine_9 : decode cX12_askedLine 9 = .ok (.goto 20, 3) := by decide +kernel
theorem dX12_askedLine_29 : decode cX12_askedLine 29 = .ok (.ireturn, 1) := by decide +kernel
theorem dX12_enter_0 : decode cX12_enter 0 = .ok (.aload_n 0, 1) := by decide +kernel
theorem dX12_enter_1 : decode cX12_enter 1 = .ok (.getfield 83, 3) := by decide +kernel
theorem dX12_enter_4 : decode cX12_enter 4 = .ok (.aload_n 0, 1) := by decide +kernel
theorem dX12_enter_5 : decode cX12_enter 5 = .ok (.getfield 305, 3) := by decide +kernel
theorem dX12_enter_8 : decode cX12_enter 8 = .ok (.iload_n 1, 1) := by decide +kernel
theorem dX12_enter_9 : decode cX12_enter 9 = .ok (.iastore, 1) := by decide +kernel
theorem dX12_enter_10 : decode cX12_enter 10 = .ok (.aload_n 0, 1) := by decide +kernel
theorem dX12_enter_11 : decode cX12_enter 11 = .ok (.getfield 86, 3) := by decide +kernel
theorem dX12_enter_14 : decode cX12_enter 14 = .ok (.aload_n 0, 1) := by decide +kernel
theorem dX12_enter_15 : decode cX12_enter 15 = .ok (.getfield 305, 3) := by decide +kernel
theorem dX12_enter_18 : decode cX12_enter 18 = .ok (.aload_n 0, 1) := by decide +kernel
theorem dX12_enter_19 : decode cX12_enter 19 = .ok (.getfield 229, 3) := by decide +kernel
theorem dX12_enter_22 : decode cX12_enter 22 = .ok (.iastore, 1) := by decide +kernel
theorem dX12_enter_23 : decode cX12_enter 23 = .ok (.aload_n 0, 1) := by decide +kernel
theorem dX12_enter_24 : decode cX12_enter 24 = .ok (.getfield 89, 3) := by decide +kernel
theorem dX12_enter_27 : decode cX12_enter 27 = .ok (.aload_n 0, 1) := by decide +kernel
theorem dX12_enter_28 : decode cX12_enter 28 = .ok (.getfield 305, 3) := by decide +kernel
theorem dX12_enter_31 : decode cX12_enter 31 = .ok (.iload_n 2, 1) := by decide +kernel
theorem dX12_enter_32 : decode cX12_enter 32 = .ok (.iastore, 1) := by decide +kernel
theorem dX12_enter_33 : decode cX12_enter 33 = .ok (.aload_n 0, 1) := by decide +kernel
theorem dX12_enter_34 : decode cX12_enter 34 = .ok (.getfield 95, 3) := by decide +kernel
theorem dX12_enter_37 : decode cX12_enter 37 = .ok (.aload_n 0, 1) := by decide +kernel
theorem dX12_enter_38 : decode cX12_enter 38 = .ok (.getfield 305, 3) := by decide +kernel
theorem dX12_enter_41 : decode cX12_enter 41 = .ok (.bipush (-9), 2) := by decide +kernel
theorem dX12_enter_43 : decode cX12_enter 43 = .ok (.iastore, 1) := by decide +kernel
theorem dX12_enter_44 : decode cX12_enter 44 = .ok (.aload_n 0, 1) := by decide +kernel
theorem dX12_enter_45 : decode cX12_enter 45 = .ok (.getfield 98, 3) := by decide +kernel
theorem dX12_enter_48 : decode cX12_enter 48 = .ok (.aload_n 0, 1) := by decide +kernel
theorem dX12_enter_49 : decode cX12_enter 49 = .ok (.getfield 305, 3) := by decide +kernel
theorem dX12_enter_52 : decode cX12_enter 52 = .ok (.iconst 0, 1) := by decide +kernel
theorem dX12_enter_53 : decode cX12_enter 53 = .ok (.iastore, 1) := by decide +kernel
theorem dX12_enter_54 : decode cX12_enter 54 = .ok (.aload_n 0, 1) := by decide +kernel
theorem dX12_enter_55 : decode cX12_enter 55 = .ok (.dup, 1) := by decide +kernel
theorem dX12_enter_56 : decode cX12_enter 56 = .ok (.getfield 305, 3) := by decide +kernel
theorem dX12_enter_59 : decode cX12_enter 59 = .ok (.iconst 1, 1) := by decide +kernel
theorem dX12_enter_60 : decode cX12_enter 60 = .ok (.iadd, 1) := by decide +kernel
theorem dX12_enter_61 : decode cX12_enter 61 = .ok (.putfield 305, 3) := by decide +kernel
theorem dX12_enter_64 : decode cX12_enter 64 = .ok (.aload_n 0, 1) := by decide +kernel
theorem dX12_enter_65 : decode cX12_enter 65 = .ok (.getfield 305, 3) := by decide +kernel
theorem dX12_enter_68 : decode cX12_enter 68 = .ok (.iconst 1, 1) := by decide +kernel
theorem dX12_enter_69 : decode cX12_enter 69 = .ok (.isub, 1) := by decide +kernel
theorem dX12_enter_70 : decode cX12_enter 70 = .ok (.ireturn, 1) := by decide +kernel
theorem dX12_askedWeights_0 : decode cX12_askedWeights 0 = .ok (.aload_n 0, 1) := by decide +kernel
theorem dX12_askedWeights_1 : decode cX12_askedWeights 1 = .ok (.getfield 13, 3) := by decide +kernel
theorem dX12_askedWeights_4 : decode cX12_askedWeights 4 = .ok (.iload_n 1, 1) := by decide +kernel
theorem dX12_askedWeights_5 : decode cX12_askedWeights 5 = .ok (.iaload, 1) := by decide +kernel
theorem dX12_askedWeights_6 : decode cX12_askedWeights 6 = .ok (.ifCond .lt 12, 3) := by decide +kernel
theorem dX12_askedWeights_18 : decode cX12_askedWeights 18 = .ok (.aload_n 0, 1) := by decide +kernel
theorem dX12_askedWeights_19 : decode cX12_askedWeights 19 = .ok (.iconst 1, 1) := by decide +kernel
theorem dX12_askedWeights_20 : decode cX12_askedWeights 20 = .ok (.invokevirtual 216, 3) := by decide +kernel
theorem dX12_askedWeights_23 : decode cX12_askedWeights 23 = .ok (.ireturn, 1) := by decide +kernel
theorem dX12_tell_0 : decode cX12_tell 0 = .ok (.aload_n 0, 1) := by decide +kernel
theorem dX12_tell_1 : decode cX12_tell 1 = .ok (.getfield 62, 3) := by decide +kernel
theorem dX12_tell_4 : decode cX12_tell 4 = .ok (.aload_n 0, 1) := by decide +kernel
theorem dX12_tell_5 : decode cX12_tell 5 = .ok (.getfield 263, 3) := by decide +kernel
theorem dX12_tell_8 : decode cX12_tell 8 = .ok (.iload_n 1, 1) := by decide +kernel
theorem dX12_tell_9 : decode cX12_tell 9 = .ok (.iastore, 1) := by decide +kernel
theorem dX12_tell_10 : decode cX12_tell 10 = .ok (.aload_n 0, 1) := by decide +kernel
theorem dX12_tell_11 : decode cX12_tell 11 = .ok (.getfield 65, 3) := by decide +kernel
theorem dX12_tell_14 : decode cX12_tell 14 = .ok (.aload_n 0, 1) := by decide +kernel
theorem dX12_tell_15 : decode cX12_tell 15 = .ok (.getfield 263, 3) := by decide +kernel
theorem dX12_tell_18 : decode cX12_tell 18 = .ok (.aload_n 0, 1) := by decide +kernel
theorem dX12_tell_19 : decode cX12_tell 19 = .ok (.getfield 229, 3) := by decide +kernel
theorem dX12_tell_22 : decode cX12_tell 22 = .ok (.iastore, 1) := by decide +kernel
theorem dX12_tell_23 : decode cX12_tell 23 = .ok (.aload_n 0, 1) := by decide +kernel
theorem dX12_tell_24 : decode cX12_tell 24 = .ok (.getfield 68, 3) := by decide +kernel
theorem dX12_tell_27 : decode cX12_tell 27 = .ok (.aload_n 0, 1) := by decide +kernel
theorem dX12_tell_28 : decode cX12_tell 28 = .ok (.getfield 263, 3) := by decide +kernel
theorem dX12_tell_31 : decode cX12_tell 31 = .ok (.iload_n 2, 1) := by decide +kernel
theorem dX12_tell_32 : decode cX12_tell 32 = .ok (.iastore, 1) := by decide +kernel
theorem dX12_tell_33 : decode cX12_tell 33 = .ok (.aload_n 0, 1) := by decide +kernel
theorem dX12_tell_34 : decode cX12_tell 34 = .ok (.dup, 1) := by decide +kernel
theorem dX12_tell_35 : decode cX12_tell 35 = .ok (.getfield 263, 3) := by decide +kernel
theorem dX12_tell_38 : decode cX12_tell 38 = .ok (.iconst 1, 1) := by decide +kernel
theorem dX12_tell_39 : decode cX12_tell 39 = .ok (.iadd, 1) := by decide +kernel
theorem dX12_tell_40 : decode cX12_tell 40 = .ok (.putfield 263, 3) := by decide +kernel
theorem dX12_tell_43 : decode cX12_tell 43 = .ok (.return_, 1) := by decide +kernel
theorem ok_X12_in : okM yX12_in cX12_in 3 (some .boolean) 3 := ⟨q_1707, q_103, by decide +kernel, by decide +kernel, by decide +kernel⟩
theorem ok_X12_isRow : okM yX12_isRow cX12_isRow 1 (some .boolean) 1 := ⟨q_1704, q_103, by decide +kernel, by decide +kernel, by decide +kernel⟩
theorem ok_X12_meets : okM yX12_meets cX12_meets 2 (some .int) 1 := ⟨q_1711, q_103, by decide +kernel, by decide +kernel, by decide +kernel⟩
theorem okv_X12_meets : okV yX12_meets := ⟨q_1710, q_37⟩
theorem ok_X12_isText : okM yX12_isText cX12_isText 1 (some .boolean) 1 := ⟨q_1734, q_103, by decide +kernel, by decide +kernel, by decide +kernel⟩
theorem ok_X12_isDay : okM yX12_isDay cX12_isDay 1 (some .boolean) 1 := ⟨q_1764, q_103, by decide +kernel, by decide +kernel, by decide +kernel⟩
theorem ok_X12_isMark : okM yX12_isMark cX12_isMark 2 (some .boolean) 1 := ⟨q_1906, q_103, by decide +kernel, by decide +kernel, by decide +kernel⟩
theorem okv_X12_isMark : okV yX12_isMark := ⟨q_1905, q_60⟩
def sp_X12_in (g : GG) (v : Int32) (lo : Int32) (hi : Int32) : Int32 × va_W := if v < lo then (0, []) else (if hi < v then (0, []) else (1, []))
set_option maxHeartbeats 4000000 in
set_option maxRecDepth 100000 in
theorem c_X12_in (l : Launch) (g : GG) (v : Int32) (lo : Int32) (hi : Int32) : MI l g yX12_in cX12_in 3 (some .boolean) 0 0 0 0 [] [.int v, .int lo, .int hi] (fun rr_ ww_ => (rr_, ww_) = sp_X12_in g v lo hi) := by
  refine met_of (fun A => va_Qi _ (bW g A) A) (by decide) (Nat.le_of_ble_eq_true rfl) ?_
  intro p e s m below meth c A ls X hK hP hD hA hZ hS hl
  have hx := X.1
  have hb := X.2.1
  have hml := X.2.2.1
  have hown := X.2.2.2.1
  have hts := X.2.2.2.2.1
  have hnm := X.2.2.2.2.2.2.2
  have hl : lv_has ls 3 [(0, .int v), (1, .int lo), (2, .int hi)] := hl
  refine lv_iload_n hx hb dX12_in_0 rfl (lv_at hl 0 rfl) ?_
  refine lv_iload_n hx hb dX12_in_1 rfl (lv_at hl 1 rfl) ?_
  refine lv_icmp_lt (tgt := 14) hx hb dX12_in_2 (by decide) (fun c_1 => ?_) (fun c_1 => ?_)
  ·
    refine lv_iconst (v := 0) hx hb dX12_in_14 (by decide) ?_
    exact rI X hK hP hD hS dX12_in_15 (by rfl) (Nat.le_of_ble_eq_true rfl) (Nat.le_of_ble_eq_true rfl) (by show ((_, _) : Int32 × va_W) = _; unfold sp_X12_in; rw [if_pos c_1]; try rfl)
  ·
    refine lv_iload_n hx hb dX12_in_5 rfl (lv_at hl 0 rfl) ?_
    refine lv_iload_n hx hb dX12_in_6 rfl (lv_at hl 2 rfl) ?_
    refine lv_icmp_gt (tgt := 14) hx hb dX12_in_7 (by decide) (fun c_2 => ?_) (fun c_2 => ?_)
    ·
      refine lv_iconst (v := 0) hx hb dX12_in_14 (by decide) ?_
      exact rI X hK hP hD hS dX12_in_15 (by rfl) (Nat.le_of_ble_eq_true rfl) (Nat.le_of_ble_eq_true rfl) (by show ((_, _) : Int32 × va_W) = _; unfold sp_X12_in; rw [if_neg c_1, if_pos c_2]; try rfl)
    ·
      refine lv_iconst (v := 1) hx hb dX12_in_10 (by decide) ?_
      refine lv_goto (tgt := 15) hx hb dX12_in_11 (by decide) ?_
      exact rI X hK hP hD hS dX12_in_15 (by rfl) (Nat.le_of_ble_eq_true rfl) (Nat.le_of_ble_eq_true rfl) (by show ((_, _) : Int32 × va_W) = _; unfold sp_X12_in; rw [if_neg c_1, if_neg c_2]; try rfl)
def sp_X12_isDay (g : GG) (c0 : Int32) : Int32 × va_W := if c0 < 0 then (0, []) else (if 999 < c0 then (0, []) else (1, []))
set_option maxHeartbeats 4000000 in
set_option maxRecDepth 100000 in
theorem c_X12_isDay (l : Launch) (g : GG) (c0 : Int32) : MI l g yX12_isDay cX12_isDay 1 (some .boolean) 1 22 0 0 [] [.int c0] (fun rr_ ww_ => (rr_, ww_) = sp_X12_isDay g c0) := by
  refine met_of (fun A => va_Qi _ (bW g A) A) (by decide) (Nat.le_of_ble_eq_true rfl) ?_
  intro p e s m below meth c A ls X hK hP hD hA hZ hS hl
  have hx := X.1
  have hb := X.2.1
  have hml := X.2.2.1
  have hown := X.2.2.2.1
  have hts := X.2.2.2.2.1
  have hnm := X.2.2.2.2.2.2.2
  have hl : lv_has ls 1 [(0, .int c0)] := hl
  refine lv_iload_n hx hb dX12_isDay_0 rfl (lv_at hl 0 rfl) ?_
  refine lv_iconst (v := 0) hx hb dX12_isDay_1 (by decide) ?_
  refine lv_sipush (v := 999) hx hb dX12_isDay_2 (by decide) ?_
  refine kSi (As := [.int c0, .int 0, .int 999]) (rest := []) (wr := []) X (c_X12_in l g c0 0 999) ok_X12_in q_1706 q_1705 rfl hK hP hD hS hA hZ hl.1 [] [] rfl rfl rfl rfl rfl rfl (Nat.le_of_ble_eq_true rfl) ⟨Nat.le_of_ble_eq_true rfl, Nat.le_of_ble_eq_true rfl⟩ dX12_isDay_5 ⟨Nat.le_of_ble_eq_true rfl, Nat.le_of_ble_eq_true rfl⟩ (fun r_1 w1 H locs hw_2 hP hD hS => ?_)
  rw [sp_X12_in] at hw_2
  rcases Classical.em (c0 < 0) with c_3 | c_3
  ·
    rw [if_pos c_3] at hw_2
    obtain ⟨e1, e2⟩ := Prod.mk.inj hw_2
    subst e1; subst e2
    have hP : va_P g.1 classes [] H := hP
    have hD : va_D A [] := hD
    exact rI X hK hP hD hS dX12_isDay_8 (by rfl) (Nat.le_of_ble_eq_true rfl) (Nat.le_of_ble_eq_true rfl) (by show ((_, _) : Int32 × va_W) = _; unfold sp_X12_isDay; rw [if_pos c_3]; try rfl)
  ·
    rw [if_neg c_3] at hw_2
    rcases Classical.em (999 < c0) with c_4 | c_4
    ·
      rw [if_pos c_4] at hw_2
      obtain ⟨e1, e2⟩ := Prod.mk.inj hw_2
      subst e1; subst e2
      have hP : va_P g.1 classes [] H := hP
      have hD : va_D A [] := hD
      exact rI X hK hP hD hS dX12_isDay_8 (by rfl) (Nat.le_of_ble_eq_true rfl) (Nat.le_of_ble_eq_true rfl) (by show ((_, _) : Int32 × va_W) = _; unfold sp_X12_isDay; rw [if_neg c_3, if_pos c_4]; try rfl)
    ·
      rw [if_neg c_4] at hw_2
      obtain ⟨e1, e2⟩ := Prod.mk.inj hw_2
      subst e1; subst e2
      have hP : va_P g.1 classes [] H := hP
      have hD : va_D A [] := hD
      exact rI X hK hP hD hS dX12_isDay_8 (by rfl) (Nat.le_of_ble_eq_true rfl) (Nat.le_of_ble_eq_true rfl) (by show ((_, _) : Int32 × va_W) = _; unfold sp_X12_isDay; rw [if_neg c_3, if_neg c_4]; try rfl)
def sp_X12_isCell (g : GG) (c0 : Int32) : Int32 × va_W := if c0 < 0 then (0, []) else (if 63 < c0 then (0, []) else (1, []))
set_option maxHeartbeats 4000000 in
set_option maxRecDepth 100000 in
theorem c_X12_isCell (l : Launch) (g : GG) (c0 : Int32) : MI l g yX12_isCell cX12_isCell 1 (some .boolean) 1 22 0 0 [] [.int c0] (fun rr_ ww_ => (rr_, ww_) = sp_X12_isCell g c0) := by
  refine met_of (fun A => va_Qi _ (bW g A) A) (by decide) (Nat.le_of_ble_eq_true rfl) ?_
  intro p e s m below meth c A ls X hK hP hD hA hZ hS hl
  have hx := X.1
  have hb := X.2.1
  have hml := X.2.2.1
  have hown := X.2.2.2.1
  have hts := X.2.2.2.2.1
  have hnm := X.2.2.2.2.2.2.2
  have hl : lv_has ls 1 [(0, .int c0)] := hl
  refine lv_iload_n hx hb dX12_isCell_0 rfl (lv_at hl 0 rfl) ?_
  refine lv_iconst (v := 0) hx hb dX12_isCell_1 (by decide) ?_
  refine lv_bipush (v := 63) hx hb dX12_isCell_2 (by decide) ?_
  refine kSi (As := [.int c0, .int 0, .int 63]) (rest := []) (wr := []) X (c_X12_in l g c0 0 63) ok_X12_in q_1706 q_1705 rfl hK hP hD hS hA hZ hl.1 [] [] rfl rfl rfl rfl rfl rfl (Nat.le_of_ble_eq_true rfl) ⟨Nat.le_of_ble_eq_true rfl, Nat.le_of_ble_eq_true rfl⟩ dX12_isCell_4 ⟨Nat.le_of_ble_eq_true rfl, Nat.le_of_ble_eq_true rfl⟩ (fun r_1 w1 H locs hw_2 hP hD hS => ?_)
  rw [sp_X12_in] at hw_2
  rcases Classical.em (c0 < 0) with c_3 | c_3
  ·
    rw [if_pos c_3] at hw_2
    obtain ⟨e1, e2⟩ := Prod.mk.inj hw_2
    subst e1; subst e2
    have hP : va_P g.1 classes [] H := hP
    have hD : va_D A [] := hD
    exact rI X hK hP hD hS dX12_isCell_7 (by rfl) (Nat.le_of_ble_eq_true rfl) (Nat.le_of_ble_eq_true rfl) (by show ((_, _) : Int32 × va_W) = _; unfold sp_X12_isCell; rw [if_pos c_3]; try rfl)
  ·
    rw [if_neg c_3] at hw_2
    rcases Classical.em (63 < c0) with c_4 | c_4
    ·
      rw [if_pos c_4] at hw_2
      obtain ⟨e1, e2⟩ := Prod.mk.inj hw_2
      subst e1; subst e2
      have hP : va_P g.1 classes [] H := hP
      have hD : va_D A [] := hD
      exact rI X hK hP hD hS dX12_isCell_7 (by rfl) (Nat.le_of_ble_eq_true rfl) (Nat.le_of_ble_eq_true rfl) (by show ((_, _) : Int32 × va_W) = _; unfold sp_X12_isCell; rw [if_neg c_3, if_pos c_4]; try rfl)
    ·
      rw [if_neg c_4] at hw_2
      obtain ⟨e1, e2⟩ := Prod.mk.inj hw_2
      subst e1; subst e2
      have hP : va_P g.1 classes [] H := hP
      have hD : va_D A [] := hD
      exact rI X hK hP hD hS dX12_isCell_7 (by rfl) (Nat.le_of_ble_eq_true rfl) (Nat.le_of_ble_eq_true rfl) (by show ((_, _) : Int32 × va_W) = _; unfold sp_X12_isCell; rw [if_neg c_3, if_neg c_4]; try rfl)
def sp_X12_isRow (g : GG) (c0 : Int32) : Int32 × va_W := if c0 < 0 then (0, []) else (if 5 < c0 then (0, []) else (1, []))
set_option maxHeartbeats 4000000 in
set_option maxRecDepth 100000 in
theorem c_X12_isRow (l : Launch) (g : GG) (c0 : Int32) : MI l g yX12_isRow cX12_isRow 1 (some .boolean) 1 22 0 0 [] [.int c0] (fun rr_ ww_ => (rr_, ww_) = sp_X12_isRow g c0) := by
  refine met_of (fun A => va_Qi _ (bW g A) A) (by decide) (Nat.le_of_ble_eq_true rfl) ?_
  intro p e s m below meth c A ls X hK hP hD hA hZ hS hl
  have hx := X.1
  have hb := X.2.1
  have hml := X.2.2.1
  have hown := X.2.2.2.1
  have hts := X.2.2.2.2.1
  have hnm := X.2.2.2.2.2.2.2
  have hl : lv_has ls 1 [(0, .int c0)] := hl
  refine lv_iload_n hx hb dX12_isRow_0 rfl (lv_at hl 0 rfl) ?_
  refine lv_iconst (v := 0) hx hb dX12_isRow_1 (by decide) ?_
  refine lv_iconst (v := 5) hx hb dX12_isRow_2 (by decide) ?_
  refine kSi (As := [.int c0, .int 0, .int 5]) (rest := []) (wr := []) X (c_X12_in l g c0 0 5) ok_X12_in q_1706 q_1705 rfl hK hP hD hS hA hZ hl.1 [] [] rfl rfl rfl rfl rfl rfl (Nat.le_of_ble_eq_true rfl) ⟨Nat.le_of_ble_eq_true rfl, Nat.le_of_ble_eq_true rfl⟩ dX12_isRow_3 ⟨Nat.le_of_ble_eq_true rfl, Nat.le_of_ble_eq_true rfl⟩ (fun r_1 w1 H locs hw_2 hP hD hS => ?_)
  rw [sp_X12_in] at hw_2
  rcases Classical.em (c0 < 0) with c_3 | c_3
  ·
    rw [if_pos c_3] at hw_2
    obtain ⟨e1, e2⟩ := Prod.mk.inj hw_2
    subst e1; subst e2
    have hP : va_P g.1 classes [] H := hP
    have hD : va_D A [] := hD
    exact rI X hK hP hD hS dX12_isRow_6 (by rfl) (Nat.le_of_ble_eq_true rfl) (Nat.le_of_ble_eq_true rfl) (by show ((_, _) : Int32 × va_W) = _; unfold sp_X12_isRow; rw [if_pos c_3]; try rfl)
  ·
    rw [if_neg c_3] at hw_2
    rcases Classical.em (5 < c0) with c_4 | c_4
    ·
      rw [if_pos c_4] at hw_2
      obtain ⟨e1, e2⟩ := Prod.mk.inj hw_2
      subst e1; subst e2
      have hP : va_P g.1 classes [] H := hP
      have hD : va_D A [] := hD
      exact rI X hK hP hD hS dX12_isRow_6 (by rfl) (Nat.le_of_ble_eq_true rfl) (Nat.le_of_ble_eq_true rfl) (by show ((_, _) : Int32 × va_W) = _; unfold sp_X12_isRow; rw [if_neg c_3, if_pos c_4]; try rfl)
    ·
      rw [if_neg c_4] at hw_2
      obtain ⟨e1, e2⟩ := Prod.mk.inj hw_2
      subst e1; subst e2
      have hP : va_P g.1 classes [] H := hP
      have hD : va_D A [] := hD
      exact rI X hK hP hD hS dX12_isRow_6 (by rfl) (Nat.le_of_ble_eq_true rfl) (Nat.le_of_ble_eq_true rfl) (by show ((_, _) : Int32 × va_W) = _; unfold sp_X12_isRow; rw [if_neg c_3, if_neg c_4]; try rfl)
def sp_X12_isText (g : GG) (c0 : Int32) : Int32 × va_W := if c0 < 0 then (0, []) else (if 3 < c0 then (0, []) else (1, []))
set_option maxHeartbeats 4000000 in
set_option maxRecDepth 100000 in
theorem c_X12_isText (l : Launch) (g : GG) (c0 : Int32) : MI l g yX12_isText cX12_isText 1 (some .boolean) 1 22 0 0 [] [.int c0] (fun rr_ ww_ => (rr_, ww_) = sp_X12_isText g c0) := by
  refine met_of (fun A => va_Qi _ (bW g A) A) (by decide) (Nat.le_of_ble_eq_true rfl) ?_
  intro p e s m below meth c A ls X hK hP hD hA hZ hS hl
  have hx := X.1
  have hb := X.2.1
  have hml := X.2.2.1
  have hown := X.2.2.2.1
  have hts := X.2.2.2.2.1
  have hnm := X.2.2.2.2.2.2.2
  have hl : lv_has ls 1 [(0, .int c0)] := hl
  refine lv_iload_n hx hb dX12_isText_0 rfl (lv_at hl 0 rfl) ?_
  refine lv_iconst (v := 0) hx hb dX12_isText_1 (by decide) ?_
  refine lv_iconst (v := 3) hx hb dX12_isText_2 (by decide) ?_
  refine kSi (As := [.int c0, .int 0, .int 3]) (rest := []) (wr := []) X (c_X12_in l g c0 0 3) ok_X12_in q_1706 q_1705 rfl hK hP hD hS hA hZ hl.1 [] [] rfl rfl rfl rfl rfl rfl (Nat.le_of_ble_eq_true rfl) ⟨Nat.le_of_ble_eq_true rfl, Nat.le_of_ble_eq_true rfl⟩ dX12_isText_3 ⟨Nat.le_of_ble_eq_true rfl, Nat.le_of_ble_eq_true rfl⟩ (fun r_1 w1 H locs hw_2 hP hD hS => ?_)
  rw [sp_X12_in] at hw_2
  rcases Classical.em (c0 < 0) with c_3 | c_3
  ·
    rw [if_pos c_3] at hw_2
    obtain ⟨e1, e2⟩ := Prod.mk.inj hw_2
    subst e1; subst e2
    have hP : va_P g.1 classes [] H := hP
    have hD : va_D A [] := hD
    exact rI X hK hP hD hS dX12_isText_6 (by rfl) (Nat.le_of_ble_eq_true rfl) (Nat.le_of_ble_eq_true rfl) (by show ((_, _) : Int32 × va_W) = _; unfold sp_X12_isText; rw [if_pos c_3]; try rfl)
  ·
    rw [if_neg c_3] at hw_2
    rcases Classical.em (3 < c0) with c_4 | c_4
    ·
      rw [if_pos c_4] at hw_2
      obtain ⟨e1, e2⟩ := Prod.mk.inj hw_2
      subst e1; subst e2
      have hP : va_P g.1 classes [] H := hP
      have hD : va_D A [] := hD
      exact rI X hK hP hD hS dX12_isText_6 (by rfl) (Nat.le_of_ble_eq_true rfl) (Nat.le_of_ble_eq_true rfl) (by show ((_, _) : Int32 × va_W) = _; unfold sp_X12_isText; rw [if_neg c_3, if_pos c_4]; try rfl)
    ·
      rw [if_neg c_4] at hw_2
      obtain ⟨e1, e2⟩ := Prod.mk.inj hw_2
      subst e1; subst e2
      have hP : va_P g.1 classes [] H := hP
      have hD : va_D A [] := hD
      exact rI X hK hP hD hS dX12_isText_6 (by rfl) (Nat.le_of_ble_eq_true rfl) (Nat.le_of_ble_eq_true rfl) (by show ((_, _) : Int32 × va_W) = _; unfold sp_X12_isText; rw [if_neg c_3, if_neg c_4]; try rfl)
def sp_X12_isWorth (g : GG) (c0 : Int32) : Int32 × va_W := if c0 < 1 then (0, []) else (if 100000 < c0 then (0, []) else (1, []))
set_option maxHeartbeats 4000000 in
set_option maxRecDepth 100000 in
theorem c_X12_isWorth (l : Launch) (g : GG) (c0 : Int32) : MI l g yX12_isWorth cX12_isWorth 1 (some .boolean) 1 22 0 0 [] [.int c0] (fun rr_ ww_ => (rr_, ww_) = sp_X12_isWorth g c0) := by
  refine met_of (fun A => va_Qi _ (bW g A) A) (by decide) (Nat.le_of_ble_eq_true rfl) ?_
  intro p e s m below meth c A ls X hK hP hD hA hZ hS hl
  have hx := X.1
  have hb := X.2.1
  have hml := X.2.2.1
  have hown := X.2.2.2.1
  have hts := X.2.2.2.2.1
  have hnm := X.2.2.2.2.2.2.2
  have hl : lv_has ls 1 [(0, .int c0)] := hl
  refine lv_iload_n hx hb dX12_isWorth_0 rfl (lv_at hl 0 rfl) ?_
  refine lv_iconst (v := 1) hx hb dX12_isWorth_1 (by decide) ?_
  refine lv_ldcw (v := 100000) hx hb hown (hts _ q_1802) dX12_isWorth_2 ?_
  refine kSi (As := [.int c0, .int 1, .int 100000]) (rest := []) (wr := []) X (c_X12_in l g c0 1 100000) ok_X12_in q_1706 q_1705 rfl hK hP hD hS hA hZ hl.1 [] [] rfl rfl rfl rfl rfl rfl (Nat.le_of_ble_eq_true rfl) ⟨Nat.le_of_ble_eq_true rfl, Nat.le_of_ble_eq_true rfl⟩ dX12_isWorth_5 ⟨Nat.le_of_ble_eq_true rfl, Nat.le_of_ble_eq_true rfl⟩ (fun r_1 w1 H locs hw_2 hP hD hS => ?_)
  rw [sp_X12_in] at hw_2
  rcases Classical.em (c0 < 1) with c_3 | c_3
  ·
    rw [if_pos c_3] at hw_2
    obtain ⟨e1, e2⟩ := Prod.mk.inj hw_2
    subst e1; subst e2
    have hP : va_P g.1 classes [] H := hP
    have hD : va_D A [] := hD
    exact rI X hK hP hD hS dX12_isWorth_8 (by rfl) (Nat.le_of_ble_eq_true rfl) (Nat.le_of_ble_eq_true rfl) (by show ((_, _) : Int32 × va_W) = _; unfold sp_X12_isWorth; rw [if_pos c_3]; try rfl)
  ·
    rw [if_neg c_3] at hw_2
    rcases Classical.em (100000 < c0) with c_4 | c_4
    ·
      rw [if_pos c_4] at hw_2
      obtain ⟨e1, e2⟩ := Prod.mk.inj hw_2
      subst e1; subst e2
      have hP : va_P g.1 classes [] H := hP
      have hD : va_D A [] := hD
      exact rI X hK hP hD hS dX12_isWorth_8 (by rfl) (Nat.le_of_ble_eq_true rfl) (Nat.le_of_ble_eq_true rfl) (by show ((_, _) : Int32 × va_W) = _; unfold sp_X12_isWorth; rw [if_neg c_3, if_pos c_4]; try rfl)
    ·
      rw [if_neg c_4] at hw_2
      obtain ⟨e1, e2⟩ := Prod.mk.inj hw_2
      subst e1; subst e2
      have hP : va_P g.1 classes [] H := hP
      have hD : va_D A [] := hD
      exact rI X hK hP hD hS dX12_isWorth_8 (by rfl) (Nat.le_of_ble_eq_true rfl) (Nat.le_of_ble_eq_true rfl) (by show ((_, _) : Int32 × va_W) = _; unfold sp_X12_isWorth; rw [if_neg c_3, if_neg c_4]; try rfl)
def sp_X12_meets1 (g : GG) (m0 : Nat) (m0a1 : Nat) (m0a5 : Nat) (m0a6 : Nat) (m0a7 : Nat) (m0a8 : Nat) (m0a9 : Nat) (m0a11 : Nat) (m0a12 : Nat) (m0a13 : Nat) (m0a14 : Nat) (m0a15 : Nat) (m0a16 : Nat) (m0a18 : Nat) (m0a19 : Nat) (m0a20 : Nat) (m0a21 : Nat) (m0a22 : Nat) (m0a24 : Nat) (m0a25 : Nat) (m0a26 : Nat) (m0a28 : Nat) (m0a29 : Nat) (m0a30 : Nat) (m0a31 : Nat) (m0a33 : Nat) (m0a34 : Nat) (m0a35 : Nat) (m0a36 : Nat) (m0a37 : Nat) (m0a38 : Nat) (m0a39 : Nat) (m0a40 : Nat) (m0a41 : Nat) (m0a42 : Nat) (m0a43 : Nat) (m0a44 : Nat) (m0a45 : Nat) (m0a46 : Nat) (m0a47 : Nat) (m0a49 : Nat) (m0a50 : Nat) (m0a51 : Nat) (m0a53 : Nat) (m0a54 : Nat) (m0a55 : Nat) (m0a56 : Nat) (m0a57 : Nat) (m0a58 : Nat) (m0a59 : Nat) (m0a60 : Nat) (m0a61 : Nat) (m0a62 : Nat) (m0a63 : Nat) (m0a67 : Nat) (m0a68 : Nat) (m0a69 : Nat) (m0a70 : Nat) (m0a71 : Nat) (m0a72 : Nat) (m0a73 : Nat) (m0a74 : Nat) (m0a75 : Nat) : Int32 × va_W := ((-3), [(m0, .inr (12, [.int 1, .ref m0a1, .int 0, .long 0, .int 0, .ref m0a5, .ref m0a6, .ref m0a7, .ref m0a8, .ref m0a9, .int 0, .ref m0a11, .ref m0a12, .ref m0a13, .ref m0a14, .ref m0a15, .ref m0a16, .int 0, .ref m0a18, .ref m0a19, .ref m0a20, .ref m0a21, .ref m0a22, .int 0, .ref m0a24, .ref m0a25, .ref m0a26, .int 0, .ref m0a28, .ref m0a29, .ref m0a30, .ref m0a31, .int 0, .ref m0a33, .ref m0a34, .ref m0a35, .ref m0a36, .ref m0a37, .ref m0a38, .ref m0a39, .ref m0a40, .ref m0a41, .ref m0a42, .ref m0a43, .ref m0a44, .ref m0a45, .ref m0a46, .ref m0a47, .int 0, .ref m0a49, .ref m0a50, .ref m0a51, .int 0, .ref m0a53, .ref m0a54, .ref m0a55, .ref m0a56, .ref m0a57, .ref m0a58, .ref m0a59, .ref m0a60, .ref m0a61, .ref m0a62, .ref m0a63, .long 0, .int 0, .int (-9), .ref m0a67, .ref m0a68, .ref m0a69, .ref m0a70, .ref m0a71, .ref m0a72, .ref m0a73, .ref m0a74, .ref m0a75, .long 0])), (m0a1, .inl (cI g, 6, .inl (upd (fun _ => 0) 1 1)))])
set_option maxHeartbeats 4000000 in
set_option maxRecDepth 100000 in
theorem c_X12_meets1 (l : Launch) (g : GG) (m0 : Nat) (m0a1 : Nat) (m0a5 : Nat) (m0a6 : Nat) (m0a7 : Nat) (m0a8 : Nat) (m0a9 : Nat) (m0a11 : Nat) (m0a12 : Nat) (m0a13 : Nat) (m0a14 : Nat) (m0a15 : Nat) (m0a16 : Nat) (m0a18 : Nat) (m0a19 : Nat) (m0a20 : Nat) (m0a21 : Nat) (m0a22 : Nat) (m0a24 : Nat) (m0a25 : Nat) (m0a26 : Nat) (m0a28 : Nat) (m0a29 : Nat) (m0a30 : Nat) (m0a31 : Nat) (m0a33 : Nat) (m0a34 : Nat) (m0a35 : Nat) (m0a36 : Nat) (m0a37 : Nat) (m0a38 : Nat) (m0a39 : Nat) (m0a40 : Nat) (m0a41 : Nat) (m0a42 : Nat) (m0a43 : Nat) (m0a44 : Nat) (m0a45 : Nat) (m0a46 : Nat) (m0a47 : Nat) (m0a49 : Nat) (m0a50 : Nat) (m0a51 : Nat) (m0a53 : Nat) (m0a54 : Nat) (m0a55 : Nat) (m0a56 : Nat) (m0a57 : Nat) (m0a58 : Nat) (m0a59 : Nat) (m0a60 : Nat) (m0a61 : Nat) (m0a62 : Nat) (m0a63 : Nat) (m0a67 : Nat) (m0a68 : Nat) (m0a69 : Nat) (m0a70 : Nat) (m0a71 : Nat) (m0a72 : Nat) (m0a73 : Nat) (m0a74 : Nat) (m0a75 : Nat) : MI l g yX12_meets cX12_meets 2 (some .int) 0 0 0 0 [(m0, .inr (12, [.int 0, .ref m0a1, .int 0, .long 0, .int 0, .ref m0a5, .ref m0a6, .ref m0a7, .ref m0a8, .ref m0a9, .int 0, .ref m0a11, .ref m0a12, .ref m0a13, .ref m0a14, .ref m0a15, .ref m0a16, .int 0, .ref m0a18, .ref m0a19, .ref m0a20, .ref m0a21, .ref m0a22, .int 0, .ref m0a24, .ref m0a25, .ref m0a26, .int 0, .ref m0a28, .ref m0a29, .ref m0a30, .ref m0a31, .int 0, .ref m0a33, .ref m0a34, .ref m0a35, .ref m0a36, .ref m0a37, .ref m0a38, .ref m0a39, .ref m0a40, .ref m0a41, .ref m0a42, .ref m0a43, .ref m0a44, .ref m0a45, .ref m0a46, .ref m0a47, .int 0, .ref m0a49, .ref m0a50, .ref m0a51, .int 0, .ref m0a53, .ref m0a54, .ref m0a55, .ref m0a56, .ref m0a57, .ref m0a58, .ref m0a59, .ref m0a60, .ref m0a61, .ref m0a62, .ref m0a63, .long 0, .int 0, .int (-9), .ref m0a67, .ref m0a68, .ref m0a69, .ref m0a70, .ref m0a71, .ref m0a72, .ref m0a73, .ref m0a74, .ref m0a75, .long 0])), (m0a1, .inl (cI g, 6, .inl (fun _ => 0)))] [.ref m0, .int 1] (fun rr_ ww_ => (rr_, ww_) = sp_X12_meets1 g m0 m0a1 m0a5 m0a6 m0a7 m0a8 m0a9 m0a11 m0a12 m0a13 m0a14 m0a15 m0a16 m0a18 m0a19 m0a20 m0a21 m0a22 m0a24 m0a25 m0a26 m0a28 m0a29 m0a30 m0a31 m0a33 m0a34 m0a35 m0a36 m0a37 m0a38 m0a39 m0a40 m0a41 m0a42 m0a43 m0a44 m0a45 m0a46 m0a47 m0a49 m0a50 m0a51 m0a53 m0a54 m0a55 m0a56 m0a57 m0a58 m0a59 m0a60 m0a61 m0a62 m0a63 m0a67 m0a68 m0a69 m0a70 m0a71 m0a72 m0a73 m0a74 m0a75) := by
  refine met_of (fun A => va_Qi _ (bW g A) A) (by decide) (Nat.le_of_ble_eq_true rfl) ?_
  intro p e s m below meth c A ls X hK hP hD hA hZ hS hl
  have hx := X.1
  have hb := X.2.1
  have hml := X.2.2.1
  have hown := X.2.2.2.1
  have hts := X.2.2.2.2.1
  have hnm := X.2.2.2.2.2.2.2
  have hl : lv_has ls 2 [(0, .ref m0), (1, .int 1)] := hl
  refine lv_aload_n hx hb dX12_meets_0 rfl (lv_at hl 0 rfl) ?_
  refine lv_iload_n hx hb dX12_meets_1 rfl (lv_at hl 1 rfl) ?_
  refine va_put (D := g.1) (ci := 12) (v := .int 1) (ty := .int) (C := RX12) (T := TX12) (N := 77) hx hb hts fw_X12 tyX12 tyX12_ok nmX12 hown hK hP hD hS 0 rfl rfl 0 (by decide) (hts _ q_1466) (fun _ h9 => h9) rfl (by decide +kernel) rfl rfl (Nat.le_of_ble_eq_true rfl) dX12_meets_2 (fun H locs hP hD hS => ?_)
  have hP : va_P g.1 classes [(m0, .inr (12, [.int 1, .ref m0a1, .int 0, .long 0, .int 0, .ref m0a5, .ref m0a6, .ref m0a7, .ref m0a8, .ref m0a9, .int 0, .ref m0a11, .ref m0a12, .ref m0a13, .ref m0a14, .ref m0a15, .ref m0a16, .int 0, .ref m0a18, .ref m0a19, .ref m0a20, .ref m0a21, .ref m0a22, .int 0, .ref m0a24, .ref m0a25, .ref m0a26, .int 0, .ref m0a28, .ref m0a29, .ref m0a30, .ref m0a31, .int 0, .ref m0a33, .ref m0a34, .ref m0a35, .ref m0a36, .ref m0a37, .ref m0a38, .ref m0a39, .ref m0a40, .ref m0a41, .ref m0a42, .ref m0a43, .ref m0a44, .ref m0a45, .ref m0a46, .ref m0a47, .int 0, .ref m0a49, .ref m0a50, .ref m0a51, .int 0, .ref m0a53, .ref m0a54, .ref m0a55, .ref m0a56, .ref m0a57, .ref m0a58, .ref m0a59, .ref m0a60, .ref m0a61, .ref m0a62, .ref m0a63, .long 0, .int 0, .int (-9), .ref m0a67, .ref m0a68, .ref m0a69, .ref m0a70, .ref m0a71, .ref m0a72, .ref m0a73, .ref m0a74, .ref m0a75, .long 0])), (m0a1, .inl (cI g, 6, .inl (fun _ => 0)))] H := hP
  have hD : va_D A [(m0, .inr (12, [.int 1, .ref m0a1, .int 0, .long 0, .int 0, .ref m0a5, .ref m0a6, .ref m0a7, .ref m0a8, .ref m0a9, .int 0, .ref m0a11, .ref m0a12, .ref m0a13, .ref m0a14, .ref m0a15, .ref m0a16, .int 0, .ref m0a18, .ref m0a19, .ref m0a20, .ref m0a21, .ref m0a22, .int 0, .ref m0a24, .ref m0a25, .ref m0a26, .int 0, .ref m0a28, .ref m0a29, .ref m0a30, .ref m0a31, .int 0, .ref m0a33, .ref m0a34, .ref m0a35, .ref m0a36, .ref m0a37, .ref m0a38, .ref m0a39, .ref m0a40, .ref m0a41, .ref m0a42, .ref m0a43, .ref m0a44, .ref m0a45, .ref m0a46, .ref m0a47, .int 0, .ref m0a49, .ref m0a50, .ref m0a51, .int 0, .ref m0a53, .ref m0a54, .ref m0a55, .ref m0a56, .ref m0a57, .ref m0a58, .ref m0a59, .ref m0a60, .ref m0a61, .ref m0a62, .ref m0a63, .long 0, .int 0, .int (-9), .ref m0a67, .ref m0a68, .ref m0a69, .ref m0a70, .ref m0a71, .ref m0a72, .ref m0a73, .ref m0a74, .ref m0a75, .long 0])), (m0a1, .inl (cI g, 6, .inl (fun _ => 0)))] := hD
  refine lv_aload_n hx hb dX12_meets_5 rfl (lv_at hl 0 rfl) ?_
  refine va_get (D := g.1) (ci := 12) (v := .ref m0a1) (C := RX12) (T := TX12) (N := 77) hx hb hts fw_X12 hown hK hP 0 rfl rfl 1 (by decide) (hts _ q_1467) (fun _ h9 => h9) rfl dX12_meets_6 ?_
  refine lv_iload_n hx hb dX12_meets_9 rfl (lv_at hl 1 rfl) ?_
  refine lv_dup2_11 hx hb dX12_meets_10 rfl rfl ?_
  refine va_iald hx hb hK hP 1 0 rfl rfl (by unfold vp_in; decide) dX12_meets_11 ?_
  refine lv_topk (v := 0) rfl ?_
  refine lv_iconst (v := 1) hx hb dX12_meets_12 (by decide) ?_
  refine lv_iadd hx hb dX12_meets_13 ?_
  refine lv_topk (v := 1) (by decide) ?_
  refine va_iast hx hb hK hP hD hS 1 0 rfl rfl (by unfold vp_in; decide) dX12_meets_14 (fun H locs hP hD hS => ?_)
  have hP : va_P g.1 classes [(m0, .inr (12, [.int 1, .ref m0a1, .int 0, .long 0, .int 0, .ref m0a5, .ref m0a6, .ref m0a7, .ref m0a8, .ref m0a9, .int 0, .ref m0a11, .ref m0a12, .ref m0a13, .ref m0a14, .ref m0a15, .ref m0a16, .int 0, .ref m0a18, .ref m0a19, .ref m0a20, .ref m0a21, .ref m0a22, .int 0, .ref m0a24, .ref m0a25, .ref m0a26, .int 0, .ref m0a28, .ref m0a29, .ref m0a30, .ref m0a31, .int 0, .ref m0a33, .ref m0a34, .ref m0a35, .ref m0a36, .ref m0a37, .ref m0a38, .ref m0a39, .ref m0a40, .ref m0a41, .ref m0a42, .ref m0a43, .ref m0a44, .ref m0a45, .ref m0a46, .ref m0a47, .int 0, .ref m0a49, .ref m0a50, .ref m0a51, .int 0, .ref m0a53, .ref m0a54, .ref m0a55, .ref m0a56, .ref m0a57, .ref m0a58, .ref m0a59, .ref m0a60, .ref m0a61, .ref m0a62, .ref m0a63, .long 0, .int 0, .int (-9), .ref m0a67, .ref m0a68, .ref m0a69, .ref m0a70, .ref m0a71, .ref m0a72, .ref m0a73, .ref m0a74, .ref m0a75, .long 0])), (m0a1, .inl (cI g, 6, .inl (upd (fun _ => 0) 1 1)))] H := hP
  have hD : va_D A [(m0, .inr (12, [.int 1, .ref m0a1, .int 0, .long 0, .int 0, .ref m0a5, .ref m0a6, .ref m0a7, .ref m0a8, .ref m0a9, .int 0, .ref m0a11, .ref m0a12, .ref m0a13, .ref m0a14, .ref m0a15, .ref m0a16, .int 0, .ref m0a18, .ref m0a19, .ref m0a20, .ref m0a21, .ref m0a22, .int 0, .ref m0a24, .ref m0a25, .ref m0a26, .int 0, .ref m0a28, .ref m0a29, .ref m0a30, .ref m0a31, .int 0, .ref m0a33, .ref m0a34, .ref m0a35, .ref m0a36, .ref m0a37, .ref m0a38, .ref m0a39, .ref m0a40, .ref m0a41, .ref m0a42, .ref m0a43, .ref m0a44, .ref m0a45, .ref m0a46, .ref m0a47, .int 0, .ref m0a49, .ref m0a50, .ref m0a51, .int 0, .ref m0a53, .ref m0a54, .ref m0a55, .ref m0a56, .ref m0a57, .ref m0a58, .ref m0a59, .ref m0a60, .ref m0a61, .ref m0a62, .ref m0a63, .long 0, .int 0, .int (-9), .ref m0a67, .ref m0a68, .ref m0a69, .ref m0a70, .ref m0a71, .ref m0a72, .ref m0a73, .ref m0a74, .ref m0a75, .long 0])), (m0a1, .inl (cI g, 6, .inl (upd (fun _ => 0) 1 1)))] := hD
  refine lv_bipush (v := (-3)) hx hb dX12_meets_15 (by decide) ?_
  exact rI X hK hP hD hS dX12_meets_17 (by rfl) (Nat.le_of_ble_eq_true rfl) (Nat.le_of_ble_eq_true rfl) (by show ((_, _) : Int32 × va_W) = _; unfold sp_X12_meets1; try rfl)
def sp_X12_meets4 (g : GG) (m0 : Nat) (m0a1 : Nat) (m0a5 : Nat) (m0a6 : Nat) (m0a7 : Nat) (m0a8 : Nat) (m0a9 : Nat) (m0a11 : Nat) (m0a12 : Nat) (m0a13 : Nat) (m0a14 : Nat) (m0a15 : Nat) (m0a16 : Nat) (m0a18 : Nat) (m0a19 : Nat) (m0a20 : Nat) (m0a21 : Nat) (m0a22 : Nat) (m0a24 : Nat) (m0a25 : Nat) (m0a26 : Nat) (m0a28 : Nat) (m0a29 : Nat) (m0a30 : Nat) (m0a31 : Nat) (m0a33 : Nat) (m0a34 : Nat) (m0a35 : Nat) (m0a36 : Nat) (m0a37 : Nat) (m0a38 : Nat) (m0a39 : Nat) (m0a40 : Nat) (m0a41 : Nat) (m0a42 : Nat) (m0a43 : Nat) (m0a44 : Nat) (m0a45 : Nat) (m0a46 : Nat) (m0a47 : Nat) (m0a49 : Nat) (m0a50 : Nat) (m0a51 : Nat) (m0a53 : Nat) (m0a54 : Nat) (m0a55 : Nat) (m0a56 : Nat) (m0a57 : Nat) (m0a58 : Nat) (m0a59 : Nat) (m0a60 : Nat) (m0a61 : Nat) (m0a62 : Nat) (m0a63 : Nat) (m0a67 : Nat) (m0a68 : Nat) (m0a69 : Nat) (m0a70 : Nat) (m0a71 : Nat) (m0a72 : Nat) (m0a73 : Nat) (m0a74 : Nat) (m0a75 : Nat) : Int32 × va_W := ((-3), [(m0, .inr (12, [.int 4, .ref m0a1, .int 0, .long 0, .int 0, .ref m0a5, .ref m0a6, .ref m0a7, .ref m0a8, .ref m0a9, .int 0, .ref m0a11, .ref m0a12, .ref m0a13, .ref m0a14, .ref m0a15, .ref m0a16, .int 0, .ref m0a18, .ref m0a19, .ref m0a20, .ref m0a21, .ref m0a22, .int 0, .ref m0a24, .ref m0a25, .ref m0a26, .int 0, .ref m0a28, .ref m0a29, .ref m0a30, .ref m0a31, .int 0, .ref m0a33, .ref m0a34, .ref m0a35, .ref m0a36, .ref m0a37, .ref m0a38, .ref m0a39, .ref m0a40, .ref m0a41, .ref m0a42, .ref m0a43, .ref m0a44, .ref m0a45, .ref m0a46, .ref m0a47, .int 0, .ref m0a49, .ref m0a50, .ref m0a51, .int 0, .ref m0a53, .ref m0a54, .ref m0a55, .ref m0a56, .ref m0a57, .ref m0a58, .ref m0a59, .ref m0a60, .ref m0a61, .ref m0a62, .ref m0a63, .long 0, .int 0, .int (-9), .ref m0a67, .ref m0a68, .ref m0a69, .ref m0a70, .ref m0a71, .ref m0a72, .ref m0a73, .ref m0a74, .ref m0a75, .long 0])), (m0a1, .inl (cI g, 6, .inl (upd (fun _ => 0) 4 1)))])
set_option maxHeartbeats 4000000 in
set_option maxRecDepth 100000 in
theorem c_X12_meets4 (l : Launch) (g : GG) (m0 : Nat) (m0a1 : Nat) (m0a5 : Nat) (m0a6 : Nat) (m0a7 : Nat) (m0a8 : Nat) (m0a9 : Nat) (m0a11 : Nat) (m0a12 : Nat) (m0a13 : Nat) (m0a14 : Nat) (m0a15 : Nat) (m0a16 : Nat) (m0a18 : Nat) (m0a19 : Nat) (m0a20 : Nat) (m0a21 : Nat) (m0a22 : Nat) (m0a24 : Nat) (m0a25 : Nat) (m0a26 : Nat) (m0a28 : Nat) (m0a29 : Nat) (m0a30 : Nat) (m0a31 : Nat) (m0a33 : Nat) (m0a34 : Nat) (m0a35 : Nat) (m0a36 : Nat) (m0a37 : Nat) (m0a38 : Nat) (m0a39 : Nat) (m0a40 : Nat) (m0a41 : Nat) (m0a42 : Nat) (m0a43 : Nat) (m0a44 : Nat) (m0a45 : Nat) (m0a46 : Nat) (m0a47 : Nat) (m0a49 : Nat) (m0a50 : Nat) (m0a51 : Nat) (m0a53 : Nat) (m0a54 : Nat) (m0a55 : Nat) (m0a56 : Nat) (m0a57 : Nat) (m0a58 : Nat) (m0a59 : Nat) (m0a60 : Nat) (m0a61 : Nat) (m0a62 : Nat) (m0a63 : Nat) (m0a67 : Nat) (m0a68 : Nat) (m0a69 : Nat) (m0a70 : Nat) (m0a71 : Nat) (m0a72 : Nat) (m0a73 : Nat) (m0a74 : Nat) (m0a75 : Nat) : MI l g yX12_meets cX12_meets 2 (some .int) 0 0 0 0 [(m0, .inr (12, [.int 0, .ref m0a1, .int 0, .long 0, .int 0, .ref m0a5, .ref m0a6, .ref m0a7, .ref m0a8, .ref m0a9, .int 0, .ref m0a11, .ref m0a12, .ref m0a13, .ref m0a14, .ref m0a15, .ref m0a16, .int 0, .ref m0a18, .ref m0a19, .ref m0a20, .ref m0a21, .ref m0a22, .int 0, .ref m0a24, .ref m0a25, .ref m0a26, .int 0, .ref m0a28, .ref m0a29, .ref m0a30, .ref m0a31, .int 0, .ref m0a33, .ref m0a34, .ref m0a35, .ref m0a36, .ref m0a37, .ref m0a38, .ref m0a39, .ref m0a40, .ref m0a41, .ref m0a42, .ref m0a43, .ref m0a44, .ref m0a45, .ref m0a46, .ref m0a47, .int 0, .ref m0a49, .ref m0a50, .ref m0a51, .int 0, .ref m0a53, .ref m0a54, .ref m0a55, .ref m0a56, .ref m0a57, .ref m0a58, .ref m0a59, .ref m0a60, .ref m0a61, .ref m0a62, .ref m0a63, .long 0, .int 0, .int (-9), .ref m0a67, .ref m0a68, .ref m0a69, .ref m0a70, .ref m0a71, .ref m0a72, .ref m0a73, .ref m0a74, .ref m0a75, .long 0])), (m0a1, .inl (cI g, 6, .inl (fun _ => 0)))] [.ref m0, .int 4] (fun rr_ ww_ => (rr_, ww_) = sp_X12_meets4 g m0 m0a1 m0a5 m0a6 m0a7 m0a8 m0a9 m0a11 m0a12 m0a13 m0a14 m0a15 m0a16 m0a18 m0a19 m0a20 m0a21 m0a22 m0a24 m0a25 m0a26 m0a28 m0a29 m0a30 m0a31 m0a33 m0a34 m0a35 m0a36 m0a37 m0a38 m0a39 m0a40 m0a41 m0a42 m0a43 m0a44 m0a45 m0a46 m0a47 m0a49 m0a50 m0a51 m0a53 m0a54 m0a55 m0a56 m0a57 m0a58 m0a59 m0a60 m0a61 m0a62 m0a63 m0a67 m0a68 m0a69 m0a70 m0a71 m0a72 m0a73 m0a74 m0a75) := by
  refine met_of (fun A => va_Qi _ (bW g A) A) (by decide) (Nat.le_of_ble_eq_true rfl) ?_
  intro p e s m below meth c A ls X hK hP hD hA hZ hS hl
  have hx := X.1
  have hb := X.2.1
  have hml := X.2.2.1
  have hown := X.2.2.2.1
  have hts := X.2.2.2.2.1
  have hnm := X.2.2.2.2.2.2.2
  have hl : lv_has ls 2 [(0, .ref m0), (1, .int 4)] := hl
  refine lv_aload_n hx hb dX12_meets_0 rfl (lv_at hl 0 rfl) ?_
  refine lv_iload_n hx hb dX12_meets_1 rfl (lv_at hl 1 rfl) ?_
  refine va_put (D := g.1) (ci := 12) (v := .int 4) (ty := .int) (C := RX12) (T := TX12) (N := 77) hx hb hts fw_X12 tyX12 tyX12_ok nmX12 hown hK hP hD hS 0 rfl rfl 0 (by decide) (hts _ q_1466) (fun _ h9 => h9) rfl (by decide +kernel) rfl rfl (Nat.le_of_ble_eq_true rfl) dX12_meets_2 (fun H locs hP hD hS => ?_)
  have hP : va_P g.1 classes [(m0, .inr (12, [.int 4, .ref m0a1, .int 0, .long 0, .int 0, .ref m0a5, .ref m0a6, .ref m0a7, .ref m0a8, .ref m0a9, .int 0, .ref m0a11, .ref m0a12, .ref m0a13, .ref m0a14, .ref m0a15, .ref m0a16, .int 0, .ref m0a18, .ref m0a19, .ref m0a20, .ref m0a21, .ref m0a22, .int 0, .ref m0a24, .ref m0a25, .ref m0a26, .int 0, .ref m0a28, .ref m0a29, .ref m0a30, .ref m0a31, .int 0, .ref m0a33, .ref m0a34, .ref m0a35, .ref m0a36, .ref m0a37, .ref m0a38, .ref m0a39, .ref m0a40, .ref m0a41, .ref m0a42, .ref m0a43, .ref m0a44, .ref m0a45, .ref m0a46, .ref m0a47, .int 0, .ref m0a49, .ref m0a50, .ref m0a51, .int 0, .ref m0a53, .ref m0a54, .ref m0a55, .ref m0a56, .ref m0a57, .ref m0a58, .ref m0a59, .ref m0a60, .ref m0a61, .ref m0a62, .ref m0a63, .long 0, .int 0, .int (-9), .ref m0a67, .ref m0a68, .ref m0a69, .ref m0a70, .ref m0a71, .ref m0a72, .ref m0a73, .ref m0a74, .ref m0a75, .long 0])), (m0a1, .inl (cI g, 6, .inl (fun _ => 0)))] H := hP
  have hD : va_D A [(m0, .inr (12, [.int 4, .ref m0a1, .int 0, .long 0, .int 0, .ref m0a5, .ref m0a6, .ref m0a7, .ref m0a8, .ref m0a9, .int 0, .ref m0a11, .ref m0a12, .ref m0a13, .ref m0a14, .ref m0a15, .ref m0a16, .int 0, .ref m0a18, .ref m0a19, .ref m0a20, .ref m0a21, .ref m0a22, .int 0, .ref m0a24, .ref m0a25, .ref m0a26, .int 0, .ref m0a28, .ref m0a29, .ref m0a30, .ref m0a31, .int 0, .ref m0a33, .ref m0a34, .ref m0a35, .ref m0a36, .ref m0a37, .ref m0a38, .ref m0a39, .ref m0a40, .ref m0a41, .ref m0a42, .ref m0a43, .ref m0a44, .ref m0a45, .ref m0a46, .ref m0a47, .int 0, .ref m0a49, .ref m0a50, .ref m0a51, .int 0, .ref m0a53, .ref m0a54, .ref m0a55, .ref m0a56, .ref m0a57, .ref m0a58, .ref m0a59, .ref m0a60, .ref m0a61, .ref m0a62, .ref m0a63, .long 0, .int 0, .int (-9), .ref m0a67, .ref m0a68, .ref m0a69, .ref m0a70, .ref m0a71, .ref m0a72, .ref m0a73, .ref m0a74, .ref m0a75, .long 0])), (m0a1, .inl (cI g, 6, .inl (fun _ => 0)))] := hD
  refine lv_aload_n hx hb dX12_meets_5 rfl (lv_at hl 0 rfl) ?_
  refine va_get (D := g.1) (ci := 12) (v := .ref m0a1) (C := RX12) (T := TX12) (N := 77) hx hb hts fw_X12 hown hK hP 0 rfl rfl 1 (by decide) (hts _ q_1467) (fun _ h9 => h9) rfl dX12_meets_6 ?_
  refine lv_iload_n hx hb dX12_meets_9 rfl (lv_at hl 1 rfl) ?_
  refine lv_dup2_11 hx hb dX12_meets_10 rfl rfl ?_
  refine va_iald hx hb hK hP 1 0 rfl rfl (by unfold vp_in; decide) dX12_meets_11 ?_
  refine lv_topk (v := 0) rfl ?_
  refine lv_iconst (v := 1) hx hb dX12_meets_12 (by decide) ?_
  refine lv_iadd hx hb dX12_meets_13 ?_
  refine lv_topk (v := 1) (by decide) ?_
  refine va_iast hx hb hK hP hD hS 1 0 rfl rfl (by unfold vp_in; decide) dX12_meets_14 (fun H locs hP hD hS => ?_)
  have hP : va_P g.1 classes [(m0, .inr (12, [.int 4, .ref m0a1, .int 0, .long 0, .int 0, .ref m0a5, .ref m0a6, .ref m0a7, .ref m0a8, .ref m0a9, .int 0, .ref m0a11, .ref m0a12, .ref m0a13, .ref m0a14, .ref m0a15, .ref m0a16, .int 0, .ref m0a18, .ref m0a19, .ref m0a20, .ref m0a21, .ref m0a22, .int 0, .ref m0a24, .ref m0a25, .ref m0a26, .int 0, .ref m0a28, .ref m0a29, .ref m0a30, .ref m0a31, .int 0, .ref m0a33, .ref m0a34, .ref m0a35, .ref m0a36, .ref m0a37, .ref m0a38, .ref m0a39, .ref m0a40, .ref m0a41, .ref m0a42, .ref m0a43, .ref m0a44, .ref m0a45, .ref m0a46, .ref m0a47, .int 0, .ref m0a49, .ref m0a50, .ref m0a51, .int 0, .ref m0a53, .ref m0a54, .ref m0a55, .ref m0a56, .ref m0a57, .ref m0a58, .ref m0a59, .ref m0a60, .ref m0a61, .ref m0a62, .ref m0a63, .long 0, .int 0, .int (-9), .ref m0a67, .ref m0a68, .ref m0a69, .ref m0a70, .ref m0a71, .ref m0a72, .ref m0a73, .ref m0a74, .ref m0a75, .long 0])), (m0a1, .inl (cI g, 6, .inl (upd (fun _ => 0) 4 1)))] H := hP
  have hD : va_D A [(m0, .inr (12, [.int 4, .ref m0a1, .int 0, .long 0, .int 0, .ref m0a5, .ref m0a6, .ref m0a7, .ref m0a8, .ref m0a9, .int 0, .ref m0a11, .ref m0a12, .ref m0a13, .ref m0a14, .ref m0a15, .ref m0a16, .int 0, .ref m0a18, .ref m0a19, .ref m0a20, .ref m0a21, .ref m0a22, .int 0, .ref m0a24, .ref m0a25, .ref m0a26, .int 0, .ref m0a28, .ref m0a29, .ref m0a30, .ref m0a31, .int 0, .ref m0a33, .ref m0a34, .ref m0a35, .ref m0a36, .ref m0a37, .ref m0a38, .ref m0a39, .ref m0a40, .ref m0a41, .ref m0a42, .ref m0a43, .ref m0a44, .ref m0a45, .ref m0a46, .ref m0a47, .int 0, .ref m0a49, .ref m0a50, .ref m0a51, .int 0, .ref m0a53, .ref m0a54, .ref m0a55, .ref m0a56, .ref m0a57, .ref m0a58, .ref m0a59, .ref m0a60, .ref m0a61, .ref m0a62, .ref m0a63, .long 0, .int 0, .int (-9), .ref m0a67, .ref m0a68, .ref m0a69, .ref m0a70, .ref m0a71, .ref m0a72, .ref m0a73, .ref m0a74, .ref m0a75, .long 0])), (m0a1, .inl (cI g, 6, .inl (upd (fun _ => 0) 4 1)))] := hD
  refine lv_bipush (v := (-3)) hx hb dX12_meets_15 (by decide) ?_
  exact rI X hK hP hD hS dX12_meets_17 (by rfl) (Nat.le_of_ble_eq_true rfl) (Nat.le_of_ble_eq_true rfl) (by show ((_, _) : Int32 × va_W) = _; unfold sp_X12_meets4; try rfl)
def sp_X12_meets5 (g : GG) (m0 : Nat) (m0a1 : Nat) (m0a5 : Nat) (m0a6 : Nat) (m0a7 : Nat) (m0a8 : Nat) (m0a9 : Nat) (m0a11 : Nat) (m0a12 : Nat) (m0a13 : Nat) (m0a14 : Nat) (m0a15 : Nat) (m0a16 : Nat) (m0a18 : Nat) (m0a19 : Nat) (m0a20 : Nat) (m0a21 : Nat) (m0a22 : Nat) (m0a24 : Nat) (m0a25 : Nat) (m0a26 : Nat) (m0a28 : Nat) (m0a29 : Nat) (m0a30 : Nat) (m0a31 : Nat) (m0a33 : Nat) (m0a34 : Nat) (m0a35 : Nat) (m0a36 : Nat) (m0a37 : Nat) (m0a38 : Nat) (m0a39 : Nat) (m0a40 : Nat) (m0a41 : Nat) (m0a42 : Nat) (m0a43 : Nat) (m0a44 : Nat) (m0a45 : Nat) (m0a46 : Nat) (m0a47 : Nat) (m0a49 : Nat) (m0a50 : Nat) (m0a51 : Nat) (m0a53 : Nat) (m0a54 : Nat) (m0a55 : Nat) (m0a56 : Nat) (m0a57 : Nat) (m0a58 : Nat) (m0a59 : Nat) (m0a60 : Nat) (m0a61 : Nat) (m0a62 : Nat) (m0a63 : Nat) (m0a67 : Nat) (m0a68 : Nat) (m0a69 : Nat) (m0a70 : Nat) (m0a71 : Nat) (m0a72 : Nat) (m0a73 : Nat) (m0a74 : Nat) (m0a75 : Nat) : Int32 × va_W := ((-3), [(m0, .inr (12, [.int 5, .ref m0a1, .int 0, .long 0, .int 0, .ref m0a5, .ref m0a6, .ref m0a7, .ref m0a8, .ref m0a9, .int 0, .ref m0a11, .ref m0a12, .ref m0a13, .ref m0a14, .ref m0a15, .ref m0a16, .int 0, .ref m0a18, .ref m0a19, .ref m0a20, .ref m0a21, .ref m0a22, .int 0, .ref m0a24, .ref m0a25, .ref m0a26, .int 0, .ref m0a28, .ref m0a29, .ref m0a30, .ref m0a31, .int 0, .ref m0a33, .ref m0a34, .ref m0a35, .ref m0a36, .ref m0a37, .ref m0a38, .ref m0a39, .ref m0a40, .ref m0a41, .ref m0a42, .ref m0a43, .ref m0a44, .ref m0a45, .ref m0a46, .ref m0a47, .int 0, .ref m0a49, .ref m0a50, .ref m0a51, .int 0, .ref m0a53, .ref m0a54, .ref m0a55, .ref m0a56, .ref m0a57, .ref m0a58, .ref m0a59, .ref m0a60, .ref m0a61, .ref m0a62, .ref m0a63, .long 0, .int 0, .int (-9), .ref m0a67, .ref m0a68, .ref m0a69, .ref m0a70, .ref m0a71, .ref m0a72, .ref m0a73, .ref m0a74, .ref m0a75, .long 0])), (m0a1, .inl (cI g, 6, .inl (upd (fun _ => 0) 5 1)))])
set_option maxHeartbeats 4000000 in
set_option maxRecDepth 100000 in
theorem c_X12_meets5 (l : Launch) (g : GG) (m0 : Nat) (m0a1 : Nat) (m0a5 : Nat) (m0a6 : Nat) (m0a7 : Nat) (m0a8 : Nat) (m0a9 : Nat) (m0a11 : Nat) (m0a12 : Nat) (m0a13 : Nat) (m0a14 : Nat) (m0a15 : Nat) (m0a16 : Nat) (m0a18 : Nat) (m0a19 : Nat) (m0a20 : Nat) (m0a21 : Nat) (m0a22 : Nat) (m0a24 : Nat) (m0a25 : Nat) (m0a26 : Nat) (m0a28 : Nat) (m0a29 : Nat) (m0a30 : Nat) (m0a31 : Nat) (m0a33 : Nat) (m0a34 : Nat) (m0a35 : Nat) (m0a36 : Nat) (m0a37 : Nat) (m0a38 : Nat) (m0a39 : Nat) (m0a40 : Nat) (m0a41 : Nat) (m0a42 : Nat) (m0a43 : Nat) (m0a44 : Nat) (m0a45 : Nat) (m0a46 : Nat) (m0a47 : Nat) (m0a49 : Nat) (m0a50 : Nat) (m0a51 : Nat) (m0a53 : Nat) (m0a54 : Nat) (m0a55 : Nat) (m0a56 : Nat) (m0a57 : Nat) (m0a58 : Nat) (m0a59 : Nat) (m0a60 : Nat) (m0a61 : Nat) (m0a62 : Nat) (m0a63 : Nat) (m0a67 : Nat) (m0a68 : Nat) (m0a69 : Nat) (m0a70 : Nat) (m0a71 : Nat) (m0a72 : Nat) (m0a73 : Nat) (m0a74 : Nat) (m0a75 : Nat) : MI l g yX12_meets cX12_meets 2 (some .int) 0 0 0 0 [(m0, .inr (12, [.int 0, .ref m0a1, .int 0, .long 0, .int 0, .ref m0a5, .ref m0a6, .ref m0a7, .ref m0a8, .ref m0a9, .int 0, .ref m0a11, .ref m0a12, .ref m0a13, .ref m0a14, .ref m0a15, .ref m0a16, .int 0, .ref m0a18, .ref m0a19, .ref m0a20, .ref m0a21, .ref m0a22, .int 0, .ref m0a24, .ref m0a25, .ref m0a26, .int 0, .ref m0a28, .ref m0a29, .ref m0a30, .ref m0a31, .int 0, .ref m0a33, .ref m0a34, .ref m0a35, .ref m0a36, .ref m0a37, .ref m0a38, .ref m0a39, .ref m0a40, .ref m0a41, .ref m0a42, .ref m0a43, .ref m0a44, .ref m0a45, .ref m0a46, .ref m0a47, .int 0, .ref m0a49, .ref m0a50, .ref m0a51, .int 0, .ref m0a53, .ref m0a54, .ref m0a55, .ref m0a56, .ref m0a57, .ref m0a58, .ref m0a59, .ref m0a60, .ref m0a61, .ref m0a62, .ref m0a63, .long 0, .int 0, .int (-9), .ref m0a67, .ref m0a68, .ref m0a69, .ref m0a70, .ref m0a71, .ref m0a72, .ref m0a73, .ref m0a74, .ref m0a75, .long 0])), (m0a1, .inl (cI g, 6, .inl (fun _ => 0)))] [.ref m0, .int 5] (fun rr_ ww_ => (rr_, ww_) = sp_X12_meets5 g m0 m0a1 m0a5 m0a6 m0a7 m0a8 m0a9 m0a11 m0a12 m0a13 m0a14 m0a15 m0a16 m0a18 m0a19 m0a20 m0a21 m0a22 m0a24 m0a25 m0a26 m0a28 m0a29 m0a30 m0a31 m0a33 m0a34 m0a35 m0a36 m0a37 m0a38 m0a39 m0a40 m0a41 m0a42 m0a43 m0a44 m0a45 m0a46 m0a47 m0a49 m0a50 m0a51 m0a53 m0a54 m0a55 m0a56 m0a57 m0a58 m0a59 m0a60 m0a61 m0a62 m0a63 m0a67 m0a68 m0a69 m0a70 m0a71 m0a72 m0a73 m0a74 m0a75) := by
  refine met_of (fun A => va_Qi _ (bW g A) A) (by decide) (Nat.le_of_ble_eq_true rfl) ?_
  intro p e s m below meth c A ls X hK hP hD hA hZ hS hl
  have hx := X.1
  have hb := X.2.1
  have hml := X.2.2.1
  have hown := X.2.2.2.1
  have hts := X.2.2.2.2.1
  have hnm := X.2.2.2.2.2.2.2
  have hl : lv_has ls 2 [(0, .ref m0), (1, .int 5)] := hl
  refine lv_aload_n hx hb dX12_meets_0 rfl (lv_at hl 0 rfl) ?_
  refine lv_iload_n hx hb dX12_meets_1 rfl (lv_at hl 1 rfl) ?_
  refine va_put (D := g.1) (ci := 12) (v := .int 5) (ty := .int) (C := RX12) (T := TX12) (N := 77) hx hb hts fw_X12 tyX12 tyX12_ok nmX12 hown hK hP hD hS 0 rfl rfl 0 (by decide) (hts _ q_1466) (fun _ h9 => h9) rfl (by decide +kernel) rfl rfl (Nat.le_of_ble_eq_true rfl) dX12_meets_2 (fun H locs hP hD hS => ?_)
  have hP : va_P g.1 classes [(m0, .inr (12, [.int 5, .ref m0a1, .int 0, .long 0, .int 0, .ref m0a5, .ref m0a6, .ref m0a7, .ref m0a8, .ref m0a9, .int 0, .ref m0a11, .ref m0a12, .ref m0a13, .ref m0a14, .ref m0a15, .ref m0a16, .int 0, .ref m0a18, .ref m0a19, .ref m0a20, .ref m0a21, .ref m0a22, .int 0, .ref m0a24, .ref m0a25, .ref m0a26, .int 0, .ref m0a28, .ref m0a29, .ref m0a30, .ref m0a31, .int 0, .ref m0a33, .ref m0a34, .ref m0a35, .ref m0a36, .ref m0a37, .ref m0a38, .ref m0a39, .ref m0a40, .ref m0a41, .ref m0a42, .ref m0a43, .ref m0a44, .ref m0a45, .ref m0a46, .ref m0a47, .int 0, .ref m0a49, .ref m0a50, .ref m0a51, .int 0, .ref m0a53, .ref m0a54, .ref m0a55, .ref m0a56, .ref m0a57, .ref m0a58, .ref m0a59, .ref m0a60, .ref m0a61, .ref m0a62, .ref m0a63, .long 0, .int 0, .int (-9), .ref m0a67, .ref m0a68, .ref m0a69, .ref m0a70, .ref m0a71, .ref m0a72, .ref m0a73, .ref m0a74, .ref m0a75, .long 0])), (m0a1, .inl (cI g, 6, .inl (fun _ => 0)))] H := hP
  have hD : va_D A [(m0, .inr (12, [.int 5, .ref m0a1, .int 0, .long 0, .int 0, .ref m0a5, .ref m0a6, .ref m0a7, .ref m0a8, .ref m0a9, .int 0, .ref m0a11, .ref m0a12, .ref m0a13, .ref m0a14, .ref m0a15, .ref m0a16, .int 0, .ref m0a18, .ref m0a19, .ref m0a20, .ref m0a21, .ref m0a22, .int 0, .ref m0a24, .ref m0a25, .ref m0a26, .int 0, .ref m0a28, .ref m0a29, .ref m0a30, .ref m0a31, .int 0, .ref m0a33, .ref m0a34, .ref m0a35, .ref m0a36, .ref m0a37, .ref m0a38, .ref m0a39, .ref m0a40, .ref m0a41, .ref m0a42, .ref m0a43, .ref m0a44, .ref m0a45, .ref m0a46, .ref m0a47, .int 0, .ref m0a49, .ref m0a50, .ref m0a51, .int 0, .ref m0a53, .ref m0a54, .ref m0a55, .ref m0a56, .ref m0a57, .ref m0a58, .ref m0a59, .ref m0a60, .ref m0a61, .ref m0a62, .ref m0a63, .long 0, .int 0, .int (-9), .ref m0a67, .ref m0a68, .ref m0a69, .ref m0a70, .ref m0a71, .ref m0a72, .ref m0a73, .ref m0a74, .ref m0a75, .long 0])), (m0a1, .inl (cI g, 6, .inl (fun _ => 0)))] := hD
  refine lv_aload_n hx hb dX12_meets_5 rfl (lv_at hl 0 rfl) ?_
  refine va_get (D := g.1) (ci := 12) (v := .ref m0a1) (C := RX12) (T := TX12) (N := 77) hx hb hts fw_X12 hown hK hP 0 rfl rfl 1 (by decide) (hts _ q_1467) (fun _ h9 => h9) rfl dX12_meets_6 ?_
  refine lv_iload_n hx hb dX12_meets_9 rfl (lv_at hl 1 rfl) ?_
  refine lv_dup2_11 hx hb dX12_meets_10 rfl rfl ?_
  refine va_iald hx hb hK hP 1 0 rfl rfl (by unfold vp_in; decide) dX12_meets_11 ?_
  refine lv_topk (v := 0) rfl ?_
  refine lv_iconst (v := 1) hx hb dX12_meets_12 (by decide) ?_
  refine lv_iadd hx hb dX12_meets_13 ?_
  refine lv_topk (v := 1) (by decide) ?_
  refine va_iast hx hb hK hP hD hS 1 0 rfl rfl (by unfold vp_in; decide) dX12_meets_14 (fun H locs hP hD hS => ?_)
  have hP : va_P g.1 classes [(m0, .inr (12, [.int 5, .ref m0a1, .int 0, .long 0, .int 0, .ref m0a5, .ref m0a6, .ref m0a7, .ref m0a8, .ref m0a9, .int 0, .ref m0a11, .ref m0a12, .ref m0a13, .ref m0a14, .ref m0a15, .ref m0a16, .int 0, .ref m0a18, .ref m0a19, .ref m0a20, .ref m0a21, .ref m0a22, .int 0, .ref m0a24, .ref m0a25, .ref m0a26, .int 0, .ref m0a28, .ref m0a29, .ref m0a30, .ref m0a31, .int 0, .ref m0a33, .ref m0a34, .ref m0a35, .ref m0a36, .ref m0a37, .ref m0a38, .ref m0a39, .ref m0a40, .ref m0a41, .ref m0a42, .ref m0a43, .ref m0a44, .ref m0a45, .ref m0a46, .ref m0a47, .int 0, .ref m0a49, .ref m0a50, .ref m0a51, .int 0, .ref m0a53, .ref m0a54, .ref m0a55, .ref m0a56, .ref m0a57, .ref m0a58, .ref m0a59, .ref m0a60, .ref m0a61, .ref m0a62, .ref m0a63, .long 0, .int 0, .int (-9), .ref m0a67, .ref m0a68, .ref m0a69, .ref m0a70, .ref m0a71, .ref m0a72, .ref m0a73, .ref m0a74, .ref m0a75, .long 0])), (m0a1, .inl (cI g, 6, .inl (upd (fun _ => 0) 5 1)))] H := hP
  have hD : va_D A [(m0, .inr (12, [.int 5, .ref m0a1, .int 0, .long 0, .int 0, .ref m0a5, .ref m0a6, .ref m0a7, .ref m0a8, .ref m0a9, .int 0, .ref m0a11, .ref m0a12, .ref m0a13, .ref m0a14, .ref m0a15, .ref m0a16, .int 0, .ref m0a18, .ref m0a19, .ref m0a20, .ref m0a21, .ref m0a22, .int 0, .ref m0a24, .ref m0a25, .ref m0a26, .int 0, .ref m0a28, .ref m0a29, .ref m0a30, .ref m0a31, .int 0, .ref m0a33, .ref m0a34, .ref m0a35, .ref m0a36, .ref m0a37, .ref m0a38, .ref m0a39, .ref m0a40, .ref m0a41, .ref m0a42, .ref m0a43, .ref m0a44, .ref m0a45, .ref m0a46, .ref m0a47, .int 0, .ref m0a49, .ref m0a50, .ref m0a51, .int 0, .ref m0a53, .ref m0a54, .ref m0a55, .ref m0a56, .ref m0a57, .ref m0a58, .ref m0a59, .ref m0a60, .ref m0a61, .ref m0a62, .ref m0a63, .long 0, .int 0, .int (-9), .ref m0a67, .ref m0a68, .ref m0a69, .ref m0a70, .ref m0a71, .ref m0a72, .ref m0a73, .ref m0a74, .ref m0a75, .long 0])), (m0a1, .inl (cI g, 6, .inl (upd (fun _ => 0) 5 1)))] := hD
  refine lv_bipush (v := (-3)) hx hb dX12_meets_15 (by decide) ?_
  exact rI X hK hP hD hS dX12_meets_17 (by rfl) (Nat.le_of_ble_eq_true rfl) (Nat.le_of_ble_eq_true rfl) (by show ((_, _) : Int32 × va_W) = _; unfold sp_X12_meets5; try rfl)
def sp_X12_askedRow (g : GG) (m0 : Nat) (r : Int32) (m0a1 : Nat) (m0a5 : Nat) (m0a6 : Nat) (m0a7 : Nat) (m0a8 : Nat) (m0a9 : Nat) (m0a11 : Nat) (m0a12 : Nat) (m0a13 : Nat) (m0a14 : Nat) (m0a15 : Nat) (m0a16 : Nat) (m0a18 : Nat) (m0a19 : Nat) (m0a20 : Nat) (m0a21 : Nat) (m0a22 : Nat) (m0a24 : Nat) (m0a25 : Nat) (m0a26 : Nat) (m0a28 : Nat) (m0a29 : Nat) (m0a30 : Nat) (m0a31 : Nat) (m0a33 : Nat) (m0a34 : Nat) (m0a35 : Nat) (m0a36 : Nat) (m0a37 : Nat) (m0a38 : Nat) (m0a39 : Nat) (m0a40 : Nat) (m0a41 : Nat) (m0a42 : Nat) (m0a43 : Nat) (m0a44 : Nat) (m0a45 : Nat) (m0a46 : Nat) (m0a47 : Nat) (m0a49 : Nat) (m0a50 : Nat) (m0a51 : Nat) (m0a53 : Nat) (m0a54 : Nat) (m0a55 : Nat) (m0a56 : Nat) (m0a57 : Nat) (m0a58 : Nat) (m0a59 : Nat) (m0a60 : Nat) (m0a61 : Nat) (m0a62 : Nat) (m0a63 : Nat) (m0a67 : Nat) (m0a68 : Nat) (m0a69 : Nat) (m0a70 : Nat) (m0a71 : Nat) (m0a72 : Nat) (m0a73 : Nat) (m0a74 : Nat) (m0a75 : Nat) : Int32 × va_W := if r < 0 then ((-1), [(m0, .inr (12, [.int 0, .ref m0a1, .int 0, .long 0, .int 0, .ref m0a5, .ref m0a6, .ref m0a7, .ref m0a8, .ref m0a9, .int 0, .ref m0a11, .ref m0a12, .ref m0a13, .ref m0a14, .ref m0a15, .ref m0a16, .int 0, .ref m0a18, .ref m0a19, .ref m0a20, .ref m0a21, .ref m0a22, .int 0, .ref m0a24, .ref m0a25, .ref m0a26, .int 0, .ref m0a28, .ref m0a29, .ref m0a30, .ref m0a31, .int 0, .ref m0a33, .ref m0a34, .ref m0a35, .ref m0a36, .ref m0a37, .ref m0a38, .ref m0a39, .ref m0a40, .ref m0a41, .ref m0a42, .ref m0a43, .ref m0a44, .ref m0a45, .ref m0a46, .ref m0a47, .int 0, .ref m0a49, .ref m0a50, .ref m0a51, .int 0, .ref m0a53, .ref m0a54, .ref m0a55, .ref m0a56, .ref m0a57, .ref m0a58, .ref m0a59, .ref m0a60, .ref m0a61, .ref m0a62, .ref m0a63, .long 0, .int 0, .int (-9), .ref m0a67, .ref m0a68, .ref m0a69, .ref m0a70, .ref m0a71, .ref m0a72, .ref m0a73, .ref m0a74, .ref m0a75, .long 0])), (m0a1, .inl (cI g, 6, .inl (fun _ => 0))), (m0a5, .inl (cI g, 6, .inl (fun _ => (-9))))]) else (if 5 < r then ((-1), [(m0, .inr (12, [.int 0, .ref m0a1, .int 0, .long 0, .int 0, .ref m0a5, .ref m0a6, .ref m0a7, .ref m0a8, .ref m0a9, .int 0, .ref m0a11, .ref m0a12, .ref m0a13, .ref m0a14, .ref m0a15, .ref m0a16, .int 0, .ref m0a18, .ref m0a19, .ref m0a20, .ref m0a21, .ref m0a22, .int 0, .ref m0a24, .ref m0a25, .ref m0a26, .int 0, .ref m0a28, .ref m0a29, .ref m0a30, .ref m0a31, .int 0, .ref m0a33, .ref m0a34, .ref m0a35, .ref m0a36, .ref m0a37, .ref m0a38, .ref m0a39, .ref m0a40, .ref m0a41, .ref m0a42, .ref m0a43, .ref m0a44, .ref m0a45, .ref m0a46, .ref m0a47, .int 0, .ref m0a49, .ref m0a50, .ref m0a51, .int 0, .ref m0a53, .ref m0a54, .ref m0a55, .ref m0a56, .ref m0a57, .ref m0a58, .ref m0a59, .ref m0a60, .ref m0a61, .ref m0a62, .ref m0a63, .long 0, .int 0, .int (-9), .ref m0a67, .ref m0a68, .ref m0a69, .ref m0a70, .ref m0a71, .ref m0a72, .ref m0a73, .ref m0a74, .ref m0a75, .long 0])), (m0a1, .inl (cI g, 6, .inl (fun _ => 0))), (m0a5, .inl (cI g, 6, .inl (fun _ => (-9))))]) else ((-3), [(m0a5, .inl (cI g, 6, .inl (fun _ => (-9)))), (m0, .inr (12, [.int 1, .ref m0a1, .int 0, .long 0, .int 0, .ref m0a5, .ref m0a6, .ref m0a7, .ref m0a8, .ref m0a9, .int 0, .ref m0a11, .ref m0a12, .ref m0a13, .ref m0a14, .ref m0a15, .ref m0a16, .int 0, .ref m0a18, .ref m0a19, .ref m0a20, .ref m0a21, .ref m0a22, .int 0, .ref m0a24, .ref m0a25, .ref m0a26, .int 0, .ref m0a28, .ref m0a29, .ref m0a30, .ref m0a31, .int 0, .ref m0a33, .ref m0a34, .ref m0a35, .ref m0a36, .ref m0a37, .ref m0a38, .ref m0a39, .ref m0a40, .ref m0a41, .ref m0a42, .ref m0a43, .ref m0a44, .ref m0a45, .ref m0a46, .ref m0a47, .int 0, .ref m0a49, .ref m0a50, .ref m0a51, .int 0, .ref m0a53, .ref m0a54, .ref m0a55, .ref m0a56, .ref m0a57, .ref m0a58, .ref m0a59, .ref m0a60, .ref m0a61, .ref m0a62, .ref m0a63, .long 0, .int 0, .int (-9), .ref m0a67, .ref m0a68, .ref m0a69, .ref m0a70, .ref m0a71, .ref m0a72, .ref m0a73, .ref m0a74, .ref m0a75, .long 0])), (m0a1, .inl (cI g, 6, .inl (upd (fun _ => 0) 1 1)))]))
set_option maxHeartbeats 4000000 in
set_option maxRecDepth 100000 in
theorem c_X12_askedRow (l : Launch) (g : GG) (m0 : Nat) (r : Int32) (m0a1 : Nat) (m0a5 : Nat) (m0a6 : Nat) (m0a7 : Nat) (m0a8 : Nat) (m0a9 : Nat) (m0a11 : Nat) (m0a12 : Nat) (m0a13 : Nat) (m0a14 : Nat) (m0a15 : Nat) (m0a16 : Nat) (m0a18 : Nat) (m0a19 : Nat) (m0a20 : Nat) (m0a21 : Nat) (m0a22 : Nat) (m0a24 : Nat) (m0a25 : Nat) (m0a26 : Nat) (m0a28 : Nat) (m0a29 : Nat) (m0a30 : Nat) (m0a31 : Nat) (m0a33 : Nat) (m0a34 : Nat) (m0a35 : Nat) (m0a36 : Nat) (m0a37 : Nat) (m0a38 : Nat) (m0a39 : Nat) (m0a40 : Nat) (m0a41 : Nat) (m0a42 : Nat) (m0a43 : Nat) (m0a44 : Nat) (m0a45 : Nat) (m0a46 : Nat) (m0a47 : Nat) (m0a49 : Nat) (m0a50 : Nat) (m0a51 : Nat) (m0a53 : Nat) (m0a54 : Nat) (m0a55 : Nat) (m0a56 : Nat) (m0a57 : Nat) (m0a58 : Nat) (m0a59 : Nat) (m0a60 : Nat) (m0a61 : Nat) (m0a62 : Nat) (m0a63 : Nat) (m0a67 : Nat) (m0a68 : Nat) (m0a69 : Nat) (m0a70 : Nat) (m0a71 : Nat) (m0a72 : Nat) (m0a73 : Nat) (m0a74 : Nat) (m0a75 : Nat) : MI l g yX12_askedRow cX12_askedRow 2 (some .int) 2 42 0 0 [(m0, .inr (12, [.int 0, .ref m0a1, .int 0, .long 0, .int 0, .ref m0a5, .ref m0a6, .ref m0a7, .ref m0a8, .ref m0a9, .int 0, .ref m0a11, .ref m0a12, .ref m0a13, .ref m0a14, .ref m0a15, .ref m0a16, .int 0, .ref m0a18, .ref m0a19, .ref m0a20, .ref m0a21, .ref m0a22, .int 0, .ref m0a24, .ref m0a25, .ref m0a26, .int 0, .ref m0a28, .ref m0a29, .ref m0a30, .ref m0a31, .int 0, .ref m0a33, .ref m0a34, .ref m0a35, .ref m0a36, .ref m0a37, .ref m0a38, .ref m0a39, .ref m0a40, .ref m0a41, .ref m0a42, .ref m0a43, .ref m0a44, .ref m0a45, .ref m0a46, .ref m0a47, .int 0, .ref m0a49, .ref m0a50, .ref m0a51, .int 0, .ref m0a53, .ref m0a54, .ref m0a55, .ref m0a56, .ref m0a57, .ref m0a58, .ref m0a59, .ref m0a60, .ref m0a61, .ref m0a62, .ref m0a63, .long 0, .int 0, .int (-9), .ref m0a67, .ref m0a68, .ref m0a69, .ref m0a70, .ref m0a71, .ref m0a72, .ref m0a73, .ref m0a74, .ref m0a75, .long 0])), (m0a1, .inl (cI g, 6, .inl (fun _ => 0))), (m0a5, .inl (cI g, 6, .inl (fun _ => (-9))))] [.ref m0, .int r] (fun rr_ ww_ => (rr_, ww_) = sp_X12_askedRow g m0 r m0a1 m0a5 m0a6 m0a7 m0a8 m0a9 m0a11 m0a12 m0a13 m0a14 m0a15 m0a16 m0a18 m0a19 m0a20 m0a21 m0a22 m0a24 m0a25 m0a26 m0a28 m0a29 m0a30 m0a31 m0a33 m0a34 m0a35 m0a36 m0a37 m0a38 m0a39 m0a40 m0a41 m0a42 m0a43 m0a44 m0a45 m0a46 m0a47 m0a49 m0a50 m0a51 m0a53 m0a54 m0a55 m0a56 m0a57 m0a58 m0a59 m0a60 m0a61 m0a62 m0a63 m0a67 m0a68 m0a69 m0a70 m0a71 m0a72 m0a73 m0a74 m0a75) := by
  refine met_of (fun A => va_Qi _ (bW g A) A) (by decide) (Nat.le_of_ble_eq_true rfl) ?_
  intro p e s m below meth c A ls X hK hP hD hA hZ hS hl
  have hx := X.1
  have hb := X.2.1
  have hml := X.2.2.1
  have hown := X.2.2.2.1
  have hts := X.2.2.2.2.1
  have hnm := X.2.2.2.2.2.2.2
  have hl : lv_has ls 2 [(0, .ref m0), (1, .int r)] := hl
  refine lv_iload_n hx hb dX12_askedRow_0 rfl (lv_at hl 1 rfl) ?_
  refine kSi (As := [.int r]) (rest := []) (wr := [(m0, .inr (12, [.int 0, .ref m0a1, .int 0, .long 0, .int 0, .ref m0a5, .ref m0a6, .ref m0a7, .ref m0a8, .ref m0a9, .int 0, .ref m0a11, .ref m0a12, .ref m0a13, .ref m0a14, .ref m0a15, .ref m0a16, .int 0, .ref m0a18, .ref m0a19, .ref m0a20, .ref m0a21, .ref m0a22, .int 0, .ref m0a24, .ref m0a25, .ref m0a26, .int 0, .ref m0a28, .ref m0a29, .ref m0a30, .ref m0a31, .int 0, .ref m0a33, .ref m0a34, .ref m0a35, .ref m0a36, .ref m0a37, .ref m0a38, .ref m0a39, .ref m0a40, .ref m0a41, .ref m0a42, .ref m0a43, .ref m0a44, .ref m0a45, .ref m0a46, .ref m0a47, .int 0, .ref m0a49, .ref m0a50, .ref m0a51, .int 0, .ref m0a53, .ref m0a54, .ref m0a55, .ref m0a56, .ref m0a57, .ref m0a58, .ref m0a59, .ref m0a60, .ref m0a61, .ref m0a62, .ref m0a63, .long 0, .int 0, .int (-9), .ref m0a67, .ref m0a68, .ref m0a69, .ref m0a70, .ref m0a71, .ref m0a72, .ref m0a73, .ref m0a74, .ref m0a75, .long 0])), (m0a1, .inl (cI g, 6, .inl (fun _ => 0))), (m0a5, .inl (cI g, 6, .inl (fun _ => (-9))))]) X (c_X12_isRow l g r) ok_X12_isRow q_1703 q_1702 rfl hK hP hD hS hA hZ hl.1 [] [0, 1, 2] rfl rfl rfl rfl rfl rfl (Nat.le_of_ble_eq_true rfl) ⟨Nat.le_of_ble_eq_true rfl, Nat.le_of_ble_eq_true rfl⟩ dX12_askedRow_1 ⟨Nat.le_of_ble_eq_true rfl, Nat.le_of_ble_eq_true rfl⟩ (fun r_1 w1 H locs hw_2 hP hD hS => ?_)
  rw [sp_X12_isRow] at hw_2
  rcases Classical.em (r < 0) with c_3 | c_3
  ·
    rw [if_pos c_3] at hw_2
    obtain ⟨e1, e2⟩ := Prod.mk.inj hw_2
    subst e1; subst e2
    have hP : va_P g.1 classes [(m0, .inr (12, [.int 0, .ref m0a1, .int 0, .long 0, .int 0, .ref m0a5, .ref m0a6, .ref m0a7, .ref m0a8, .ref m0a9, .int 0, .ref m0a11, .ref m0a12, .ref m0a13, .ref m0a14, .ref m0a15, .ref m0a16, .int 0, .ref m0a18, .ref m0a19, .ref m0a20, .ref m0a21, .ref m0a22, .int 0, .ref m0a24, .ref m0a25, .ref m0a26, .int 0, .ref m0a28, .ref m0a29, .ref m0a30, .ref m0a31, .int 0, .ref m0a33, .ref m0a34, .ref m0a35, .ref m0a36, .ref m0a37, .ref m0a38, .ref m0a39, .ref m0a40, .ref m0a41, .ref m0a42, .ref m0a43, .ref m0a44, .ref m0a45, .ref m0a46, .ref m0a47, .int 0, .ref m0a49, .ref m0a50, .ref m0a51, .int 0, .ref m0a53, .ref m0a54, .ref m0a55, .ref m0a56, .ref m0a57, .ref m0a58, .ref m0a59, .ref m0a60, .ref m0a61, .ref m0a62, .ref m0a63, .long 0, .int 0, .int (-9), .ref m0a67, .ref m0a68, .ref m0a69, .ref m0a70, .ref m0a71, .ref m0a72, .ref m0a73, .ref m0a74, .ref m0a75, .long 0])), (m0a1, .inl (cI g, 6, .inl (fun _ => 0))), (m0a5, .inl (cI g, 6, .inl (fun _ => (-9))))] H := hP
    have hD : va_D A [(m0, .inr (12, [.int 0, .ref m0a1, .int 0, .long 0, .int 0, .ref m0a5, .ref m0a6, .ref m0a7, .ref m0a8, .ref m0a9, .int 0, .ref m0a11, .ref m0a12, .ref m0a13, .ref m0a14, .ref m0a15, .ref m0a16, .int 0, .ref m0a18, .ref m0a19, .ref m0a20, .ref m0a21, .ref m0a22, .int 0, .ref m0a24, .ref m0a25, .ref m0a26, .int 0, .ref m0a28, .ref m0a29, .ref m0a30, .ref m0a31, .int 0, .ref m0a33, .ref m0a34, .ref m0a35, .ref m0a36, .ref m0a37, .ref m0a38, .ref m0a39, .ref m0a40, .ref m0a41, .ref m0a42, .ref m0a43, .ref m0a44, .ref m0a45, .ref m0a46, .ref m0a47, .int 0, .ref m0a49, .ref m0a50, .ref m0a51, .int 0, .ref m0a53, .ref m0a54, .ref m0a55, .ref m0a56, .ref m0a57, .ref m0a58, .ref m0a59, .ref m0a60, .ref m0a61, .ref m0a62, .ref m0a63, .long 0, .int 0, .int (-9), .ref m0a67, .ref m0a68, .ref m0a69, .ref m0a70, .ref m0a71, .ref m0a72, .ref m0a73, .ref m0a74, .ref m0a75, .long 0])), (m0a1, .inl (cI g, 6, .inl (fun _ => 0))), (m0a5, .inl (cI g, 6, .inl (fun _ => (-9))))] := hD
    refine lv_if_ne (tgt := 11) hx hb dX12_askedRow_4 (by decide) (fun c_4 => absurd (by decide) c_4) (fun _ => ?_)
    refine lv_iconst (v := (-1)) hx hb dX12_askedRow_7 (by decide) ?_
    refine lv_goto (tgt := 29) hx hb dX12_askedRow_8 (by decide) ?_
    exact rI X hK hP hD hS dX12_askedRow_29 (by rfl) (Nat.le_of_ble_eq_true rfl) (Nat.le_of_ble_eq_true rfl) (by show ((_, _) : Int32 × va_W) = _; unfold sp_X12_askedRow; rw [if_pos c_3]; try rfl)
  ·
    rw [if_neg c_3] at hw_2
    rcases Classical.em (5 < r) with c_5 | c_5
    ·
      rw [if_pos c_5] at hw_2
      obtain ⟨e1, e2⟩ := Prod.mk.inj hw_2
      subst e1; subst e2
      have hP : va_P g.1 classes [(m0, .inr (12, [.int 0, .ref m0a1, .int 0, .long 0, .int 0, .ref m0a5, .ref m0a6, .ref m0a7, .ref m0a8, .ref m0a9, .int 0, .ref m0a11, .ref m0a12, .ref m0a13, .ref m0a14, .ref m0a15, .ref m0a16, .int 0, .ref m0a18, .ref m0a19, .ref m0a20, .ref m0a21, .ref m0a22, .int 0, .ref m0a24, .ref m0a25, .ref m0a26, .int 0, .ref m0a28, .ref m0a29, .ref m0a30, .ref m0a31, .int 0, .ref m0a33, .ref m0a34, .ref m0a35, .ref m0a36, .ref m0a37, .ref m0a38, .ref m0a39, .ref m0a40, .ref m0a41, .ref m0a42, .ref m0a43, .ref m0a44, .ref m0a45, .ref m0a46, .ref m0a47, .int 0, .ref m0a49, .ref m0a50, .ref m0a51, .int 0, .ref m0a53, .ref m0a54, .ref m0a55, .ref m0a56, .ref m0a57, .ref m0a58, .ref m0a59, .ref m0a60, .ref m0a61, .ref m0a62, .ref m0a63, .long 0, .int 0, .int (-9), .ref m0a67, .ref m0a68, .ref m0a69, .ref m0a70, .ref m0a71, .ref m0a72, .ref m0a73, .ref m0a74, .ref m0a75, .long 0])), (m0a1, .inl (cI g, 6, .inl (fun _ => 0))), (m0a5, .inl (cI g, 6, .inl (fun _ => (-9))))] H := hP
      have hD : va_D A [(m0, .inr (12, [.int 0, .ref m0a1, .int 0, .long 0, .int 0, .ref m0a5, .ref m0a6, .ref m0a7, .ref m0a8, .ref m0a9, .int 0, .ref m0a11, .ref m0a12, .ref m0a13, .ref m0a14, .ref m0a15, .ref m0a16, .int 0, .ref m0a18, .ref m0a19, .ref m0a20, .ref m0a21, .ref m0a22, .int 0, .ref m0a24, .ref m0a25, .ref m0a26, .int 0, .ref m0a28, .ref m0a29, .ref m0a30, .ref m0a31, .int 0, .ref m0a33, .ref m0a34, .ref m0a35, .ref m0a36, .ref m0a37, .ref m0a38, .ref m0a39, .ref m0a40, .ref m0a41, .ref m0a42, .ref m0a43, .ref m0a44, .ref m0a45, .ref m0a46, .ref m0a47, .int 0, .ref m0a49, .ref m0a50, .ref m0a51, .int 0, .ref m0a53, .ref m0a54, .ref m0a55, .ref m0a56, .ref m0a57, .ref m0a58, .ref m0a59, .ref m0a60, .ref m0a61, .ref m0a62, .ref m0a63, .long 0, .int 0, .int (-9), .ref m0a67, .ref m0a68, .ref m0a69, .ref m0a70, .ref m0a71, .ref m0a72, .ref m0a73, .ref m0a74, .ref m0a75, .long 0])), (m0a1, .inl (cI g, 6, .inl (fun _ => 0))), (m0a5, .inl (cI g, 6, .inl (fun _ => (-9))))] := hD
      refine lv_if_ne (tgt := 11) hx hb dX12_askedRow_4 (by decide) (fun c_6 => absurd (by decide) c_6) (fun _ => ?_)
      refine lv_iconst (v := (-1)) hx hb dX12_askedRow_7 (by decide) ?_
      refine lv_goto (tgt := 29) hx hb dX12_askedRow_8 (by decide) ?_
      exact rI X hK hP hD hS dX12_askedRow_29 (by rfl) (Nat.le_of_ble_eq_true rfl) (Nat.le_of_ble_eq_true rfl) (by show ((_, _) : Int32 × va_W) = _; unfold sp_X12_askedRow; rw [if_neg c_3, if_pos c_5]; try rfl)
    ·
      rw [if_neg c_5] at hw_2
      obtain ⟨e1, e2⟩ := Prod.mk.inj hw_2
      subst e1; subst e2
      have hP : va_P g.1 classes [(m0, .inr (12, [.int 0, .ref m0a1, .int 0, .long 0, .int 0, .ref m0a5, .ref m0a6, .ref m0a7, .ref m0a8, .ref m0a9, .int 0, .ref m0a11, .ref m0a12, .ref m0a13, .ref m0a14, .ref m0a15, .ref m0a16, .int 0, .ref m0a18, .ref m0a19, .ref m0a20, .ref m0a21, .ref m0a22, .int 0, .ref m0a24, .ref m0a25, .ref m0a26, .int 0, .ref m0a28, .ref m0a29, .ref m0a30, .ref m0a31, .int 0, .ref m0a33, .ref m0a34, .ref m0a35, .ref m0a36, .ref m0a37, .ref m0a38, .ref m0a39, .ref m0a40, .ref m0a41, .ref m0a42, .ref m0a43, .ref m0a44, .ref m0a45, .ref m0a46, .ref m0a47, .int 0, .ref m0a49, .ref m0a50, .ref m0a51, .int 0, .ref m0a53, .ref m0a54, .ref m0a55, .ref m0a56, .ref m0a57, .ref m0a58, .ref m0a59, .ref m0a60, .ref m0a61, .ref m0a62, .ref m0a63, .long 0, .int 0, .int (-9), .ref m0a67, .ref m0a68, .ref m0a69, .ref m0a70, .ref m0a71, .ref m0a72, .ref m0a73, .ref m0a74, .ref m0a75, .long 0])), (m0a1, .inl (cI g, 6, .inl (fun _ => 0))), (m0a5, .inl (cI g, 6, .inl (fun _ => (-9))))] H := hP
      have hD : va_D A [(m0, .inr (12, [.int 0, .ref m0a1, .int 0, .long 0, .int 0, .ref m0a5, .ref m0a6, .ref m0a7, .ref m0a8, .ref m0a9, .int 0, .ref m0a11, .ref m0a12, .ref m0a13, .ref m0a14, .ref m0a15, .ref m0a16, .int 0, .ref m0a18, .ref m0a19, .ref m0a20, .ref m0a21, .ref m0a22, .int 0, .ref m0a24, .ref m0a25, .ref m0a26, .int 0, .ref m0a28, .ref m0a29, .ref m0a30, .ref m0a31, .int 0, .ref m0a33, .ref m0a34, .ref m0a35, .ref m0a36, .ref m0a37, .ref m0a38, .ref m0a39, .ref m0a40, .ref m0a41, .ref m0a42, .ref m0a43, .ref m0a44, .ref m0a45, .ref m0a46, .ref m0a47, .int 0, .ref m0a49, .ref m0a50, .ref m0a51, .int 0, .ref m0a53, .ref m0a54, .ref m0a55, .ref m0a56, .ref m0a57, .ref m0a58, .ref m0a59, .ref m0a60, .ref m0a61, .ref m0a62, .ref m0a63, .long 0, .int 0, .int (-9), .ref m0a67, .ref m0a68, .ref m0a69, .ref m0a70, .ref m0a71, .ref m0a72, .ref m0a73, .ref m0a74, .ref m0a75, .long 0])), (m0a1, .inl (cI g, 6, .inl (fun _ => 0))), (m0a5, .inl (cI g, 6, .inl (fun _ => (-9))))] := hD
      refine lv_if_ne (tgt := 11) hx hb dX12_askedRow_4 (by decide) (fun _ => ?_) (fun c_7 => absurd c_7 (by decide))
      refine lv_aload_n hx hb dX12_askedRow_11 rfl (lv_at hl 0 rfl) ?_
      refine va_get (D := g.1) (ci := 12) (v := .ref m0a5) (C := RX12) (T := TX12) (N := 77) hx hb hts fw_X12 hown hK hP 0 rfl rfl 5 (by decide) (hts _ q_1471) (fun _ h9 => h9) rfl dX12_askedRow_12 ?_
      refine lv_iload_n hx hb dX12_askedRow_15 rfl (lv_at hl 1 rfl) ?_
      refine va_iald hx hb hK hP 2 0 rfl rfl (vp_in_iff.mpr (by simp only [i32lt, i32le, i32eq, Int32.reduceToInt] at c_3 c_5; omega)) dX12_askedRow_16 ?_
      refine lv_topk (v := (-9)) rfl ?_
      refine lv_if_ge (tgt := 28) hx hb dX12_askedRow_17 (by decide) (fun c_8 => absurd c_8 (by decide)) (fun _ => ?_)
      refine lv_aload_n hx hb dX12_askedRow_20 rfl (lv_at hl 0 rfl) ?_
      refine lv_iconst (v := 1) hx hb dX12_askedRow_21 (by decide) ?_
      refine kVi (As := [.int 1]) (rest := []) (wr := [(m0a5, .inl (cI g, 6, .inl (fun _ => (-9))))]) X (c_X12_meets1 l g m0 m0a1 m0a5 m0a6 m0a7 m0a8 m0a9 m0a11 m0a12 m0a13 m0a14 m0a15 m0a16 m0a18 m0a19 m0a20 m0a21 m0a22 m0a24 m0a25 m0a26 m0a28 m0a29 m0a30 m0a31 m0a33 m0a34 m0a35 m0a36 m0a37 m0a38 m0a39 m0a40 m0a41 m0a42 m0a43 m0a44 m0a45 m0a46 m0a47 m0a49 m0a50 m0a51 m0a53 m0a54 m0a55 m0a56 m0a57 m0a58 m0a59 m0a60 m0a61 m0a62 m0a63 m0a67 m0a68 m0a69 m0a70 m0a71 m0a72 m0a73 m0a74 m0a75) ok_X12_meets okv_X12_meets q_1708 rfl hK hP hD hS hA hZ hl.1 [0, 1] [2] rfl rfl rfl rfl rfl 0 12 rfl rfl rfl (Nat.le_of_ble_eq_true rfl) ⟨Nat.le_of_ble_eq_true rfl, Nat.le_of_ble_eq_true rfl⟩ dX12_askedRow_22 ⟨Nat.le_of_ble_eq_true rfl, Nat.le_of_ble_eq_true rfl⟩ (fun r_9 w1 H locs hw_10 hP hD hS => ?_)
      rw [sp_X12_meets1] at hw_10
      obtain ⟨e1, e2⟩ := Prod.mk.inj hw_10
      subst e1; subst e2
      have hP : va_P g.1 classes [(m0a5, .inl (cI g, 6, .inl (fun _ => (-9)))), (m0, .inr (12, [.int 1, .ref m0a1, .int 0, .long 0, .int 0, .ref m0a5, .ref m0a6, .ref m0a7, .ref m0a8, .ref m0a9, .int 0, .ref m0a11, .ref m0a12, .ref m0a13, .ref m0a14, .ref m0a15, .ref m0a16, .int 0, .ref m0a18, .ref m0a19, .ref m0a20, .ref m0a21, .ref m0a22, .int 0, .ref m0a24, .ref m0a25, .ref m0a26, .int 0, .ref m0a28, .ref m0a29, .ref m0a30, .ref m0a31, .int 0, .ref m0a33, .ref m0a34, .ref m0a35, .ref m0a36, .ref m0a37, .ref m0a38, .ref m0a39, .ref m0a40, .ref m0a41, .ref m0a42, .ref m0a43, .ref m0a44, .ref m0a45, .ref m0a46, .ref m0a47, .int 0, .ref m0a49, .ref m0a50, .ref m0a51, .int 0, .ref m0a53, .ref m0a54, .ref m0a55, .ref m0a56, .ref m0a57, .ref m0a58, .ref m0a59, .ref m0a60, .ref m0a61, .ref m0a62, .ref m0a63, .long 0, .int 0, .int (-9), .ref m0a67, .ref m0a68, .ref m0a69, .ref m0a70, .ref m0a71, .ref m0a72, .ref m0a73, .ref m0a74, .ref m0a75, .long 0])), (m0a1, .inl (cI g, 6, .inl (upd (fun _ => 0) 1 1)))] H := hP
      have hD : va_D A [(m0a5, .inl (cI g, 6, .inl (fun _ => (-9)))), (m0, .inr (12, [.int 1, .ref m0a1, .int 0, .long 0, .int 0, .ref m0a5, .ref m0a6, .ref m0a7, .ref m0a8, .ref m0a9, .int 0, .ref m0a11, .ref m0a12, .ref m0a13, .ref m0a14, .ref m0a15, .ref m0a16, .int 0, .ref m0a18, .ref m0a19, .ref m0a20, .ref m0a21, .ref m0a22, .int 0, .ref m0a24, .ref m0a25, .ref m0a26, .int 0, .ref m0a28, .ref m0a29, .ref m0a30, .ref m0a31, .int 0, .ref m0a33, .ref m0a34, .ref m0a35, .ref m0a36, .ref m0a37, .ref m0a38, .ref m0a39, .ref m0a40, .ref m0a41, .ref m0a42, .ref m0a43, .ref m0a44, .ref m0a45, .ref m0a46, .ref m0a47, .int 0, .ref m0a49, .ref m0a50, .ref m0a51, .int 0, .ref m0a53, .ref m0a54, .ref m0a55, .ref m0a56, .ref m0a57, .ref m0a58, .ref m0a59, .ref m0a60, .ref m0a61, .ref m0a62, .ref m0a63, .long 0, .int 0, .int (-9), .ref m0a67, .ref m0a68, .ref m0a69, .ref m0a70, .ref m0a71, .ref m0a72, .ref m0a73, .ref m0a74, .ref m0a75, .long 0])), (m0a1, .inl (cI g, 6, .inl (upd (fun _ => 0) 1 1)))] := hD
      refine lv_goto (tgt := 29) hx hb dX12_askedRow_25 (by decide) ?_
      exact rI X hK hP hD hS dX12_askedRow_29 (by rfl) (Nat.le_of_ble_eq_true rfl) (Nat.le_of_ble_eq_true rfl) (by show ((_, _) : Int32 × va_W) = _; unfold sp_X12_askedRow; rw [if_neg c_3, if_neg c_5]; try rfl)
def sp_X12_askedText (g : GG) (m0 : Nat) (r : Int32) (m0a1 : Nat) (m0a5 : Nat) (m0a6 : Nat) (m0a7 : Nat) (m0a8 : Nat) (m0a9 : Nat) (m0a11 : Nat) (m0a12 : Nat) (m0a13 : Nat) (m0a14 : Nat) (m0a15 : Nat) (m0a16 : Nat) (m0a18 : Nat) (m0a19 : Nat) (m0a20 : Nat) (m0a21 : Nat) (m0a22 : Nat) (m0a24 : Nat) (m0a25 : Nat) (m0a26 : Nat) (m0a28 : Nat) (m0a29 : Nat) (m0a30 : Nat) (m0a31 : Nat) (m0a33 : Nat) (m0a34 : Nat) (m0a35 : Nat) (m0a36 : Nat) (m0a37 : Nat) (m0a38 : Nat) (m0a39 : Nat) (m0a40 : Nat) (m0a41 : Nat) (m0a42 : Nat) (m0a43 : Nat) (m0a44 : Nat) (m0a45 : Nat) (m0a46 : Nat) (m0a47 : Nat) (m0a49 : Nat) (m0a50 : Nat) (m0a51 : Nat) (m0a53 : Nat) (m0a54 : Nat) (m0a55 : Nat) (m0a56 : Nat) (m0a57 : Nat) (m0a58 : Nat) (m0a59 : Nat) (m0a60 : Nat) (m0a61 : Nat) (m0a62 : Nat) (m0a63 : Nat) (m0a67 : Nat) (m0a68 : Nat) (m0a69 : Nat) (m0a70 : Nat) (m0a71 : Nat) (m0a72 : Nat) (m0a73 : Nat) (m0a74 : Nat) (m0a75 : Nat) : Int32 × va_W := if r < 0 then ((-1), [(m0, .inr (12, [.int 0, .ref m0a1, .int 0, .long 0, .int 0, .ref m0a5, .ref m0a6, .ref m0a7, .ref m0a8, .ref m0a9, .int 0, .ref m0a11, .ref m0a12, .ref m0a13, .ref m0a14, .ref m0a15, .ref m0a16, .int 0, .ref m0a18, .ref m0a19, .ref m0a20, .ref m0a21, .ref m0a22, .int 0, .ref m0a24, .ref m0a25, .ref m0a26, .int 0, .ref m0a28, .ref m0a29, .ref m0a30, .ref m0a31, .int 0, .ref m0a33, .ref m0a34, .ref m0a35, .ref m0a36, .ref m0a37, .ref m0a38, .ref m0a39, .ref m0a40, .ref m0a41, .ref m0a42, .ref m0a43, .ref m0a44, .ref m0a45, .ref m0a46, .ref m0a47, .int 0, .ref m0a49, .ref m0a50, .ref m0a51, .int 0, .ref m0a53, .ref m0a54, .ref m0a55, .ref m0a56, .ref m0a57, .ref m0a58, .ref m0a59, .ref m0a60, .ref m0a61, .ref m0a62, .ref m0a63, .long 0, .int 0, .int (-9), .ref m0a67, .ref m0a68, .ref m0a69, .ref m0a70, .ref m0a71, .ref m0a72, .ref m0a73, .ref m0a74, .ref m0a75, .long 0])), (m0a1, .inl (cI g, 6, .inl (fun _ => 0))), (m0a8, .inl (cI g, 4, .inl (fun _ => (-9))))]) else (if 3 < r then ((-1), [(m0, .inr (12, [.int 0, .ref m0a1, .int 0, .long 0, .int 0, .ref m0a5, .ref m0a6, .ref m0a7, .ref m0a8, .ref m0a9, .int 0, .ref m0a11, .ref m0a12, .ref m0a13, .ref m0a14, .ref m0a15, .ref m0a16, .int 0, .ref m0a18, .ref m0a19, .ref m0a20, .ref m0a21, .ref m0a22, .int 0, .ref m0a24, .ref m0a25, .ref m0a26, .int 0, .ref m0a28, .ref m0a29, .ref m0a30, .ref m0a31, .int 0, .ref m0a33, .ref m0a34, .ref m0a35, .ref m0a36, .ref m0a37, .ref m0a38, .ref m0a39, .ref m0a40, .ref m0a41, .ref m0a42, .ref m0a43, .ref m0a44, .ref m0a45, .ref m0a46, .ref m0a47, .int 0, .ref m0a49, .ref m0a50, .ref m0a51, .int 0, .ref m0a53, .ref m0a54, .ref m0a55, .ref m0a56, .ref m0a57, .ref m0a58, .ref m0a59, .ref m0a60, .ref m0a61, .ref m0a62, .ref m0a63, .long 0, .int 0, .int (-9), .ref m0a67, .ref m0a68, .ref m0a69, .ref m0a70, .ref m0a71, .ref m0a72, .ref m0a73, .ref m0a74, .ref m0a75, .long 0])), (m0a1, .inl (cI g, 6, .inl (fun _ => 0))), (m0a8, .inl (cI g, 4, .inl (fun _ => (-9))))]) else ((-3), [(m0a8, .inl (cI g, 4, .inl (fun _ => (-9)))), (m0, .inr (12, [.int 1, .ref m0a1, .int 0, .long 0, .int 0, .ref m0a5, .ref m0a6, .ref m0a7, .ref m0a8, .ref m0a9, .int 0, .ref m0a11, .ref m0a12, .ref m0a13, .ref m0a14, .ref m0a15, .ref m0a16, .int 0, .ref m0a18, .ref m0a19, .ref m0a20, .ref m0a21, .ref m0a22, .int 0, .ref m0a24, .ref m0a25, .ref m0a26, .int 0, .ref m0a28, .ref m0a29, .ref m0a30, .ref m0a31, .int 0, .ref m0a33, .ref m0a34, .ref m0a35, .ref m0a36, .ref m0a37, .ref m0a38, .ref m0a39, .ref m0a40, .ref m0a41, .ref m0a42, .ref m0a43, .ref m0a44, .ref m0a45, .ref m0a46, .ref m0a47, .int 0, .ref m0a49, .ref m0a50, .ref m0a51, .int 0, .ref m0a53, .ref m0a54, .ref m0a55, .ref m0a56, .ref m0a57, .ref m0a58, .ref m0a59, .ref m0a60, .ref m0a61, .ref m0a62, .ref m0a63, .long 0, .int 0, .int (-9), .ref m0a67, .ref m0a68, .ref m0a69, .ref m0a70, .ref m0a71, .ref m0a72, .ref m0a73, .ref m0a74, .ref m0a75, .long 0])), (m0a1, .inl (cI g, 6, .inl (upd (fun _ => 0) 1 1)))]))
set_option maxHeartbeats 4000000 in
set_option maxRecDepth 100000 in
theorem c_X12_askedText (l : Launch) (g : GG) (m0 : Nat) (r : Int32) (m0a1 : Nat) (m0a5 : Nat) (m0a6 : Nat) (m0a7 : Nat) (m0a8 : Nat) (m0a9 : Nat) (m0a11 : Nat) (m0a12 : Nat) (m0a13 : Nat) (m0a14 : Nat) (m0a15 : Nat) (m0a16 : Nat) (m0a18 : Nat) (m0a19 : Nat) (m0a20 : Nat) (m0a21 : Nat) (m0a22 : Nat) (m0a24 : Nat) (m0a25 : Nat) (m0a26 : Nat) (m0a28 : Nat) (m0a29 : Nat) (m0a30 : Nat) (m0a31 : Nat) (m0a33 : Nat) (m0a34 : Nat) (m0a35 : Nat) (m0a36 : Nat) (m0a37 : Nat) (m0a38 : Nat) (m0a39 : Nat) (m0a40 : Nat) (m0a41 : Nat) (m0a42 : Nat) (m0a43 : Nat) (m0a44 : Nat) (m0a45 : Nat) (m0a46 : Nat) (m0a47 : Nat) (m0a49 : Nat) (m0a50 : Nat) (m0a51 : Nat) (m0a53 : Nat) (m0a54 : Nat) (m0a55 : Nat) (m0a56 : Nat) (m0a57 : Nat) (m0a58 : Nat) (m0a59 : Nat) (m0a60 : Nat) (m0a61 : Nat) (m0a62 : Nat) (m0a63 : Nat) (m0a67 : Nat) (m0a68 : Nat) (m0a69 : Nat) (m0a70 : Nat) (m0a71 : Nat) (m0a72 : Nat) (m0a73 : Nat) (m0a74 : Nat) (m0a75 : Nat) : MI l g yX12_askedText cX12_askedText 2 (some .int) 2 42 0 0 [(m0, .inr (12, [.int 0, .ref m0a1, .int 0, .long 0, .int 0, .ref m0a5, .ref m0a6, .ref m0a7, .ref m0a8, .ref m0a9, .int 0, .ref m0a11, .ref m0a12, .ref m0a13, .ref m0a14, .ref m0a15, .ref m0a16, .int 0, .ref m0a18, .ref m0a19, .ref m0a20, .ref m0a21, .ref m0a22, .int 0, .ref m0a24, .ref m0a25, .ref m0a26, .int 0, .ref m0a28, .ref m0a29, .ref m0a30, .ref m0a31, .int 0, .ref m0a33, .ref m0a34, .ref m0a35, .ref m0a36, .ref m0a37, .ref m0a38, .ref m0a39, .ref m0a40, .ref m0a41, .ref m0a42, .ref m0a43, .ref m0a44, .ref m0a45, .ref m0a46, .ref m0a47, .int 0, .ref m0a49, .ref m0a50, .ref m0a51, .int 0, .ref m0a53, .ref m0a54, .ref m0a55, .ref m0a56, .ref m0a57, .ref m0a58, .ref m0a59, .ref m0a60, .ref m0a61, .ref m0a62, .ref m0a63, .long 0, .int 0, .int (-9), .ref m0a67, .ref m0a68, .ref m0a69, .ref m0a70, .ref m0a71, .ref m0a72, .ref m0a73, .ref m0a74, .ref m0a75, .long 0])), (m0a1, .inl (cI g, 6, .inl (fun _ => 0))), (m0a8, .inl (cI g, 4, .inl (fun _ => (-9))))] [.ref m0, .int r] (fun rr_ ww_ => (rr_, ww_) = sp_X12_askedText g m0 r m0a1 m0a5 m0a6 m0a7 m0a8 m0a9 m0a11 m0a12 m0a13 m0a14 m0a15 m0a16 m0a18 m0a19 m0a20 m0a21 m0a22 m0a24 m0a25 m0a26 m0a28 m0a29 m0a30 m0a31 m0a33 m0a34 m0a35 m0a36 m0a37 m0a38 m0a39 m0a40 m0a41 m0a42 m0a43 m0a44 m0a45 m0a46 m0a47 m0a49 m0a50 m0a51 m0a53 m0a54 m0a55 m0a56 m0a57 m0a58 m0a59 m0a60 m0a61 m0a62 m0a63 m0a67 m0a68 m0a69 m0a70 m0a71 m0a72 m0a73 m0a74 m0a75) := by
  refine met_of (fun A => va_Qi _ (bW g A) A) (by decide) (Nat.le_of_ble_eq_true rfl) ?_
  intro p e s m below meth c A ls X hK hP hD hA hZ hS hl
  have hx := X.1
  have hb := X.2.1
  have hml := X.2.2.1
  have hown := X.2.2.2.1
  have hts := X.2.2.2.2.1
  have hnm := X.2.2.2.2.2.2.2
  have hl : lv_has ls 2 [(0, .ref m0), (1, .int r)] := hl
  refine lv_iload_n hx hb dX12_askedText_0 rfl (lv_at hl 1 rfl) ?_
  refine kSi (As := [.int r]) (rest := []) (wr := [(m0, .inr (12, [.int 0, .ref m0a1, .int 0, .long 0, .int 0, .ref m0a5, .ref m0a6, .ref m0a7, .ref m0a8, .ref m0a9, .int 0, .ref m0a11, .ref m0a12, .ref m0a13, .ref m0a14, .ref m0a15, .ref m0a16, .int 0, .ref m0a18, .ref m0a19, .ref m0a20, .ref m0a21, .ref m0a22, .int 0, .ref m0a24, .ref m0a25, .ref m0a26, .int 0, .ref m0a28, .ref m0a29, .ref m0a30, .ref m0a31, .int 0, .ref m0a33, .ref m0a34, .ref m0a35, .ref m0a36, .ref m0a37, .ref m0a38, .ref m0a39, .ref m0a40, .ref m0a41, .ref m0a42, .ref m0a43, .ref m0a44, .ref m0a45, .ref m0a46, .ref m0a47, .int 0, .ref m0a49, .ref m0a50, .ref m0a51, .int 0, .ref m0a53, .ref m0a54, .ref m0a55, .ref m0a56, .ref m0a57, .ref m0a58, .ref m0a59, .ref m0a60, .ref m0a61, .ref m0a62, .ref m0a63, .long 0, .int 0, .int (-9), .ref m0a67, .ref m0a68, .ref m0a69, .ref m0a70, .ref m0a71, .ref m0a72, .ref m0a73, .ref m0a74, .ref m0a75, .long 0])), (m0a1, .inl (cI g, 6, .inl (fun _ => 0))), (m0a8, .inl (cI g, 4, .inl (fun _ => (-9))))]) X (c_X12_isText l g r) ok_X12_isText q_1733 q_1732 rfl hK hP hD hS hA hZ hl.1 [] [0, 1, 2] rfl rfl rfl rfl rfl rfl (Nat.le_of_ble_eq_true rfl) ⟨Nat.le_of_ble_eq_true rfl, Nat.le_of_ble_eq_true rfl⟩ dX12_askedText_1 ⟨Nat.le_of_ble_eq_true rfl, Nat.le_of_ble_eq_true rfl⟩ (fun r_1 w1 H locs hw_2 hP hD hS => ?_)
  rw [sp_X12_isText] at hw_2
  rcases Classical.em (r < 0) with c_3 | c_3
  ·
    rw [if_pos c_3] at hw_2
    obtain ⟨e1, e2⟩ := Prod.mk.inj hw_2
    subst e1; subst e2
    have hP : va_P g.1 classes [(m0, .inr (12, [.int 0, .ref m0a1, .int 0, .long 0, .int 0, .ref m0a5, .ref m0a6, .ref m0a7, .ref m0a8, .ref m0a9, .int 0, .ref m0a11, .ref m0a12, .ref m0a13, .ref m0a14, .ref m0a15, .ref m0a16, .int 0, .ref m0a18, .ref m0a19, .ref m0a20, .ref m0a21, .ref m0a22, .int 0, .ref m0a24, .ref m0a25, .ref m0a26, .int 0, .ref m0a28, .ref m0a29, .ref m0a30, .ref m0a31, .int 0, .ref m0a33, .ref m0a34, .ref m0a35, .ref m0a36, .ref m0a37, .ref m0a38, .ref m0a39, .ref m0a40, .ref m0a41, .ref m0a42, .ref m0a43, .ref m0a44, .ref m0a45, .ref m0a46, .ref m0a47, .int 0, .ref m0a49, .ref m0a50, .ref m0a51, .int 0, .ref m0a53, .ref m0a54, .ref m0a55, .ref m0a56, .ref m0a57, .ref m0a58, .ref m0a59, .ref m0a60, .ref m0a61, .ref m0a62, .ref m0a63, .long 0, .int 0, .int (-9), .ref m0a67, .ref m0a68, .ref m0a69, .ref m0a70, .ref m0a71, .ref m0a72, .ref m0a73, .ref m0a74, .ref m0a75, .long 0])), (m0a1, .inl (cI g, 6, .inl (fun _ => 0))), (m0a8, .inl (cI g, 4, .inl (fun _ => (-9))))] H := hP
    have hD : va_D A [(m0, .inr (12, [.int 0, .ref m0a1, .int 0, .long 0, .int 0, .ref m0a5, .ref m0a6, .ref m0a7, .ref m0a8, .ref m0a9, .int 0, .ref m0a11, .ref m0a12, .ref m0a13, .ref m0a14, .ref m0a15, .ref m0a16, .int 0, .ref m0a18, .ref m0a19, .ref m0a20, .ref m0a21, .ref m0a22, .int 0, .ref m0a24, .ref m0a25, .ref m0a26, .int 0, .ref m0a28, .ref m0a29, .ref m0a30, .ref m0a31, .int 0, .ref m0a33, .ref m0a34, .ref m0a35, .ref m0a36, .ref m0a37, .ref m0a38, .ref m0a39, .ref m0a40, .ref m0a41, .ref m0a42, .ref m0a43, .ref m0a44, .ref m0a45, .ref m0a46, .ref m0a47, .int 0, .ref m0a49, .ref m0a50, .ref m0a51, .int 0, .ref m0a53, .ref m0a54, .ref m0a55, .ref m0a56, .ref m0a57, .ref m0a58, .ref m0a59, .ref m0a60, .ref m0a61, .ref m0a62, .ref m0a63, .long 0, .int 0, .int (-9), .ref m0a67, .ref m0a68, .ref m0a69, .ref m0a70, .ref m0a71, .ref m0a72, .ref m0a73, .ref m0a74, .ref m0a75, .long 0])), (m0a1, .inl (cI g, 6, .inl (fun _ => 0))), (m0a8, .inl (cI g, 4, .inl (fun _ => (-9))))] := hD
    refine lv_if_ne (tgt := 11) hx hb dX12_askedText_4 (by decide) (fun c_4 => absurd (by decide) c_4) (fun _ => ?_)
    refine lv_iconst (v := (-1)) hx hb dX12_askedText_7 (by decide) ?_
    refine lv_goto (tgt := 29) hx hb dX12_askedText_8 (by decide) ?_
    exact rI X hK hP hD hS dX12_askedText_29 (by rfl) (Nat.le_of_ble_eq_true rfl) (Nat.le_of_ble_eq_true rfl) (by show ((_, _) : Int32 × va_W) = _; unfold sp_X12_askedText; rw [if_pos c_3]; try rfl)
  ·
    rw [if_neg c_3] at hw_2
    rcases Classical.em (3 < r) with c_5 | c_5
    ·
      rw [if_pos c_5] at hw_2
      obtain ⟨e1, e2⟩ := Prod.mk.inj hw_2
      subst e1; subst e2
      have hP : va_P g.1 classes [(m0, .inr (12, [.int 0, .ref m0a1, .int 0, .long 0, .int 0, .ref m0a5, .ref m0a6, .ref m0a7, .ref m0a8, .ref m0a9, .int 0, .ref m0a11, .ref m0a12, .ref m0a13, .ref m0a14, .ref m0a15, .ref m0a16, .int 0, .ref m0a18, .ref m0a19, .ref m0a20, .ref m0a21, .ref m0a22, .int 0, .ref m0a24, .ref m0a25, .ref m0a26, .int 0, .ref m0a28, .ref m0a29, .ref m0a30, .ref m0a31, .int 0, .ref m0a33, .ref m0a34, .ref m0a35, .ref m0a36, .ref m0a37, .ref m0a38, .ref m0a39, .ref m0a40, .ref m0a41, .ref m0a42, .ref m0a43, .ref m0a44, .ref m0a45, .ref m0a46, .ref m0a47, .int 0, .ref m0a49, .ref m0a50, .ref m0a51, .int 0, .ref m0a53, .ref m0a54, .ref m0a55, .ref m0a56, .ref m0a57, .ref m0a58, .ref m0a59, .ref m0a60, .ref m0a61, .ref m0a62, .ref m0a63, .long 0, .int 0, .int (-9), .ref m0a67, .ref m0a68, .ref m0a69, .ref m0a70, .ref m0a71, .ref m0a72, .ref m0a73, .ref m0a74, .ref m0a75, .long 0])), (m0a1, .inl (cI g, 6, .inl (fun _ => 0))), (m0a8, .inl (cI g, 4, .inl (fun _ => (-9))))] H := hP
      have hD : va_D A [(m0, .inr (12, [.int 0, .ref m0a1, .int 0, .long 0, .int 0, .ref m0a5, .ref m0a6, .ref m0a7, .ref m0a8, .ref m0a9, .int 0, .ref m0a11, .ref m0a12, .ref m0a13, .ref m0a14, .ref m0a15, .ref m0a16, .int 0, .ref m0a18, .ref m0a19, .ref m0a20, .ref m0a21, .ref m0a22, .int 0, .ref m0a24, .ref m0a25, .ref m0a26, .int 0, .ref m0a28, .ref m0a29, .ref m0a30, .ref m0a31, .int 0, .ref m0a33, .ref m0a34, .ref m0a35, .ref m0a36, .ref m0a37, .ref m0a38, .ref m0a39, .ref m0a40, .ref m0a41, .ref m0a42, .ref m0a43, .ref m0a44, .ref m0a45, .ref m0a46, .ref m0a47, .int 0, .ref m0a49, .ref m0a50, .ref m0a51, .int 0, .ref m0a53, .ref m0a54, .ref m0a55, .ref m0a56, .ref m0a57, .ref m0a58, .ref m0a59, .ref m0a60, .ref m0a61, .ref m0a62, .ref m0a63, .long 0, .int 0, .int (-9), .ref m0a67, .ref m0a68, .ref m0a69, .ref m0a70, .ref m0a71, .ref m0a72, .ref m0a73, .ref m0a74, .ref m0a75, .long 0])), (m0a1, .inl (cI g, 6, .inl (fun _ => 0))), (m0a8, .inl (cI g, 4, .inl (fun _ => (-9))))] := hD
      refine lv_if_ne (tgt := 11) hx hb dX12_askedText_4 (by decide) (fun c_6 => absurd (by decide) c_6) (fun _ => ?_)
      refine lv_iconst (v := (-1)) hx hb dX12_askedText_7 (by decide) ?_
      refine lv_goto (tgt := 29) hx hb dX12_askedText_8 (by decide) ?_
      exact rI X hK hP hD hS dX12_askedText_29 (by rfl) (Nat.le_of_ble_eq_true rfl) (Nat.le_of_ble_eq_true rfl) (by show ((_, _) : Int32 × va_W) = _; unfold sp_X12_askedText; rw [if_neg c_3, if_pos c_5]; try rfl)
    ·
      rw [if_neg c_5] at hw_2
      obtain ⟨e1, e2⟩ := Prod.mk.inj hw_2
      subst e1; subst e2
      have hP : va_P g.1 classes [(m0, .inr (12, [.int 0, .ref m0a1, .int 0, .long 0, .int 0, .ref m0a5, .ref m0a6, .ref m0a7, .ref m0a8, .ref m0a9, .int 0, .ref m0a11, .ref m0a12, .ref m0a13, .ref m0a14, .ref m0a15, .ref m0a16, .int 0, .ref m0a18, .ref m0a19, .ref m0a20, .ref m0a21, .ref m0a22, .int 0, .ref m0a24, .ref m0a25, .ref m0a26, .int 0, .ref m0a28, .ref m0a29, .ref m0a30, .ref m0a31, .int 0, .ref m0a33, .ref m0a34, .ref m0a35, .ref m0a36, .ref m0a37, .ref m0a38, .ref m0a39, .ref m0a40, .ref m0a41, .ref m0a42, .ref m0a43, .ref m0a44, .ref m0a45, .ref m0a46, .ref m0a47, .int 0, .ref m0a49, .ref m0a50, .ref m0a51, .int 0, .ref m0a53, .ref m0a54, .ref m0a55, .ref m0a56, .ref m0a57, .ref m0a58, .ref m0a59, .ref m0a60, .ref m0a61, .ref m0a62, .ref m0a63, .long 0, .int 0, .int (-9), .ref m0a67, .ref m0a68, .ref m0a69, .ref m0a70, .ref m0a71, .ref m0a72, .ref m0a73, .ref m0a74, .ref m0a75, .long 0])), (m0a1, .inl (cI g, 6, .inl (fun _ => 0))), (m0a8, .inl (cI g, 4, .inl (fun _ => (-9))))] H := hP
      have hD : va_D A [(m0, .inr (12, [.int 0, .ref m0a1, .int 0, .long 0, .int 0, .ref m0a5, .ref m0a6, .ref m0a7, .ref m0a8, .ref m0a9, .int 0, .ref m0a11, .ref m0a12, .ref m0a13, .ref m0a14, .ref m0a15, .ref m0a16, .int 0, .ref m0a18, .ref m0a19, .ref m0a20, .ref m0a21, .ref m0a22, .int 0, .ref m0a24, .ref m0a25, .ref m0a26, .int 0, .ref m0a28, .ref m0a29, .ref m0a30, .ref m0a31, .int 0, .ref m0a33, .ref m0a34, .ref m0a35, .ref m0a36, .ref m0a37, .ref m0a38, .ref m0a39, .ref m0a40, .ref m0a41, .ref m0a42, .ref m0a43, .ref m0a44, .ref m0a45, .ref m0a46, .ref m0a47, .int 0, .ref m0a49, .ref m0a50, .ref m0a51, .int 0, .ref m0a53, .ref m0a54, .ref m0a55, .ref m0a56, .ref m0a57, .ref m0a58, .ref m0a59, .ref m0a60, .ref m0a61, .ref m0a62, .ref m0a63, .long 0, .int 0, .int (-9), .ref m0a67, .ref m0a68, .ref m0a69, .ref m0a70, .ref m0a71, .ref m0a72, .ref m0a73, .ref m0a74, .ref m0a75, .long 0])), (m0a1, .inl (cI g, 6, .inl (fun _ => 0))), (m0a8, .inl (cI g, 4, .inl (fun _ => (-9))))] := hD
      refine lv_if_ne (tgt := 11) hx hb dX12_askedText_4 (by decide) (fun _ => ?_) (fun c_7 => absurd c_7 (by decide))
      refine lv_aload_n hx hb dX12_askedText_11 rfl (lv_at hl 0 rfl) ?_
      refine va_get (D := g.1) (ci := 12) (v := .ref m0a8) (C := RX12) (T := TX12) (N := 77) hx hb hts fw_X12 hown hK hP 0 rfl rfl 8 (by decide) (hts _ q_1474) (fun _ h9 => h9) rfl dX12_askedText_12 ?_
      refine lv_iload_n hx hb dX12_askedText_15 rfl (lv_at hl 1 rfl) ?_
      refine va_iald hx hb hK hP 2 0 rfl rfl (vp_in_iff.mpr (by simp only [i32lt, i32le, i32eq, Int32.reduceToInt] at c_3 c_5; omega)) dX12_askedText_16 ?_
      refine lv_topk (v := (-9)) rfl ?_
      refine lv_if_ge (tgt := 28) hx hb dX12_askedText_17 (by decide) (fun c_8 => absurd c_8 (by decide)) (fun _ => ?_)
      refine lv_aload_n hx hb dX12_askedText_20 rfl (lv_at hl 0 rfl) ?_
      refine lv_iconst (v := 1) hx hb dX12_askedText_21 (by decide) ?_
      refine kVi (As := [.int 1]) (rest := []) (wr := [(m0a8, .inl (cI g, 4, .inl (fun _ => (-9))))]) X (c_X12_meets1 l g m0 m0a1 m0a5 m0a6 m0a7 m0a8 m0a9 m0a11 m0a12 m0a13 m0a14 m0a15 m0a16 m0a18 m0a19 m0a20 m0a21 m0a22 m0a24 m0a25 m0a26 m0a28 m0a29 m0a30 m0a31 m0a33 m0a34 m0a35 m0a36 m0a37 m0a38 m0a39 m0a40 m0a41 m0a42 m0a43 m0a44 m0a45 m0a46 m0a47 m0a49 m0a50 m0a51 m0a53 m0a54 m0a55 m0a56 m0a57 m0a58 m0a59 m0a60 m0a61 m0a62 m0a63 m0a67 m0a68 m0a69 m0a70 m0a71 m0a72 m0a73 m0a74 m0a75) ok_X12_meets okv_X12_meets q_1708 rfl hK hP hD hS hA hZ hl.1 [0, 1] [2] rfl rfl rfl rfl rfl 0 12 rfl rfl rfl (Nat.le_of_ble_eq_true rfl) ⟨Nat.le_of_ble_eq_true rfl, Nat.le_of_ble_eq_true rfl⟩ dX12_askedText_22 ⟨Nat.le_of_ble_eq_true rfl, Nat.le_of_ble_eq_true rfl⟩ (fun r_9 w1 H locs hw_10 hP hD hS => ?_)
      rw [sp_X12_meets1] at hw_10
      obtain ⟨e1, e2⟩ := Prod.mk.inj hw_10
      subst e1; subst e2
      have hP : va_P g.1 classes [(m0a8, .inl (cI g, 4, .inl (fun _ => (-9)))), (m0, .inr (12, [.int 1, .ref m0a1, .int 0, .long 0, .int 0, .ref m0a5, .ref m0a6, .ref m0a7, .ref m0a8, .ref m0a9, .int 0, .ref m0a11, .ref m0a12, .ref m0a13, .ref m0a14, .ref m0a15, .ref m0a16, .int 0, .ref m0a18, .ref m0a19, .ref m0a20, .ref m0a21, .ref m0a22, .int 0, .ref m0a24, .ref m0a25, .ref m0a26, .int 0, .ref m0a28, .ref m0a29, .ref m0a30, .ref m0a31, .int 0, .ref m0a33, .ref m0a34, .ref m0a35, .ref m0a36, .ref m0a37, .ref m0a38, .ref m0a39, .ref m0a40, .ref m0a41, .ref m0a42, .ref m0a43, .ref m0a44, .ref m0a45, .ref m0a46, .ref m0a47, .int 0, .ref m0a49, .ref m0a50, .ref m0a51, .int 0, .ref m0a53, .ref m0a54, .ref m0a55, .ref m0a56, .ref m0a57, .ref m0a58, .ref m0a59, .ref m0a60, .ref m0a61, .ref m0a62, .ref m0a63, .long 0, .int 0, .int (-9), .ref m0a67, .ref m0a68, .ref m0a69, .ref m0a70, .ref m0a71, .ref m0a72, .ref m0a73, .ref m0a74, .ref m0a75, .long 0])), (m0a1, .inl (cI g, 6, .inl (upd (fun _ => 0) 1 1)))] H := hP
      have hD : va_D A [(m0a8, .inl (cI g, 4, .inl (fun _ => (-9)))), (m0, .inr (12, [.int 1, .ref m0a1, .int 0, .long 0, .int 0, .ref m0a5, .ref m0a6, .ref m0a7, .ref m0a8, .ref m0a9, .int 0, .ref m0a11, .ref m0a12, .ref m0a13, .ref m0a14, .ref m0a15, .ref m0a16, .int 0, .ref m0a18, .ref m0a19, .ref m0a20, .ref m0a21, .ref m0a22, .int 0, .ref m0a24, .ref m0a25, .ref m0a26, .int 0, .ref m0a28, .ref m0a29, .ref m0a30, .ref m0a31, .int 0, .ref m0a33, .ref m0a34, .ref m0a35, .ref m0a36, .ref m0a37, .ref m0a38, .ref m0a39, .ref m0a40, .ref m0a41, .ref m0a42, .ref m0a43, .ref m0a44, .ref m0a45, .ref m0a46, .ref m0a47, .int 0, .ref m0a49, .ref m0a50, .ref m0a51, .int 0, .ref m0a53, .ref m0a54, .ref m0a55, .ref m0a56, .ref m0a57, .ref m0a58, .ref m0a59, .ref m0a60, .ref m0a61, .ref m0a62, .ref m0a63, .long 0, .int 0, .int (-9), .ref m0a67, .ref m0a68, .ref m0a69, .ref m0a70, .ref m0a71, .ref m0a72, .ref m0a73, .ref m0a74, .ref m0a75, .long 0])), (m0a1, .inl (cI g, 6, .inl (upd (fun _ => 0) 1 1)))] := hD
      refine lv_goto (tgt := 29) hx hb dX12_askedText_25 (by decide) ?_
      exact rI X hK hP hD hS dX12_askedText_29 (by rfl) (Nat.le_of_ble_eq_true rfl) (Nat.le_of_ble_eq_true rfl) (by show ((_, _) : Int32 × va_W) = _; unfold sp_X12_askedText; rw [if_neg c_3, if_neg c_5]; try rfl)
def sp_X12_isBuilding (g : GG) (m0 : Nat) (c0 : Int32) (m0a1 : Nat) (m0a5 : Nat) (m0a6 : Nat) (m0a7 : Nat) (m0a8 : Nat) (m0a9 : Nat) (m0a11 : Nat) (m0a12 : Nat) (m0a13 : Nat) (m0a14 : Nat) (m0a15 : Nat) (m0a16 : Nat) (m0a18 : Nat) (m0a19 : Nat) (m0a20 : Nat) (m0a21 : Nat) (m0a22 : Nat) (m0a24 : Nat) (m0a25 : Nat) (m0a26 : Nat) (m0a28 : Nat) (m0a29 : Nat) (m0a30 : Nat) (m0a31 : Nat) (m0a33 : Nat) (m0a34 : Nat) (m0a35 : Nat) (m0a36 : Nat) (m0a37 : Nat) (m0a38 : Nat) (m0a39 : Nat) (m0a40 : Nat) (m0a41 : Nat) (m0a42 : Nat) (m0a43 : Nat) (m0a44 : Nat) (m0a45 : Nat) (m0a46 : Nat) (m0a47 : Nat) (m0a49 : Nat) (m0a50 : Nat) (m0a51 : Nat) (m0a53 : Nat) (m0a54 : Nat) (m0a55 : Nat) (m0a56 : Nat) (m0a57 : Nat) (m0a58 : Nat) (m0a59 : Nat) (m0a60 : Nat) (m0a61 : Nat) (m0a62 : Nat) (m0a63 : Nat) (m0a67 : Nat) (m0a68 : Nat) (m0a69 : Nat) (m0a70 : Nat) (m0a71 : Nat) (m0a72 : Nat) (m0a73 : Nat) (m0a74 : Nat) (m0a75 : Nat) : Int32 × va_W := if c0 < 0 then (0, [(m0, .inr (12, [.int 0, .ref m0a1, .int 0, .long 0, .int 0, .ref m0a5, .ref m0a6, .ref m0a7, .ref m0a8, .ref m0a9, .int 0, .ref m0a11, .ref m0a12, .ref m0a13, .ref m0a14, .ref m0a15, .ref m0a16, .int 0, .ref m0a18, .ref m0a19, .ref m0a20, .ref m0a21, .ref m0a22, .int 0, .ref m0a24, .ref m0a25, .ref m0a26, .int 0, .ref m0a28, .ref m0a29, .ref m0a30, .ref m0a31, .int 0, .ref m0a33, .ref m0a34, .ref m0a35, .ref m0a36, .ref m0a37, .ref m0a38, .ref m0a39, .ref m0a40, .ref m0a41, .ref m0a42, .ref m0a43, .ref m0a44, .ref m0a45, .ref m0a46, .ref m0a47, .int 0, .ref m0a49, .ref m0a50, .ref m0a51, .int 0, .ref m0a53, .ref m0a54, .ref m0a55, .ref m0a56, .ref m0a57, .ref m0a58, .ref m0a59, .ref m0a60, .ref m0a61, .ref m0a62, .ref m0a63, .long 0, .int 0, .int (-9), .ref m0a67, .ref m0a68, .ref m0a69, .ref m0a70, .ref m0a71, .ref m0a72, .ref m0a73, .ref m0a74, .ref m0a75, .long 0]))]) else (0, [(m0, .inr (12, [.int 0, .ref m0a1, .int 0, .long 0, .int 0, .ref m0a5, .ref m0a6, .ref m0a7, .ref m0a8, .ref m0a9, .int 0, .ref m0a11, .ref m0a12, .ref m0a13, .ref m0a14, .ref m0a15, .ref m0a16, .int 0, .ref m0a18, .ref m0a19, .ref m0a20, .ref m0a21, .ref m0a22, .int 0, .ref m0a24, .ref m0a25, .ref m0a26, .int 0, .ref m0a28, .ref m0a29, .ref m0a30, .ref m0a31, .int 0, .ref m0a33, .ref m0a34, .ref m0a35, .ref m0a36, .ref m0a37, .ref m0a38, .ref m0a39, .ref m0a40, .ref m0a41, .ref m0a42, .ref m0a43, .ref m0a44, .ref m0a45, .ref m0a46, .ref m0a47, .int 0, .ref m0a49, .ref m0a50, .ref m0a51, .int 0, .ref m0a53, .ref m0a54, .ref m0a55, .ref m0a56, .ref m0a57, .ref m0a58, .ref m0a59, .ref m0a60, .ref m0a61, .ref m0a62, .ref m0a63, .long 0, .int 0, .int (-9), .ref m0a67, .ref m0a68, .ref m0a69, .ref m0a70, .ref m0a71, .ref m0a72, .ref m0a73, .ref m0a74, .ref m0a75, .long 0]))])
set_option maxHeartbeats 4000000 in
set_option maxRecDepth 100000 in
theorem c_X12_isBuilding (l : Launch) (g : GG) (m0 : Nat) (c0 : Int32) (m0a1 : Nat) (m0a5 : Nat) (m0a6 : Nat) (m0a7 : Nat) (m0a8 : Nat) (m0a9 : Nat) (m0a11 : Nat) (m0a12 : Nat) (m0a13 : Nat) (m0a14 : Nat) (m0a15 : Nat) (m0a16 : Nat) (m0a18 : Nat) (m0a19 : Nat) (m0a20 : Nat) (m0a21 : Nat) (m0a22 : Nat) (m0a24 : Nat) (m0a25 : Nat) (m0a26 : Nat) (m0a28 : Nat) (m0a29 : Nat) (m0a30 : Nat) (m0a31 : Nat) (m0a33 : Nat) (m0a34 : Nat) (m0a35 : Nat) (m0a36 : Nat) (m0a37 : Nat) (m0a38 : Nat) (m0a39 : Nat) (m0a40 : Nat) (m0a41 : Nat) (m0a42 : Nat) (m0a43 : Nat) (m0a44 : Nat) (m0a45 : Nat) (m0a46 : Nat) (m0a47 : Nat) (m0a49 : Nat) (m0a50 : Nat) (m0a51 : Nat) (m0a53 : Nat) (m0a54 : Nat) (m0a55 : Nat) (m0a56 : Nat) (m0a57 : Nat) (m0a58 : Nat) (m0a59 : Nat) (m0a60 : Nat) (m0a61 : Nat) (m0a62 : Nat) (m0a63 : Nat) (m0a67 : Nat) (m0a68 : Nat) (m0a69 : Nat) (m0a70 : Nat) (m0a71 : Nat) (m0a72 : Nat) (m0a73 : Nat) (m0a74 : Nat) (m0a75 : Nat) : MI l g yX12_isBuilding cX12_isBuilding 2 (some .boolean) 1 22 0 0 [(m0, .inr (12, [.int 0, .ref m0a1, .int 0, .long 0, .int 0, .ref m0a5, .ref m0a6, .ref m0a7, .ref m0a8, .ref m0a9, .int 0, .ref m0a11, .ref m0a12, .ref m0a13, .ref m0a14, .ref m0a15, .ref m0a16, .int 0, .ref m0a18, .ref m0a19, .ref m0a20, .ref m0a21, .ref m0a22, .int 0, .ref m0a24, .ref m0a25, .ref m0a26, .int 0, .ref m0a28, .ref m0a29, .ref m0a30, .ref m0a31, .int 0, .ref m0a33, .ref m0a34, .ref m0a35, .ref m0a36, .ref m0a37, .ref m0a38, .ref m0a39, .ref m0a40, .ref m0a41, .ref m0a42, .ref m0a43, .ref m0a44, .ref m0a45, .ref m0a46, .ref m0a47, .int 0, .ref m0a49, .ref m0a50, .ref m0a51, .int 0, .ref m0a53, .ref m0a54, .ref m0a55, .ref m0a56, .ref m0a57, .ref m0a58, .ref m0a59, .ref m0a60, .ref m0a61, .ref m0a62, .ref m0a63, .long 0, .int 0, .int (-9), .ref m0a67, .ref m0a68, .ref m0a69, .ref m0a70, .ref m0a71, .ref m0a72, .ref m0a73, .ref m0a74, .ref m0a75, .long 0]))] [.ref m0, .int c0] (fun rr_ ww_ => (rr_, ww_) = sp_X12_isBuilding g m0 c0 m0a1 m0a5 m0a6 m0a7 m0a8 m0a9 m0a11 m0a12 m0a13 m0a14 m0a15 m0a16 m0a18 m0a19 m0a20 m0a21 m0a22 m0a24 m0a25 m0a26 m0a28 m0a29 m0a30 m0a31 m0a33 m0a34 m0a35 m0a36 m0a37 m0a38 m0a39 m0a40 m0a41 m0a42 m0a43 m0a44 m0a45 m0a46 m0a47 m0a49 m0a50 m0a51 m0a53 m0a54 m0a55 m0a56 m0a57 m0a58 m0a59 m0a60 m0a61 m0a62 m0a63 m0a67 m0a68 m0a69 m0a70 m0a71 m0a72 m0a73 m0a74 m0a75) := by
  refine met_of (fun A => va_Qi _ (bW g A) A) (by decide) (Nat.le_of_ble_eq_true rfl) ?_
  intro p e s m below meth c A ls X hK hP hD hA hZ hS hl
  have hx := X.1
  have hb := X.2.1
  have hml := X.2.2.1
  have hown := X.2.2.2.1
  have hts := X.2.2.2.2.1
  have hnm := X.2.2.2.2.2.2.2
  have hl : lv_has ls 2 [(0, .ref m0), (1, .int c0)] := hl
  refine lv_iload_n hx hb dX12_isBuilding_0 rfl (lv_at hl 1 rfl) ?_
  refine lv_iconst (v := 0) hx hb dX12_isBuilding_1 (by decide) ?_
  refine lv_aload_n hx hb dX12_isBuilding_2 rfl (lv_at hl 0 rfl) ?_
  refine va_get (D := g.1) (ci := 12) (v := .int 0) (C := RX12) (T := TX12) (N := 77) hx hb hts fw_X12 hown hK hP 0 rfl rfl 17 (by decide) (hts _ q_1483) (fun _ h9 => h9) rfl dX12_isBuilding_3 ?_
  refine lv_iconst (v := 1) hx hb dX12_isBuilding_6 (by decide) ?_
  refine lv_isub hx hb dX12_isBuilding_7 ?_
  refine lv_topk (v := (-1)) (by decide) ?_
  refine kSi (As := [.int c0, .int 0, .int (-1)]) (rest := []) (wr := [(m0, .inr (12, [.int 0, .ref m0a1, .int 0, .long 0, .int 0, .ref m0a5, .ref m0a6, .ref m0a7, .ref m0a8, .ref m0a9, .int 0, .ref m0a11, .ref m0a12, .ref m0a13, .ref m0a14, .ref m0a15, .ref m0a16, .int 0, .ref m0a18, .ref m0a19, .ref m0a20, .ref m0a21, .ref m0a22, .int 0, .ref m0a24, .ref m0a25, .ref m0a26, .int 0, .ref m0a28, .ref m0a29, .ref m0a30, .ref m0a31, .int 0, .ref m0a33, .ref m0a34, .ref m0a35, .ref m0a36, .ref m0a37, .ref m0a38, .ref m0a39, .ref m0a40, .ref m0a41, .ref m0a42, .ref m0a43, .ref m0a44, .ref m0a45, .ref m0a46, .ref m0a47, .int 0, .ref m0a49, .ref m0a50, .ref m0a51, .int 0, .ref m0a53, .ref m0a54, .ref m0a55, .ref m0a56, .ref m0a57, .ref m0a58, .ref m0a59, .ref m0a60, .ref m0a61, .ref m0a62, .ref m0a63, .long 0, .int 0, .int (-9), .ref m0a67, .ref m0a68, .ref m0a69, .ref m0a70, .ref m0a71, .ref m0a72, .ref m0a73, .ref m0a74, .ref m0a75, .long 0]))]) X (c_X12_in l g c0 0 (-1)) ok_X12_in q_1706 q_1705 rfl hK hP hD hS hA hZ hl.1 [] [0] rfl rfl rfl rfl rfl rfl (Nat.le_of_ble_eq_true rfl) ⟨Nat.le_of_ble_eq_true rfl, Nat.le_of_ble_eq_true rfl⟩ dX12_isBuilding_8 ⟨Nat.le_of_ble_eq_true rfl, Nat.le_of_ble_eq_true rfl⟩ (fun r_1 w1 H locs hw_2 hP hD hS => ?_)
  rw [sp_X12_in] at hw_2
  rcases Classical.em (c0 < 0) with c_3 | c_3
  ·
    rw [if_pos c_3] at hw_2
    obtain ⟨e1, e2⟩ := Prod.mk.inj hw_2
    subst e1; subst e2
    have hP : va_P g.1 classes [(m0, .inr (12, [.int 0, .ref m0a1, .int 0, .long 0, .int 0, .ref m0a5, .ref m0a6, .ref m0a7, .ref m0a8, .ref m0a9, .int 0, .ref m0a11, .ref m0a12, .ref m0a13, .ref m0a14, .ref m0a15, .ref m0a16, .int 0, .ref m0a18, .ref m0a19, .ref m0a20, .ref m0a21, .ref m0a22, .int 0, .ref m0a24, .ref m0a25, .ref m0a26, .int 0, .ref m0a28, .ref m0a29, .ref m0a30, .ref m0a31, .int 0, .ref m0a33, .ref m0a34, .ref m0a35, .ref m0a36, .ref m0a37, .ref m0a38, .ref m0a39, .ref m0a40, .ref m0a41, .ref m0a42, .ref m0a43, .ref m0a44, .ref m0a45, .ref m0a46, .ref m0a47, .int 0, .ref m0a49, .ref m0a50, .ref m0a51, .int 0, .ref m0a53, .ref m0a54, .ref m0a55, .ref m0a56, .ref m0a57, .ref m0a58, .ref m0a59, .ref m0a60, .ref m0a61, .ref m0a62, .ref m0a63, .long 0, .int 0, .int (-9), .ref m0a67, .ref m0a68, .ref m0a69, .ref m0a70, .ref m0a71, .ref m0a72, .ref m0a73, .ref m0a74, .ref m0a75, .long 0]))] H := hP
    have hD : va_D A [(m0, .inr (12, [.int 0, .ref m0a1, .int 0, .long 0, .int 0, .ref m0a5, .ref m0a6, .ref m0a7, .ref m0a8, .ref m0a9, .int 0, .ref m0a11, .ref m0a12, .ref m0a13, .ref m0a14, .ref m0a15, .ref m0a16, .int 0, .ref m0a18, .ref m0a19, .ref m0a20, .ref m0a21, .ref m0a22, .int 0, .ref m0a24, .ref m0a25, .ref m0a26, .int 0, .ref m0a28, .ref m0a29, .ref m0a30, .ref m0a31, .int 0, .ref m0a33, .ref m0a34, .ref m0a35, .ref m0a36, .ref m0a37, .ref m0a38, .ref m0a39, .ref m0a40, .ref m0a41, .ref m0a42, .ref m0a43, .ref m0a44, .ref m0a45, .ref m0a46, .ref m0a47, .int 0, .ref m0a49, .ref m0a50, .ref m0a51, .int 0, .ref m0a53, .ref m0a54, .ref m0a55, .ref m0a56, .ref m0a57, .ref m0a58, .ref m0a59, .ref m0a60, .ref m0a61, .ref m0a62, .ref m0a63, .long 0, .int 0, .int (-9), .ref m0a67, .ref m0a68, .ref m0a69, .ref m0a70, .ref m0a71, .ref m0a72, .ref m0a73, .ref m0a74, .ref m0a75, .long 0]))] := hD
    exact rI X hK hP hD hS dX12_isBuilding_11 (by rfl) (Nat.le_of_ble_eq_true rfl) (Nat.le_of_ble_eq_true rfl) (by show ((_, _) : Int32 × va_W) = _; unfold sp_X12_isBuilding; rw [if_pos c_3]; try rfl)
  ·
    rw [if_neg c_3] at hw_2
    rw [if_pos (show (-1) < c0 from (by simp only [i32lt, i32le, i32eq, Int32.reduceToInt] at c_3 ⊢; omega))] at hw_2
    obtain ⟨e1, e2⟩ := Prod.mk.inj hw_2
    subst e1; subst e2
    have hP : va_P g.1 classes [(m0, .inr (12, [.int 0, .ref m0a1, .int 0, .long 0, .int 0, .ref m0a5, .ref m0a6, .ref m0a7, .ref m0a8, .ref m0a9, .int 0, .ref m0a11, .ref m0a12, .ref m0a13, .ref m0a14, .ref m0a15, .ref m0a16, .int 0, .ref m0a18, .ref m0a19, .ref m0a20, .ref m0a21, .ref m0a22, .int 0, .ref m0a24, .ref m0a25, .ref m0a26, .int 0, .ref m0a28, .ref m0a29, .ref m0a30, .ref m0a31, .int 0, .ref m0a33, .ref m0a34, .ref m0a35, .ref m0a36, .ref m0a37, .ref m0a38, .ref m0a39, .ref m0a40, .ref m0a41, .ref m0a42, .ref m0a43, .ref m0a44, .ref m0a45, .ref m0a46, .ref m0a47, .int 0, .ref m0a49, .ref m0a50, .ref m0a51, .int 0, .ref m0a53, .ref m0a54, .ref m0a55, .ref m0a56, .ref m0a57, .ref m0a58, .ref m0a59, .ref m0a60, .ref m0a61, .ref m0a62, .ref m0a63, .long 0, .int 0, .int (-9), .ref m0a67, .ref m0a68, .ref m0a69, .ref m0a70, .ref m0a71, .ref m0a72, .ref m0a73, .ref m0a74, .ref m0a75, .long 0]))] H := hP
    have hD : va_D A [(m0, .inr (12, [.int 0, .ref m0a1, .int 0, .long 0, .int 0, .ref m0a5, .ref m0a6, .ref m0a7, .ref m0a8, .ref m0a9, .int 0, .ref m0a11, .ref m0a12, .ref m0a13, .ref m0a14, .ref m0a15, .ref m0a16, .int 0, .ref m0a18, .ref m0a19, .ref m0a20, .ref m0a21, .ref m0a22, .int 0, .ref m0a24, .ref m0a25, .ref m0a26, .int 0, .ref m0a28, .ref m0a29, .ref m0a30, .ref m0a31, .int 0, .ref m0a33, .ref m0a34, .ref m0a35, .ref m0a36, .ref m0a37, .ref m0a38, .ref m0a39, .ref m0a40, .ref m0a41, .ref m0a42, .ref m0a43, .ref m0a44, .ref m0a45, .ref m0a46, .ref m0a47, .int 0, .ref m0a49, .ref m0a50, .ref m0a51, .int 0, .ref m0a53, .ref m0a54, .ref m0a55, .ref m0a56, .ref m0a57, .ref m0a58, .ref m0a59, .ref m0a60, .ref m0a61, .ref m0a62, .ref m0a63, .long 0, .int 0, .int (-9), .ref m0a67, .ref m0a68, .ref m0a69, .ref m0a70, .ref m0a71, .ref m0a72, .ref m0a73, .ref m0a74, .ref m0a75, .long 0]))] := hD
    exact rI X hK hP hD hS dX12_isBuilding_11 (by rfl) (Nat.le_of_ble_eq_true rfl) (Nat.le_of_ble_eq_true rfl) (by show ((_, _) : Int32 × va_W) = _; unfold sp_X12_isBuilding; rw [if_neg c_3]; try rfl)
def sp_X12_isPerson (g : GG) (m0 : Nat) (c0 : Int32) (m0a1 : Nat) (m0a5 : Nat) (m0a6 : Nat) (m0a7 : Nat) (m0a8 : Nat) (m0a9 : Nat) (m0a11 : Nat) (m0a12 : Nat) (m0a13 : Nat) (m0a14 : Nat) (m0a15 : Nat) (m0a16 : Nat) (m0a18 : Nat) (m0a19 : Nat) (m0a20 : Nat) (m0a21 : Nat) (m0a22 : Nat) (m0a24 : Nat) (m0a25 : Nat) (m0a26 : Nat) (m0a28 : Nat) (m0a29 : Nat) (m0a30 : Nat) (m0a31 : Nat) (m0a33 : Nat) (m0a34 : Nat) (m0a35 : Nat) (m0a36 : Nat) (m0a37 : Nat) (m0a38 : Nat) (m0a39 : Nat) (m0a40 : Nat) (m0a41 : Nat) (m0a42 : Nat) (m0a43 : Nat) (m0a44 : Nat) (m0a45 : Nat) (m0a46 : Nat) (m0a47 : Nat) (m0a49 : Nat) (m0a50 : Nat) (m0a51 : Nat) (m0a53 : Nat) (m0a54 : Nat) (m0a55 : Nat) (m0a56 : Nat) (m0a57 : Nat) (m0a58 : Nat) (m0a59 : Nat) (m0a60 : Nat) (m0a61 : Nat) (m0a62 : Nat) (m0a63 : Nat) (m0a67 : Nat) (m0a68 : Nat) (m0a69 : Nat) (m0a70 : Nat) (m0a71 : Nat) (m0a72 : Nat) (m0a73 : Nat) (m0a74 : Nat) (m0a75 : Nat) : Int32 × va_W := if c0 < 0 then (0, [(m0, .inr (12, [.int 0, .ref m0a1, .int 0, .long 0, .int 0, .ref m0a5, .ref m0a6, .ref m0a7, .ref m0a8, .ref m0a9, .int 0, .ref m0a11, .ref m0a12, .ref m0a13, .ref m0a14, .ref m0a15, .ref m0a16, .int 0, .ref m0a18, .ref m0a19, .ref m0a20, .ref m0a21, .ref m0a22, .int 0, .ref m0a24, .ref m0a25, .ref m0a26, .int 0, .ref m0a28, .ref m0a29, .ref m0a30, .ref m0a31, .int 0, .ref m0a33, .ref m0a34, .ref m0a35, .ref m0a36, .ref m0a37, .ref m0a38, .ref m0a39, .ref m0a40, .ref m0a41, .ref m0a42, .ref m0a43, .ref m0a44, .ref m0a45, .ref m0a46, .ref m0a47, .int 0, .ref m0a49, .ref m0a50, .ref m0a51, .int 0, .ref m0a53, .ref m0a54, .ref m0a55, .ref m0a56, .ref m0a57, .ref m0a58, .ref m0a59, .ref m0a60, .ref m0a61, .ref m0a62, .ref m0a63, .long 0, .int 0, .int (-9), .ref m0a67, .ref m0a68, .ref m0a69, .ref m0a70, .ref m0a71, .ref m0a72, .ref m0a73, .ref m0a74, .ref m0a75, .long 0]))]) else (0, [(m0, .inr (12, [.int 0, .ref m0a1, .int 0, .long 0, .int 0, .ref m0a5, .ref m0a6, .ref m0a7, .ref m0a8, .ref m0a9, .int 0, .ref m0a11, .ref m0a12, .ref m0a13, .ref m0a14, .ref m0a15, .ref m0a16, .int 0, .ref m0a18, .ref m0a19, .ref m0a20, .ref m0a21, .ref m0a22, .int 0, .ref m0a24, .ref m0a25, .ref m0a26, .int 0, .ref m0a28, .ref m0a29, .ref m0a30, .ref m0a31, .int 0, .ref m0a33, .ref m0a34, .ref m0a35, .ref m0a36, .ref m0a37, .ref m0a38, .ref m0a39, .ref m0a40, .ref m0a41, .ref m0a42, .ref m0a43, .ref m0a44, .ref m0a45, .ref m0a46, .ref m0a47, .int 0, .ref m0a49, .ref m0a50, .ref m0a51, .int 0, .ref m0a53, .ref m0a54, .ref m0a55, .ref m0a56, .ref m0a57, .ref m0a58, .ref m0a59, .ref m0a60, .ref m0a61, .ref m0a62, .ref m0a63, .long 0, .int 0, .int (-9), .ref m0a67, .ref m0a68, .ref m0a69, .ref m0a70, .ref m0a71, .ref m0a72, .ref m0a73, .ref m0a74, .ref m0a75, .long 0]))])
set_option maxHeartbeats 4000000 in
set_option maxRecDepth 100000 in
theorem c_X12_isPerson (l : Launch) (g : GG) (m0 : Nat) (c0 : Int32) (m0a1 : Nat) (m0a5 : Nat) (m0a6 : Nat) (m0a7 : Nat) (m0a8 : Nat) (m0a9 : Nat) (m0a11 : Nat) (m0a12 : Nat) (m0a13 : Nat) (m0a14 : Nat) (m0a15 : Nat) (m0a16 : Nat) (m0a18 : Nat) (m0a19 : Nat) (m0a20 : Nat) (m0a21 : Nat) (m0a22 : Nat) (m0a24 : Nat) (m0a25 : Nat) (m0a26 : Nat) (m0a28 : Nat) (m0a29 : Nat) (m0a30 : Nat) (m0a31 : Nat) (m0a33 : Nat) (m0a34 : Nat) (m0a35 : Nat) (m0a36 : Nat) (m0a37 : Nat) (m0a38 : Nat) (m0a39 : Nat) (m0a40 : Nat) (m0a41 : Nat) (m0a42 : Nat) (m0a43 : Nat) (m0a44 : Nat) (m0a45 : Nat) (m0a46 : Nat) (m0a47 : Nat) (m0a49 : Nat) (m0a50 : Nat) (m0a51 : Nat) (m0a53 : Nat) (m0a54 : Nat) (m0a55 : Nat) (m0a56 : Nat) (m0a57 : Nat) (m0a58 : Nat) (m0a59 : Nat) (m0a60 : Nat) (m0a61 : Nat) (m0a62 : Nat) (m0a63 : Nat) (m0a67 : Nat) (m0a68 : Nat) (m0a69 : Nat) (m0a70 : Nat) (m0a71 : Nat) (m0a72 : Nat) (m0a73 : Nat) (m0a74 : Nat) (m0a75 : Nat) : MI l g yX12_isPerson cX12_isPerson 2 (some .boolean) 1 22 0 0 [(m0, .inr (12, [.int 0, .ref m0a1, .int 0, .long 0, .int 0, .ref m0a5, .ref m0a6, .ref m0a7, .ref m0a8, .ref m0a9, .int 0, .ref m0a11, .ref m0a12, .ref m0a13, .ref m0a14, .ref m0a15, .ref m0a16, .int 0, .ref m0a18, .ref m0a19, .ref m0a20, .ref m0a21, .ref m0a22, .int 0, .ref m0a24, .ref m0a25, .ref m0a26, .int 0, .ref m0a28, .ref m0a29, .ref m0a30, .ref m0a31, .int 0, .ref m0a33, .ref m0a34, .ref m0a35, .ref m0a36, .ref m0a37, .ref m0a38, .ref m0a39, .ref m0a40, .ref m0a41, .ref m0a42, .ref m0a43, .ref m0a44, .ref m0a45, .ref m0a46, .ref m0a47, .int 0, .ref m0a49, .ref m0a50, .ref m0a51, .int 0, .ref m0a53, .ref m0a54, .ref m0a55, .ref m0a56, .ref m0a57, .ref m0a58, .ref m0a59, .ref m0a60, .ref m0a61, .ref m0a62, .ref m0a63, .long 0, .int 0, .int (-9), .ref m0a67, .ref m0a68, .ref m0a69, .ref m0a70, .ref m0a71, .ref m0a72, .ref m0a73, .ref m0a74, .ref m0a75, .long 0]))] [.ref m0, .int c0] (fun rr_ ww_ => (rr_, ww_) = sp_X12_isPerson g m0 c0 m0a1 m0a5 m0a6 m0a7 m0a8 m0a9 m0a11 m0a12 m0a13 m0a14 m0a15 m0a16 m0a18 m0a19 m0a20 m0a21 m0a22 m0a24 m0a25 m0a26 m0a28 m0a29 m0a30 m0a31 m0a33 m0a34 m0a35 m0a36 m0a37 m0a38 m0a39 m0a40 m0a41 m0a42 m0a43 m0a44 m0a45 m0a46 m0a47 m0a49 m0a50 m0a51 m0a53 m0a54 m0a55 m0a56 m0a57 m0a58 m0a59 m0a60 m0a61 m0a62 m0a63 m0a67 m0a68 m0a69 m0a70 m0a71 m0a72 m0a73 m0a74 m0a75) := by
  refine met_of (fun A => va_Qi _ (bW g A) A) (by decide) (Nat.le_of_ble_eq_true rfl) ?_
  intro p e s m below meth c A ls X hK hP hD hA hZ hS hl
  have hx := X.1
  have hb := X.2.1
  have hml := X.2.2.1
  have hown := X.2.2.2.1
  have hts := X.2.2.2.2.1
  have hnm := X.2.2.2.2.2.2.2
  have hl : lv_has ls 2 [(0, .ref m0), (1, .int c0)] := hl
  refine lv_iload_n hx hb dX12_isPerson_0 rfl (lv_at hl 1 rfl) ?_
  refine lv_iconst (v := 0) hx hb dX12_isPerson_1 (by decide) ?_
  refine lv_aload_n hx hb dX12_isPerson_2 rfl (lv_at hl 0 rfl) ?_
  refine va_get (D := g.1) (ci := 12) (v := .int 0) (C := RX12) (T := TX12) (N := 77) hx hb hts fw_X12 hown hK hP 0 rfl rfl 27 (by decide) (hts _ q_1493) (fun _ h9 => h9) rfl dX12_isPerson_3 ?_
  refine lv_iconst (v := 1) hx hb dX12_isPerson_6 (by decide) ?_
  refine lv_isub hx hb dX12_isPerson_7 ?_
  refine lv_topk (v := (-1)) (by decide) ?_
  refine kSi (As := [.int c0, .int 0, .int (-1)]) (rest := []) (wr := [(m0, .inr (12, [.int 0, .ref m0a1, .int 0, .long 0, .int 0, .ref m0a5, .ref m0a6, .ref m0a7, .ref m0a8, .ref m0a9, .int 0, .ref m0a11, .ref m0a12, .ref m0a13, .ref m0a14, .ref m0a15, .ref m0a16, .int 0, .ref m0a18, .ref m0a19, .ref m0a20, .ref m0a21, .ref m0a22, .int 0, .ref m0a24, .ref m0a25, .ref m0a26, .int 0, .ref m0a28, .ref m0a29, .ref m0a30, .ref m0a31, .int 0, .ref m0a33, .ref m0a34, .ref m0a35, .ref m0a36, .ref m0a37, .ref m0a38, .ref m0a39, .ref m0a40, .ref m0a41, .ref m0a42, .ref m0a43, .ref m0a44, .ref m0a45, .ref m0a46, .ref m0a47, .int 0, .ref m0a49, .ref m0a50, .ref m0a51, .int 0, .ref m0a53, .ref m0a54, .ref m0a55, .ref m0a56, .ref m0a57, .ref m0a58, .ref m0a59, .ref m0a60, .ref m0a61, .ref m0a62, .ref m0a63, .long 0, .int 0, .int (-9), .ref m0a67, .ref m0a68, .ref m0a69, .ref m0a70, .ref m0a71, .ref m0a72, .ref m0a73, .ref m0a74, .ref m0a75, .long 0]))]) X (c_X12_in l g c0 0 (-1)) ok_X12_in q_1706 q_1705 rfl hK hP hD hS hA hZ hl.1 [] [0] rfl rfl rfl rfl rfl rfl (Nat.le_of_ble_eq_true rfl) ⟨Nat.le_of_ble_eq_true rfl, Nat.le_of_ble_eq_true rfl⟩ dX12_isPerson_8 ⟨Nat.le_of_ble_eq_true rfl, Nat.le_of_ble_eq_true rfl⟩ (fun r_1 w1 H locs hw_2 hP hD hS => ?_)
  rw [sp_X12_in] at hw_2
  rcases Classical.em (c0 < 0) with c_3 | c_3
  ·
    rw [if_pos c_3] at hw_2
    obtain ⟨e1, e2⟩ := Prod.mk.inj hw_2
    subst e1; subst e2
    have hP : va_P g.1 classes [(m0, .inr (12, [.int 0, .ref m0a1, .int 0, .long 0, .int 0, .ref m0a5, .ref m0a6, .ref m0a7, .ref m0a8, .ref m0a9, .int 0, .ref m0a11, .ref m0a12, .ref m0a13, .ref m0a14, .ref m0a15, .ref m0a16, .int 0, .ref m0a18, .ref m0a19, .ref m0a20, .ref m0a21, .ref m0a22, .int 0, .ref m0a24, .ref m0a25, .ref m0a26, .int 0, .ref m0a28, .ref m0a29, .ref m0a30, .ref m0a31, .int 0, .ref m0a33, .ref m0a34, .ref m0a35, .ref m0a36, .ref m0a37, .ref m0a38, .ref m0a39, .ref m0a40, .ref m0a41, .ref m0a42, .ref m0a43, .ref m0a44, .ref m0a45, .ref m0a46, .ref m0a47, .int 0, .ref m0a49, .ref m0a50, .ref m0a51, .int 0, .ref m0a53, .ref m0a54, .ref m0a55, .ref m0a56, .ref m0a57, .ref m0a58, .ref m0a59, .ref m0a60, .ref m0a61, .ref m0a62, .ref m0a63, .long 0, .int 0, .int (-9), .ref m0a67, .ref m0a68, .ref m0a69, .ref m0a70, .ref m0a71, .ref m0a72, .ref m0a73, .ref m0a74, .ref m0a75, .long 0]))] H := hP
    have hD : va_D A [(m0, .inr (12, [.int 0, .ref m0a1, .int 0, .long 0, .int 0, .ref m0a5, .ref m0a6, .ref m0a7, .ref m0a8, .ref m0a9, .int 0, .ref m0a11, .ref m0a12, .ref m0a13, .ref m0a14, .ref m0a15, .ref m0a16, .int 0, .ref m0a18, .ref m0a19, .ref m0a20, .ref m0a21, .ref m0a22, .int 0, .ref m0a24, .ref m0a25, .ref m0a26, .int 0, .ref m0a28, .ref m0a29, .ref m0a30, .ref m0a31, .int 0, .ref m0a33, .ref m0a34, .ref m0a35, .ref m0a36, .ref m0a37, .ref m0a38, .ref m0a39, .ref m0a40, .ref m0a41, .ref m0a42, .ref m0a43, .ref m0a44, .ref m0a45, .ref m0a46, .ref m0a47, .int 0, .ref m0a49, .ref m0a50, .ref m0a51, .int 0, .ref m0a53, .ref m0a54, .ref m0a55, .ref m0a56, .ref m0a57, .ref m0a58, .ref m0a59, .ref m0a60, .ref m0a61, .ref m0a62, .ref m0a63, .long 0, .int 0, .int (-9), .ref m0a67, .ref m0a68, .ref m0a69, .ref m0a70, .ref m0a71, .ref m0a72, .ref m0a73, .ref m0a74, .ref m0a75, .long 0]))] := hD
    exact rI X hK hP hD hS dX12_isPerson_11 (by rfl) (Nat.le_of_ble_eq_true rfl) (Nat.le_of_ble_eq_true rfl) (by show ((_, _) : Int32 × va_W) = _; unfold sp_X12_isPerson; rw [if_pos c_3]; try rfl)
  ·
    rw [if_neg c_3] at hw_2
    rw [if_pos (show (-1) < c0 from (by simp only [i32lt, i32le, i32eq, Int32.reduceToInt] at c_3 ⊢; omega))] at hw_2
    obtain ⟨e1, e2⟩ := Prod.mk.inj hw_2
    subst e1; subst e2
    have hP : va_P g.1 classes [(m0, .inr (12, [.int 0, .ref m0a1, .int 0, .long 0, .int 0, .ref m0a5, .ref m0a6, .ref m0a7, .ref m0a8, .ref m0a9, .int 0, .ref m0a11, .ref m0a12, .ref m0a13, .ref m0a14, .ref m0a15, .ref m0a16, .int 0, .ref m0a18, .ref m0a19, .ref m0a20, .ref m0a21, .ref m0a22, .int 0, .ref m0a24, .ref m0a25, .ref m0a26, .int 0, .ref m0a28, .ref m0a29, .ref m0a30, .ref m0a31, .int 0, .ref m0a33, .ref m0a34, .ref m0a35, .ref m0a36, .ref m0a37, .ref m0a38, .ref m0a39, .ref m0a40, .ref m0a41, .ref m0a42, .ref m0a43, .ref m0a44, .ref m0a45, .ref m0a46, .ref m0a47, .int 0, .ref m0a49, .ref m0a50, .ref m0a51, .int 0, .ref m0a53, .ref m0a54, .ref m0a55, .ref m0a56, .ref m0a57, .ref m0a58, .ref m0a59, .ref m0a60, .ref m0a61, .ref m0a62, .ref m0a63, .long 0, .int 0, .int (-9), .ref m0a67, .ref m0a68, .ref m0a69, .ref m0a70, .ref m0a71, .ref m0a72, .ref m0a73, .ref m0a74, .ref m0a75, .long 0]))] H := hP
    have hD : va_D A [(m0, .inr (12, [.int 0, .ref m0a1, .int 0, .long 0, .int 0, .ref m0a5, .ref m0a6, .ref m0a7, .ref m0a8, .ref m0a9, .int 0, .ref m0a11, .ref m0a12, .ref m0a13, .ref m0a14, .ref m0a15, .ref m0a16, .int 0, .ref m0a18, .ref m0a19, .ref m0a20, .ref m0a21, .ref m0a22, .int 0, .ref m0a24, .ref m0a25, .ref m0a26, .int 0, .ref m0a28, .ref m0a29, .ref m0a30, .ref m0a31, .int 0, .ref m0a33, .ref m0a34, .ref m0a35, .ref m0a36, .ref m0a37, .ref m0a38, .ref m0a39, .ref m0a40, .ref m0a41, .ref m0a42, .ref m0a43, .ref m0a44, .ref m0a45, .ref m0a46, .ref m0a47, .int 0, .ref m0a49, .ref m0a50, .ref m0a51, .int 0, .ref m0a53, .ref m0a54, .ref m0a55, .ref m0a56, .ref m0a57, .ref m0a58, .ref m0a59, .ref m0a60, .ref m0a61, .ref m0a62, .ref m0a63, .long 0, .int 0, .int (-9), .ref m0a67, .ref m0a68, .ref m0a69, .ref m0a70, .ref m0a71, .ref m0a72, .ref m0a73, .ref m0a74, .ref m0a75, .long 0]))] := hD
    exact rI X hK hP hD hS dX12_isPerson_11 (by rfl) (Nat.le_of_ble_eq_true rfl) (Nat.le_of_ble_eq_true rfl) (by show ((_, _) : Int32 × va_W) = _; unfold sp_X12_isPerson; rw [if_neg c_3]; try rfl)
def sp_X12_isMark (g : GG) (m0 : Nat) (c0 : Int32) (m0a1 : Nat) (m0a5 : Nat) (m0a6 : Nat) (m0a7 : Nat) (m0a8 : Nat) (m0a9 : Nat) (m0a11 : Nat) (m0a12 : Nat) (m0a13 : Nat) (m0a14 : Nat) (m0a15 : Nat) (m0a16 : Nat) (m0a18 : Nat) (m0a19 : Nat) (m0a20 : Nat) (m0a21 : Nat) (m0a22 : Nat) (m0a24 : Nat) (m0a25 : Nat) (m0a26 : Nat) (m0a28 : Nat) (m0a29 : Nat) (m0a30 : Nat) (m0a31 : Nat) (m0a33 : Nat) (m0a34 : Nat) (m0a35 : Nat) (m0a36 : Nat) (m0a37 : Nat) (m0a38 : Nat) (m0a39 : Nat) (m0a40 : Nat) (m0a41 : Nat) (m0a42 : Nat) (m0a43 : Nat) (m0a44 : Nat) (m0a45 : Nat) (m0a46 : Nat) (m0a47 : Nat) (m0a49 : Nat) (m0a50 : Nat) (m0a51 : Nat) (m0a53 : Nat) (m0a54 : Nat) (m0a55 : Nat) (m0a56 : Nat) (m0a57 : Nat) (m0a58 : Nat) (m0a59 : Nat) (m0a60 : Nat) (m0a61 : Nat) (m0a62 : Nat) (m0a63 : Nat) (m0a67 : Nat) (m0a68 : Nat) (m0a69 : Nat) (m0a70 : Nat) (m0a71 : Nat) (m0a72 : Nat) (m0a73 : Nat) (m0a74 : Nat) (m0a75 : Nat) : Int32 × va_W := if c0 < 0 then (0, [(m0, .inr (12, [.int 0, .ref m0a1, .int 0, .long 0, .int 0, .ref m0a5, .ref m0a6, .ref m0a7, .ref m0a8, .ref m0a9, .int 0, .ref m0a11, .ref m0a12, .ref m0a13, .ref m0a14, .ref m0a15, .ref m0a16, .int 0, .ref m0a18, .ref m0a19, .ref m0a20, .ref m0a21, .ref m0a22, .int 0, .ref m0a24, .ref m0a25, .ref m0a26, .int 0, .ref m0a28, .ref m0a29, .ref m0a30, .ref m0a31, .int 0, .ref m0a33, .ref m0a34, .ref m0a35, .ref m0a36, .ref m0a37, .ref m0a38, .ref m0a39, .ref m0a40, .ref m0a41, .ref m0a42, .ref m0a43, .ref m0a44, .ref m0a45, .ref m0a46, .ref m0a47, .int 0, .ref m0a49, .ref m0a50, .ref m0a51, .int 0, .ref m0a53, .ref m0a54, .ref m0a55, .ref m0a56, .ref m0a57, .ref m0a58, .ref m0a59, .ref m0a60, .ref m0a61, .ref m0a62, .ref m0a63, .long 0, .int 0, .int (-9), .ref m0a67, .ref m0a68, .ref m0a69, .ref m0a70, .ref m0a71, .ref m0a72, .ref m0a73, .ref m0a74, .ref m0a75, .long 0]))]) else (0, [(m0, .inr (12, [.int 0, .ref m0a1, .int 0, .long 0, .int 0, .ref m0a5, .ref m0a6, .ref m0a7, .ref m0a8, .ref m0a9, .int 0, .ref m0a11, .ref m0a12, .ref m0a13, .ref m0a14, .ref m0a15, .ref m0a16, .int 0, .ref m0a18, .ref m0a19, .ref m0a20, .ref m0a21, .ref m0a22, .int 0, .ref m0a24, .ref m0a25, .ref m0a26, .int 0, .ref m0a28, .ref m0a29, .ref m0a30, .ref m0a31, .int 0, .ref m0a33, .ref m0a34, .ref m0a35, .ref m0a36, .ref m0a37, .ref m0a38, .ref m0a39, .ref m0a40, .ref m0a41, .ref m0a42, .ref m0a43, .ref m0a44, .ref m0a45, .ref m0a46, .ref m0a47, .int 0, .ref m0a49, .ref m0a50, .ref m0a51, .int 0, .ref m0a53, .ref m0a54, .ref m0a55, .ref m0a56, .ref m0a57, .ref m0a58, .ref m0a59, .ref m0a60, .ref m0a61, .ref m0a62, .ref m0a63, .long 0, .int 0, .int (-9), .ref m0a67, .ref m0a68, .ref m0a69, .ref m0a70, .ref m0a71, .ref m0a72, .ref m0a73, .ref m0a74, .ref m0a75, .long 0]))])
set_option maxHeartbeats 4000000 in
set_option maxRecDepth 100000 in
theorem c_X12_isMark (l : Launch) (g : GG) (m0 : Nat) (c0 : Int32) (m0a1 : Nat) (m0a5 : Nat) (m0a6 : Nat) (m0a7 : Nat) (m0a8 : Nat) (m0a9 : Nat) (m0a11 : Nat) (m0a12 : Nat) (m0a13 : Nat) (m0a14 : Nat) (m0a15 : Nat) (m0a16 : Nat) (m0a18 : Nat) (m0a19 : Nat) (m0a20 : Nat) (m0a21 : Nat) (m0a22 : Nat) (m0a24 : Nat) (m0a25 : Nat) (m0a26 : Nat) (m0a28 : Nat) (m0a29 : Nat) (m0a30 : Nat) (m0a31 : Nat) (m0a33 : Nat) (m0a34 : Nat) (m0a35 : Nat) (m0a36 : Nat) (m0a37 : Nat) (m0a38 : Nat) (m0a39 : Nat) (m0a40 : Nat) (m0a41 : Nat) (m0a42 : Nat) (m0a43 : Nat) (m0a44 : Nat) (m0a45 : Nat) (m0a46 : Nat) (m0a47 : Nat) (m0a49 : Nat) (m0a50 : Nat) (m0a51 : Nat) (m0a53 : Nat) (m0a54 : Nat) (m0a55 : Nat) (m0a56 : Nat) (m0a57 : Nat) (m0a58 : Nat) (m0a59 : Nat) (m0a60 : Nat) (m0a61 : Nat) (m0a62 : Nat) (m0a63 : Nat) (m0a67 : Nat) (m0a68 : Nat) (m0a69 : Nat) (m0a70 : Nat) (m0a71 : Nat) (m0a72 : Nat) (m0a73 : Nat) (m0a74 : Nat) (m0a75 : Nat) : MI l g yX12_isMark cX12_isMark 2 (some .boolean) 1 22 0 0 [(m0, .inr (12, [.int 0, .ref m0a1, .int 0, .long 0, .int 0, .ref m0a5, .ref m0a6, .ref m0a7, .ref m0a8, .ref m0a9, .int 0, .ref m0a11, .ref m0a12, .ref m0a13, .ref m0a14, .ref m0a15, .ref m0a16, .int 0, .ref m0a18, .ref m0a19, .ref m0a20, .ref m0a21, .ref m0a22, .int 0, .ref m0a24, .ref m0a25, .ref m0a26, .int 0, .ref m0a28, .ref m0a29, .ref m0a30, .ref m0a31, .int 0, .ref m0a33, .ref m0a34, .ref m0a35, .ref m0a36, .ref m0a37, .ref m0a38, .ref m0a39, .ref m0a40, .ref m0a41, .ref m0a42, .ref m0a43, .ref m0a44, .ref m0a45, .ref m0a46, .ref m0a47, .int 0, .ref m0a49, .ref m0a50, .ref m0a51, .int 0, .ref m0a53, .ref m0a54, .ref m0a55, .ref m0a56, .ref m0a57, .ref m0a58, .ref m0a59, .ref m0a60, .ref m0a61, .ref m0a62, .ref m0a63, .long 0, .int 0, .int (-9), .ref m0a67, .ref m0a68, .ref m0a69, .ref m0a70, .ref m0a71, .ref m0a72, .ref m0a73, .ref m0a74, .ref m0a75, .long 0]))] [.ref m0, .int c0] (fun rr_ ww_ => (rr_, ww_) = sp_X12_isMark g m0 c0 m0a1 m0a5 m0a6 m0a7 m0a8 m0a9 m0a11 m0a12 m0a13 m0a14 m0a15 m0a16 m0a18 m0a19 m0a20 m0a21 m0a22 m0a24 m0a25 m0a26 m0a28 m0a29 m0a30 m0a31 m0a33 m0a34 m0a35 m0a36 m0a37 m0a38 m0a39 m0a40 m0a41 m0a42 m0a43 m0a44 m0a45 m0a46 m0a47 m0a49 m0a50 m0a51 m0a53 m0a54 m0a55 m0a56 m0a57 m0a58 m0a59 m0a60 m0a61 m0a62 m0a63 m0a67 m0a68 m0a69 m0a70 m0a71 m0a72 m0a73 m0a74 m0a75) := by
  refine met_of (fun A => va_Qi _ (bW g A) A) (by decide) (Nat.le_of_ble_eq_true rfl) ?_
  intro p e s m below meth c A ls X hK hP hD hA hZ hS hl
  have hx := X.1
  have hb := X.2.1
  have hml := X.2.2.1
  have hown := X.2.2.2.1
  have hts := X.2.2.2.2.1
  have hnm := X.2.2.2.2.2.2.2
  have hl : lv_has ls 2 [(0, .ref m0), (1, .int c0)] := hl
  refine lv_iload_n hx hb dX12_isMark_0 rfl (lv_at hl 1 rfl) ?_
  refine lv_iconst (v := 0) hx hb dX12_isMark_1 (by decide) ?_
  refine lv_aload_n hx hb dX12_isMark_2 rfl (lv_at hl 0 rfl) ?_
  refine va_get (D := g.1) (ci := 12) (v := .int 0) (C := RX12) (T := TX12) (N := 77) hx hb hts fw_X12 hown hK hP 0 rfl rfl 32 (by decide) (hts _ q_1498) (fun _ h9 => h9) rfl dX12_isMark_3 ?_
  refine lv_iconst (v := 1) hx hb dX12_isMark_6 (by decide) ?_
  refine lv_isub hx hb dX12_isMark_7 ?_
  refine lv_topk (v := (-1)) (by decide) ?_
  refine kSi (As := [.int c0, .int 0, .int (-1)]) (rest := []) (wr := [(m0, .inr (12, [.int 0, .ref m0a1, .int 0, .long 0, .int 0, .ref m0a5, .ref m0a6, .ref m0a7, .ref m0a8, .ref m0a9, .int 0, .ref m0a11, .ref m0a12, .ref m0a13, .ref m0a14, .ref m0a15, .ref m0a16, .int 0, .ref m0a18, .ref m0a19, .ref m0a20, .ref m0a21, .ref m0a22, .int 0, .ref m0a24, .ref m0a25, .ref m0a26, .int 0, .ref m0a28, .ref m0a29, .ref m0a30, .ref m0a31, .int 0, .ref m0a33, .ref m0a34, .ref m0a35, .ref m0a36, .ref m0a37, .ref m0a38, .ref m0a39, .ref m0a40, .ref m0a41, .ref m0a42, .ref m0a43, .ref m0a44, .ref m0a45, .ref m0a46, .ref m0a47, .int 0, .ref m0a49, .ref m0a50, .ref m0a51, .int 0, .ref m0a53, .ref m0a54, .ref m0a55, .ref m0a56, .ref m0a57, .ref m0a58, .ref m0a59, .ref m0a60, .ref m0a61, .ref m0a62, .ref m0a63, .long 0, .int 0, .int (-9), .ref m0a67, .ref m0a68, .ref m0a69, .ref m0a70, .ref m0a71, .ref m0a72, .ref m0a73, .ref m0a74, .ref m0a75, .long 0]))]) X (c_X12_in l g c0 0 (-1)) ok_X12_in q_1706 q_1705 rfl hK hP hD hS hA hZ hl.1 [] [0] rfl rfl rfl rfl rfl rfl (Nat.le_of_ble_eq_true rfl) ⟨Nat.le_of_ble_eq_true rfl, Nat.le_of_ble_eq_true rfl⟩ dX12_isMark_8 ⟨Nat.le_of_ble_eq_true rfl, Nat.le_of_ble_eq_true rfl⟩ (fun r_1 w1 H locs hw_2 hP hD hS => ?_)
  rw [sp_X12_in] at hw_2
  rcases Classical.em (c0 < 0) with c_3 | c_3
  ·
    rw [if_pos c_3] at hw_2
    obtain ⟨e1, e2⟩ := Prod.mk.inj hw_2
    subst e1; subst e2
    have hP : va_P g.1 classes [(m0, .inr (12, [.int 0, .ref m0a1, .int 0, .long 0, .int 0, .ref m0a5, .ref m0a6, .ref m0a7, .ref m0a8, .ref m0a9, .int 0, .ref m0a11, .ref m0a12, .ref m0a13, .ref m0a14, .ref m0a15, .ref m0a16, .int 0, .ref m0a18, .ref m0a19, .ref m0a20, .ref m0a21, .ref m0a22, .int 0, .ref m0a24, .ref m0a25, .ref m0a26, .int 0, .ref m0a28, .ref m0a29, .ref m0a30, .ref m0a31, .int 0, .ref m0a33, .ref m0a34, .ref m0a35, .ref m0a36, .ref m0a37, .ref m0a38, .ref m0a39, .ref m0a40, .ref m0a41, .ref m0a42, .ref m0a43, .ref m0a44, .ref m0a45, .ref m0a46, .ref m0a47, .int 0, .ref m0a49, .ref m0a50, .ref m0a51, .int 0, .ref m0a53, .ref m0a54, .ref m0a55, .ref m0a56, .ref m0a57, .ref m0a58, .ref m0a59, .ref m0a60, .ref m0a61, .ref m0a62, .ref m0a63, .long 0, .int 0, .int (-9), .ref m0a67, .ref m0a68, .ref m0a69, .ref m0a70, .ref m0a71, .ref m0a72, .ref m0a73, .ref m0a74, .ref m0a75, .long 0]))] H := hP
    have hD : va_D A [(m0, .inr (12, [.int 0, .ref m0a1, .int 0, .long 0, .int 0, .ref m0a5, .ref m0a6, .ref m0a7, .ref m0a8, .ref m0a9, .int 0, .ref m0a11, .ref m0a12, .ref m0a13, .ref m0a14, .ref m0a15, .ref m0a16, .int 0, .ref m0a18, .ref m0a19, .ref m0a20, .ref m0a21, .ref m0a22, .int 0, .ref m0a24, .ref m0a25, .ref m0a26, .int 0, .ref m0a28, .ref m0a29, .ref m0a30, .ref m0a31, .int 0, .ref m0a33, .ref m0a34, .ref m0a35, .ref m0a36, .ref m0a37, .ref m0a38, .ref m0a39, .ref m0a40, .ref m0a41, .ref m0a42, .ref m0a43, .ref m0a44, .ref m0a45, .ref m0a46, .ref m0a47, .int 0, .ref m0a49, .ref m0a50, .ref m0a51, .int 0, .ref m0a53, .ref m0a54, .ref m0a55, .ref m0a56, .ref m0a57, .ref m0a58, .ref m0a59, .ref m0a60, .ref m0a61, .ref m0a62, .ref m0a63, .long 0, .int 0, .int (-9), .ref m0a67, .ref m0a68, .ref m0a69, .ref m0a70, .ref m0a71, .ref m0a72, .ref m0a73, .ref m0a74, .ref m0a75, .long 0]))] := hD
    exact rI X hK hP hD hS dX12_isMark_11 (by rfl) (Nat.le_of_ble_eq_true rfl) (Nat.le_of_ble_eq_true rfl) (by show ((_, _) : Int32 × va_W) = _; unfold sp_X12_isMark; rw [if_pos c_3]; try rfl)
  ·
    rw [if_neg c_3] at hw_2
    rw [if_pos (show (-1) < c0 from (by simp only [i32lt, i32le, i32eq, Int32.reduceToInt] at c_3 ⊢; omega))] at hw_2
    obtain ⟨e1, e2⟩ := Prod.mk.inj hw_2
    subst e1; subst e2
    have hP : va_P g.1 classes [(m0, .inr (12, [.int 0, .ref m0a1, .int 0, .long 0, .int 0, .ref m0a5, .ref m0a6, .ref m0a7, .ref m0a8, .ref m0a9, .int 0, .ref m0a11, .ref m0a12, .ref m0a13, .ref m0a14, .ref m0a15, .ref m0a16, .int 0, .ref m0a18, .ref m0a19, .ref m0a20, .ref m0a21, .ref m0a22, .int 0, .ref m0a24, .ref m0a25, .ref m0a26, .int 0, .ref m0a28, .ref m0a29, .ref m0a30, .ref m0a31, .int 0, .ref m0a33, .ref m0a34, .ref m0a35, .ref m0a36, .ref m0a37, .ref m0a38, .ref m0a39, .ref m0a40, .ref m0a41, .ref m0a42, .ref m0a43, .ref m0a44, .ref m0a45, .ref m0a46, .ref m0a47, .int 0, .ref m0a49, .ref m0a50, .ref m0a51, .int 0, .ref m0a53, .ref m0a54, .ref m0a55, .ref m0a56, .ref m0a57, .ref m0a58, .ref m0a59, .ref m0a60, .ref m0a61, .ref m0a62, .ref m0a63, .long 0, .int 0, .int (-9), .ref m0a67, .ref m0a68, .ref m0a69, .ref m0a70, .ref m0a71, .ref m0a72, .ref m0a73, .ref m0a74, .ref m0a75, .long 0]))] H := hP
    have hD : va_D A [(m0, .inr (12, [.int 0, .ref m0a1, .int 0, .long 0, .int 0, .ref m0a5, .ref m0a6, .ref m0a7, .ref m0a8, .ref m0a9, .int 0, .ref m0a11, .ref m0a12, .ref m0a13, .ref m0a14, .ref m0a15, .ref m0a16, .int 0, .ref m0a18, .ref m0a19, .ref m0a20, .ref m0a21, .ref m0a22, .int 0, .ref m0a24, .ref m0a25, .ref m0a26, .int 0, .ref m0a28, .ref m0a29, .ref m0a30, .ref m0a31, .int 0, .ref m0a33, .ref m0a34, .ref m0a35, .ref m0a36, .ref m0a37, .ref m0a38, .ref m0a39, .ref m0a40, .ref m0a41, .ref m0a42, .ref m0a43, .ref m0a44, .ref m0a45, .ref m0a46, .ref m0a47, .int 0, .ref m0a49, .ref m0a50, .ref m0a51, .int 0, .ref m0a53, .ref m0a54, .ref m0a55, .ref m0a56, .ref m0a57, .ref m0a58, .ref m0a59, .ref m0a60, .ref m0a61, .ref m0a62, .ref m0a63, .long 0, .int 0, .int (-9), .ref m0a67, .ref m0a68, .ref m0a69, .ref m0a70, .ref m0a71, .ref m0a72, .ref m0a73, .ref m0a74, .ref m0a75, .long 0]))] := hD
    exact rI X hK hP hD hS dX12_isMark_11 (by rfl) (Nat.le_of_ble_eq_true rfl) (Nat.le_of_ble_eq_true rfl) (by show ((_, _) : Int32 × va_W) = _; unfold sp_X12_isMark; rw [if_neg c_3]; try rfl)
def sp_X12_on (g : GG) (m0 : Nat) (c0 : Int32) (m0a1 : Nat) (m0a5 : Nat) (m0a6 : Nat) (m0a7 : Nat) (m0a8 : Nat) (m0a9 : Nat) (m0a11 : Nat) (m0a12 : Nat) (m0a13 : Nat) (m0a14 : Nat) (m0a15 : Nat) (m0a16 : Nat) (m0a18 : Nat) (m0a19 : Nat) (m0a20 : Nat) (m0a21 : Nat) (m0a22 : Nat) (m0a24 : Nat) (m0a25 : Nat) (m0a26 : Nat) (m0a28 : Nat) (m0a29 : Nat) (m0a30 : Nat) (m0a31 : Nat) (m0a33 : Nat) (m0a34 : Nat) (m0a35 : Nat) (m0a36 : Nat) (m0a37 : Nat) (m0a38 : Nat) (m0a39 : Nat) (m0a40 : Nat) (m0a41 : Nat) (m0a42 : Nat) (m0a43 : Nat) (m0a44 : Nat) (m0a45 : Nat) (m0a46 : Nat) (m0a47 : Nat) (m0a49 : Nat) (m0a50 : Nat) (m0a51 : Nat) (m0a53 : Nat) (m0a54 : Nat) (m0a55 : Nat) (m0a56 : Nat) (m0a57 : Nat) (m0a58 : Nat) (m0a59 : Nat) (m0a60 : Nat) (m0a61 : Nat) (m0a62 : Nat) (m0a63 : Nat) (m0a67 : Nat) (m0a68 : Nat) (m0a69 : Nat) (m0a70 : Nat) (m0a71 : Nat) (m0a72 : Nat) (m0a73 : Nat) (m0a74 : Nat) (m0a75 : Nat) : Int32 × va_W := ((-9), [(m0, .inr (12, [.int 0, .ref m0a1, .int 0, .long 0, .int 0, .ref m0a5, .ref m0a6, .ref m0a7, .ref m0a8, .ref m0a9, .int 0, .ref m0a11, .ref m0a12, .ref m0a13, .ref m0a14, .ref m0a15, .ref m0a16, .int 0, .ref m0a18, .ref m0a19, .ref m0a20, .ref m0a21, .ref m0a22, .int 0, .ref m0a24, .ref m0a25, .ref m0a26, .int 0, .ref m0a28, .ref m0a29, .ref m0a30, .ref m0a31, .int 0, .ref m0a33, .ref m0a34, .ref m0a35, .ref m0a36, .ref m0a37, .ref m0a38, .ref m0a39, .ref m0a40, .ref m0a41, .ref m0a42, .ref m0a43, .ref m0a44, .ref m0a45, .ref m0a46, .ref m0a47, .int 0, .ref m0a49, .ref m0a50, .ref m0a51, .int 0, .ref m0a53, .ref m0a54, .ref m0a55, .ref m0a56, .ref m0a57, .ref m0a58, .ref m0a59, .ref m0a60, .ref m0a61, .ref m0a62, .ref m0a63, .long 0, .int 0, .int (-9), .ref m0a67, .ref m0a68, .ref m0a69, .ref m0a70, .ref m0a71, .ref m0a72, .ref m0a73, .ref m0a74, .ref m0a75, .long 0]))])
set_option maxHeartbeats 4000000 in
set_option maxRecDepth 100000 in
theorem c_X12_on (l : Launch) (g : GG) (m0 : Nat) (c0 : Int32) (m0a1 : Nat) (m0a5 : Nat) (m0a6 : Nat) (m0a7 : Nat) (m0a8 : Nat) (m0a9 : Nat) (m0a11 : Nat) (m0a12 : Nat) (m0a13 : Nat) (m0a14 : Nat) (m0a15 : Nat) (m0a16 : Nat) (m0a18 : Nat) (m0a19 : Nat) (m0a20 : Nat) (m0a21 : Nat) (m0a22 : Nat) (m0a24 : Nat) (m0a25 : Nat) (m0a26 : Nat) (m0a28 : Nat) (m0a29 : Nat) (m0a30 : Nat) (m0a31 : Nat) (m0a33 : Nat) (m0a34 : Nat) (m0a35 : Nat) (m0a36 : Nat) (m0a37 : Nat) (m0a38 : Nat) (m0a39 : Nat) (m0a40 : Nat) (m0a41 : Nat) (m0a42 : Nat) (m0a43 : Nat) (m0a44 : Nat) (m0a45 : Nat) (m0a46 : Nat) (m0a47 : Nat) (m0a49 : Nat) (m0a50 : Nat) (m0a51 : Nat) (m0a53 : Nat) (m0a54 : Nat) (m0a55 : Nat) (m0a56 : Nat) (m0a57 : Nat) (m0a58 : Nat) (m0a59 : Nat) (m0a60 : Nat) (m0a61 : Nat) (m0a62 : Nat) (m0a63 : Nat) (m0a67 : Nat) (m0a68 : Nat) (m0a69 : Nat) (m0a70 : Nat) (m0a71 : Nat) (m0a72 : Nat) (m0a73 : Nat) (m0a74 : Nat) (m0a75 : Nat) : MI l g yX12_on cX12_on 4 (some .int) 0 0 0 0 [(m0, .inr (12, [.int 0, .ref m0a1, .int 0, .long 0, .int 0, .ref m0a5, .ref m0a6, .ref m0a7, .ref m0a8, .ref m0a9, .int 0, .ref m0a11, .ref m0a12, .ref m0a13, .ref m0a14, .ref m0a15, .ref m0a16, .int 0, .ref m0a18, .ref m0a19, .ref m0a20, .ref m0a21, .ref m0a22, .int 0, .ref m0a24, .ref m0a25, .ref m0a26, .int 0, .ref m0a28, .ref m0a29, .ref m0a30, .ref m0a31, .int 0, .ref m0a33, .ref m0a34, .ref m0a35, .ref m0a36, .ref m0a37, .ref m0a38, .ref m0a39, .ref m0a40, .ref m0a41, .ref m0a42, .ref m0a43, .ref m0a44, .ref m0a45, .ref m0a46, .ref m0a47, .int 0, .ref m0a49, .ref m0a50, .ref m0a51, .int 0, .ref m0a53, .ref m0a54, .ref m0a55, .ref m0a56, .ref m0a57, .ref m0a58, .ref m0a59, .ref m0a60, .ref m0a61, .ref m0a62, .ref m0a63, .long 0, .int 0, .int (-9), .ref m0a67, .ref m0a68, .ref m0a69, .ref m0a70, .ref m0a71, .ref m0a72, .ref m0a73, .ref m0a74, .ref m0a75, .long 0]))] [.ref m0, .int c0] (fun rr_ ww_ => (rr_, ww_) = sp_X12_on g m0 c0 m0a1 m0a5 m0a6 m0a7 m0a8 m0a9 m0a11 m0a12 m0a13 m0a14 m0a15 m0a16 m0a18 m0a19 m0a20 m0a21 m0a22 m0a24 m0a25 m0a26 m0a28 m0a29 m0a30 m0a31 m0a33 m0a34 m0a35 m0a36 m0a37 m0a38 m0a39 m0a40 m0a41 m0a42 m0a43 m0a44 m0a45 m0a46 m0a47 m0a49 m0a50 m0a51 m0a53 m0a54 m0a55 m0a56 m0a57 m0a58 m0a59 m0a60 m0a61 m0a62 m0a63 m0a67 m0a68 m0a69 m0a70 m0a71 m0a72 m0a73 m0a74 m0a75) := by
  refine met_of (fun A => va_Qi _ (bW g A) A) (by decide) (Nat.le_of_ble_eq_true rfl) ?_
  intro p e s m below meth c A ls X hK hP hD hA hZ hS hl
  have hx := X.1
  have hb := X.2.1
  have hml := X.2.2.1
  have hown := X.2.2.2.1
  have hts := X.2.2.2.2.1
  have hnm := X.2.2.2.2.2.2.2
  have hl : lv_has ls 4 [(0, .ref m0), (1, .int c0)] := hl
  refine lv_bipush (v := (-9)) hx hb dX12_on_0 (by decide) ?_
  refine lv_istore_n (lv' := [(2, .int (-9)), (0, .ref m0), (1, .int c0)]) hx hb dX12_on_2 rfl hl (by decide) rfl (fun ls hl => ?_)
  refine lv_iconst (v := 0) hx hb dX12_on_3 (by decide) ?_
  refine lv_istore_n (lv' := [(3, .int 0), (2, .int (-9)), (0, .ref m0), (1, .int c0)]) hx hb dX12_on_4 rfl hl (by decide) rfl (fun ls hl => ?_)
  refine lv_iload_n hx hb dX12_on_5 rfl (lv_at hl 0 rfl) ?_
  refine lv_aload_n hx hb dX12_on_6 rfl (lv_at hl 2 rfl) ?_
  refine va_get (D := g.1) (ci := 12) (v := .int 0) (C := RX12) (T := TX12) (N := 77) hx hb hts fw_X12 hown hK hP 0 rfl rfl 17 (by decide) (hts _ q_1483) (fun _ h9 => h9) rfl dX12_on_7 ?_
  refine lv_icmp_ge (tgt := 44) hx hb dX12_on_10 (by decide) (fun _ => ?_) (fun c_1 => absurd (by decide) c_1)
  refine lv_iload_n hx hb dX12_on_44 rfl (lv_at hl 1 rfl) ?_
  exact rI X hK hP hD hS dX12_on_45 (by rfl) (Nat.le_of_ble_eq_true rfl) (Nat.le_of_ble_eq_true rfl) (by show ((_, _) : Int32 × va_W) = _; unfold sp_X12_on; try rfl)
def sp_X12_ruleFor (g : GG) (m0 : Nat) (l0 : Int32) (d0 : Int32) (k0 : Int32) (m0a1 : Nat) (m0a5 : Nat) (m0a6 : Nat) (m0a7 : Nat) (m0a8 : Nat) (m0a9 : Nat) (m0a11 : Nat) (m0a12 : Nat) (m0a13 : Nat) (m0a14 : Nat) (m0a15 : Nat) (m0a16 : Nat) (m0a18 : Nat) (m0a19 : Nat) (m0a20 : Nat) (m0a21 : Nat) (m0a22 : Nat) (m0a24 : Nat) (m0a25 : Nat) (m0a26 : Nat) (m0a28 : Nat) (m0a29 : Nat) (m0a30 : Nat) (m0a31 : Nat) (m0a33 : Nat) (m0a34 : Nat) (m0a35 : Nat) (m0a36 : Nat) (m0a37 : Nat) (m0a38 : Nat) (m0a39 : Nat) (m0a40 : Nat) (m0a41 : Nat) (m0a42 : Nat) (m0a43 : Nat) (m0a44 : Nat) (m0a45 : Nat) (m0a46 : Nat) (m0a47 : Nat) (m0a49 : Nat) (m0a50 : Nat) (m0a51 : Nat) (m0a53 : Nat) (m0a54 : Nat) (m0a55 : Nat) (m0a56 : Nat) (m0a57 : Nat) (m0a58 : Nat) (m0a59 : Nat) (m0a60 : Nat) (m0a61 : Nat) (m0a62 : Nat) (m0a63 : Nat) (m0a67 : Nat) (m0a68 : Nat) (m0a69 : Nat) (m0a70 : Nat) (m0a71 : Nat) (m0a72 : Nat) (m0a73 : Nat) (m0a74 : Nat) (m0a75 : Nat) : Int32 × va_W := ((-9), [(m0, .inr (12, [.int 0, .ref m0a1, .int 0, .long 0, .int 0, .ref m0a5, .ref m0a6, .ref m0a7, .ref m0a8, .ref m0a9, .int 0, .ref m0a11, .ref m0a12, .ref m0a13, .ref m0a14, .ref m0a15, .ref m0a16, .int 0, .ref m0a18, .ref m0a19, .ref m0a20, .ref m0a21, .ref m0a22, .int 0, .ref m0a24, .ref m0a25, .ref m0a26, .int 0, .ref m0a28, .ref m0a29, .ref m0a30, .ref m0a31, .int 0, .ref m0a33, .ref m0a34, .ref m0a35, .ref m0a36, .ref m0a37, .ref m0a38, .ref m0a39, .ref m0a40, .ref m0a41, .ref m0a42, .ref m0a43, .ref m0a44, .ref m0a45, .ref m0a46, .ref m0a47, .int 0, .ref m0a49, .ref m0a50, .ref m0a51, .int 0, .ref m0a53, .ref m0a54, .ref m0a55, .ref m0a56, .ref m0a57, .ref m0a58, .ref m0a59, .ref m0a60, .ref m0a61, .ref m0a62, .ref m0a63, .long 0, .int 0, .int (-9), .ref m0a67, .ref m0a68, .ref m0a69, .ref m0a70, .ref m0a71, .ref m0a72, .ref m0a73, .ref m0a74, .ref m0a75, .long 0]))])
set_option maxHeartbeats 4000000 in
set_option maxRecDepth 100000 in
theorem c_X12_ruleFor (l : Launch) (g : GG) (m0 : Nat) (l0 : Int32) (d0 : Int32) (k0 : Int32) (m0a1 : Nat) (m0a5 : Nat) (m0a6 : Nat) (m0a7 : Nat) (m0a8 : Nat) (m0a9 : Nat) (m0a11 : Nat) (m0a12 : Nat) (m0a13 : Nat) (m0a14 : Nat) (m0a15 : Nat) (m0a16 : Nat) (m0a18 : Nat) (m0a19 : Nat) (m0a20 : Nat) (m0a21 : Nat) (m0a22 : Nat) (m0a24 : Nat) (m0a25 : Nat) (m0a26 : Nat) (m0a28 : Nat) (m0a29 : Nat) (m0a30 : Nat) (m0a31 : Nat) (m0a33 : Nat) (m0a34 : Nat) (m0a35 : Nat) (m0a36 : Nat) (m0a37 : Nat) (m0a38 : Nat) (m0a39 : Nat) (m0a40 : Nat) (m0a41 : Nat) (m0a42 : Nat) (m0a43 : Nat) (m0a44 : Nat) (m0a45 : Nat) (m0a46 : Nat) (m0a47 : Nat) (m0a49 : Nat) (m0a50 : Nat) (m0a51 : Nat) (m0a53 : Nat) (m0a54 : Nat) (m0a55 : Nat) (m0a56 : Nat) (m0a57 : Nat) (m0a58 : Nat) (m0a59 : Nat) (m0a60 : Nat) (m0a61 : Nat) (m0a62 : Nat) (m0a63 : Nat) (m0a67 : Nat) (m0a68 : Nat) (m0a69 : Nat) (m0a70 : Nat) (m0a71 : Nat) (m0a72 : Nat) (m0a73 : Nat) (m0a74 : Nat) (m0a75 : Nat) : MI l g yX12_ruleFor cX12_ruleFor 7 (some .int) 0 0 0 0 [(m0, .inr (12, [.int 0, .ref m0a1, .int 0, .long 0, .int 0, .ref m0a5, .ref m0a6, .ref m0a7, .ref m0a8, .ref m0a9, .int 0, .ref m0a11, .ref m0a12, .ref m0a13, .ref m0a14, .ref m0a15, .ref m0a16, .int 0, .ref m0a18, .ref m0a19, .ref m0a20, .ref m0a21, .ref m0a22, .int 0, .ref m0a24, .ref m0a25, .ref m0a26, .int 0, .ref m0a28, .ref m0a29, .ref m0a30, .ref m0a31, .int 0, .ref m0a33, .ref m0a34, .ref m0a35, .ref m0a36, .ref m0a37, .ref m0a38, .ref m0a39, .ref m0a40, .ref m0a41, .ref m0a42, .ref m0a43, .ref m0a44, .ref m0a45, .ref m0a46, .ref m0a47, .int 0, .ref m0a49, .ref m0a50, .ref m0a51, .int 0, .ref m0a53, .ref m0a54, .ref m0a55, .ref m0a56, .ref m0a57, .ref m0a58, .ref m0a59, .ref m0a60, .ref m0a61, .ref m0a62, .ref m0a63, .long 0, .int 0, .int (-9), .ref m0a67, .ref m0a68, .ref m0a69, .ref m0a70, .ref m0a71, .ref m0a72, .ref m0a73, .ref m0a74, .ref m0a75, .long 0]))] [.ref m0, .int l0, .int d0, .int k0] (fun rr_ ww_ => (rr_, ww_) = sp_X12_ruleFor g m0 l0 d0 k0 m0a1 m0a5 m0a6 m0a7 m0a8 m0a9 m0a11 m0a12 m0a13 m0a14 m0a15 m0a16 m0a18 m0a19 m0a20 m0a21 m0a22 m0a24 m0a25 m0a26 m0a28 m0a29 m0a30 m0a31 m0a33 m0a34 m0a35 m0a36 m0a37 m0a38 m0a39 m0a40 m0a41 m0a42 m0a43 m0a44 m0a45 m0a46 m0a47 m0a49 m0a50 m0a51 m0a53 m0a54 m0a55 m0a56 m0a57 m0a58 m0a59 m0a60 m0a61 m0a62 m0a63 m0a67 m0a68 m0a69 m0a70 m0a71 m0a72 m0a73 m0a74 m0a75) := by
  refine met_of (fun A => va_Qi _ (bW g A) A) (by decide) (Nat.le_of_ble_eq_true rfl) ?_
  intro p e s m below meth c A ls X hK hP hD hA hZ hS hl
  have hx := X.1
  have hb := X.2.1
  have hml := X.2.2.1
  have hown := X.2.2.2.1
  have hts := X.2.2.2.2.1
  have hnm := X.2.2.2.2.2.2.2
  have hl : lv_has ls 7 [(0, .ref m0), (1, .int l0), (2, .int d0), (3, .int k0)] := hl
  refine lv_bipush (v := (-9)) hx hb dX12_ruleFor_0 (by decide) ?_
  refine lv_istore (lv' := [(4, .int (-9)), (0, .ref m0), (1, .int l0), (2, .int d0), (3, .int k0)]) hx hb dX12_ruleFor_2 hl (by decide) rfl (fun ls hl => ?_)
  refine lv_iconst (v := 0) hx hb dX12_ruleFor_4 (by decide) ?_
  refine lv_istore (lv' := [(5, .int 0), (4, .int (-9)), (0, .ref m0), (1, .int l0), (2, .int d0), (3, .int k0)]) hx hb dX12_ruleFor_5 hl (by decide) rfl (fun ls hl => ?_)
  refine lv_iload hx hb dX12_ruleFor_7 (lv_at hl 0 rfl) ?_
  refine lv_aload_n hx hb dX12_ruleFor_9 rfl (lv_at hl 2 rfl) ?_
  refine va_get (D := g.1) (ci := 12) (v := .int 0) (C := RX12) (T := TX12) (N := 77) hx hb hts fw_X12 hown hK hP 0 rfl rfl 10 (by decide) (hts _ q_1476) (fun _ h9 => h9) rfl dX12_ruleFor_10 ?_
  refine lv_icmp_ge (tgt := 102) hx hb dX12_ruleFor_13 (by decide) (fun _ => ?_) (fun c_1 => absurd (by decide) c_1)
  refine lv_iload hx hb dX12_ruleFor_102 (lv_at hl 1 rfl) ?_
  exact rI X hK hP hD hS dX12_ruleFor_104 (by rfl) (Nat.le_of_ble_eq_true rfl) (Nat.le_of_ble_eq_true rfl) (by show ((_, _) : Int32 × va_W) = _; unfold sp_X12_ruleFor; try rfl)
def sp_X12_isAsked (g : GG) (l0 : Int32) (d0 : Int32) (k0 : Int32) : Int32 × va_W := if l0 < 0 then (0, []) else (if 7 < l0 then (0, []) else (if d0 < 0 then (0, []) else (if 999 < d0 then (0, []) else (if k0 < 0 then (0, []) else (if 999 < k0 then (0, []) else (1, []))))))
set_option maxHeartbeats 4000000 in
set_option maxRecDepth 100000 in
theorem c_X12_isAsked (l : Launch) (g : GG) (l0 : Int32) (d0 : Int32) (k0 : Int32) : MI l g yX12_isAsked cX12_isAsked 3 (some .boolean) 2 42 0 0 [] [.int l0, .int d0, .int k0] (fun rr_ ww_ => (rr_, ww_) = sp_X12_isAsked g l0 d0 k0) := by
  refine met_of (fun A => va_Qi _ (bW g A) A) (by decide) (Nat.le_of_ble_eq_true rfl) ?_
  intro p e s m below meth c A ls X hK hP hD hA hZ hS hl
  have hx := X.1
  have hb := X.2.1
  have hml := X.2.2.1
  have hown := X.2.2.2.1
  have hts := X.2.2.2.2.1
  have hnm := X.2.2.2.2.2.2.2
  have hl : lv_has ls 3 [(0, .int l0), (1, .int d0), (2, .int k0)] := hl
  refine lv_iload_n hx hb dX12_isAsked_0 rfl (lv_at hl 0 rfl) ?_
  refine lv_iconst (v := 0) hx hb dX12_isAsked_1 (by decide) ?_
  refine lv_bipush (v := 7) hx hb dX12_isAsked_2 (by decide) ?_
  refine kSi (As := [.int l0, .int 0, .int 7]) (rest := []) (wr := []) X (c_X12_in l g l0 0 7) ok_X12_in q_1706 q_1705 rfl hK hP hD hS hA hZ hl.1 [] [] rfl rfl rfl rfl rfl rfl (Nat.le_of_ble_eq_true rfl) ⟨Nat.le_of_ble_eq_true rfl, Nat.le_of_ble_eq_true rfl⟩ dX12_isAsked_4 ⟨Nat.le_of_ble_eq_true rfl, Nat.le_of_ble_eq_true rfl⟩ (fun r_1 w1 H locs hw_2 hP hD hS => ?_)
  rw [sp_X12_in] at hw_2
  rcases Classical.em (l0 < 0) with c_3 | c_3
  ·
    rw [if_pos c_3] at hw_2
    obtain ⟨e1, e2⟩ := Prod.mk.inj hw_2
    subst e1; subst e2
    have hP : va_P g.1 classes [] H := hP
    have hD : va_D A [] := hD
    refine lv_if_eq (tgt := 28) hx hb dX12_isAsked_7 (by decide) (fun _ => ?_) (fun c_4 => absurd (by decide) c_4)
    refine lv_iconst (v := 0) hx hb dX12_isAsked_28 (by decide) ?_
    exact rI X hK hP hD hS dX12_isAsked_29 (by rfl) (Nat.le_of_ble_eq_true rfl) (Nat.le_of_ble_eq_true rfl) (by show ((_, _) : Int32 × va_W) = _; unfold sp_X12_isAsked; rw [if_pos c_3]; try rfl)
  ·
    rw [if_neg c_3] at hw_2
    rcases Classical.em (7 < l0) with c_5 | c_5
    ·
      rw [if_pos c_5] at hw_2
      obtain ⟨e1, e2⟩ := Prod.mk.inj hw_2
      subst e1; subst e2
      have hP : va_P g.1 classes [] H := hP
      have hD : va_D A [] := hD
      refine lv_if_eq (tgt := 28) hx hb dX12_isAsked_7 (by decide) (fun _ => ?_) (fun c_6 => absurd (by decide) c_6)
      refine lv_iconst (v := 0) hx hb dX12_isAsked_28 (by decide) ?_
      exact rI X hK hP hD hS dX12_isAsked_29 (by rfl) (Nat.le_of_ble_eq_true rfl) (Nat.le_of_ble_eq_true rfl) (by show ((_, _) : Int32 × va_W) = _; unfold sp_X12_isAsked; rw [if_neg c_3, if_pos c_5]; try rfl)
    ·
      rw [if_neg c_5] at hw_2
      obtain ⟨e1, e2⟩ := Prod.mk.inj hw_2
      subst e1; subst e2
      have hP : va_P g.1 classes [] H := hP
      have hD : va_D A [] := hD
      refine lv_if_eq (tgt := 28) hx hb dX12_isAsked_7 (by decide) (fun c_7 => absurd c_7 (by decide)) (fun _ => ?_)
      refine lv_iload_n hx hb dX12_isAsked_10 rfl (lv_at hl 1 rfl) ?_
      refine kSi (As := [.int d0]) (rest := []) (wr := []) X (c_X12_isDay l g d0) ok_X12_isDay q_1763 q_1762 rfl hK hP hD hS hA hZ hl.1 [] [] rfl rfl rfl rfl rfl rfl (Nat.le_of_ble_eq_true rfl) ⟨Nat.le_of_ble_eq_true rfl, Nat.le_of_ble_eq_true rfl⟩ dX12_isAsked_11 ⟨Nat.le_of_ble_eq_true rfl, Nat.le_of_ble_eq_true rfl⟩ (fun r_8 w1 H locs hw_9 hP hD hS => ?_)
      rw [sp_X12_isDay] at hw_9
      rcases Classical.em (d0 < 0) with c_10 | c_10
      ·
        rw [if_pos c_10] at hw_9
        obtain ⟨e1, e2⟩ := Prod.mk.inj hw_9
        subst e1; subst e2
        have hP : va_P g.1 classes [] H := hP
        have hD : va_D A [] := hD
        refine lv_if_eq (tgt := 28) hx hb dX12_isAsked_14 (by decide) (fun _ => ?_) (fun c_11 => absurd (by decide) c_11)
        refine lv_iconst (v := 0) hx hb dX12_isAsked_28 (by decide) ?_
        exact rI X hK hP hD hS dX12_isAsked_29 (by rfl) (Nat.le_of_ble_eq_true rfl) (Nat.le_of_ble_eq_true rfl) (by show ((_, _) : Int32 × va_W) = _; unfold sp_X12_isAsked; rw [if_neg c_3, if_neg c_5, if_pos c_10]; try rfl)
      ·
        rw [if_neg c_10] at hw_9
        rcases Classical.em (999 < d0) with c_12 | c_12
        ·
          rw [if_pos c_12] at hw_9
          obtain ⟨e1, e2⟩ := Prod.mk.inj hw_9
          subst e1; subst e2
          have hP : va_P g.1 classes [] H := hP
          have hD : va_D A [] := hD
          refine lv_if_eq (tgt := 28) hx hb dX12_isAsked_14 (by decide) (fun _ => ?_) (fun c_13 => absurd (by decide) c_13)
          refine lv_iconst (v := 0) hx hb dX12_isAsked_28 (by decide) ?_
          exact rI X hK hP hD hS dX12_isAsked_29 (by rfl) (Nat.le_of_ble_eq_true rfl) (Nat.le_of_ble_eq_true rfl) (by show ((_, _) : Int32 × va_W) = _; unfold sp_X12_isAsked; rw [if_neg c_3, if_neg c_5, if_neg c_10, if_pos c_12]; try rfl)
        ·
          rw [if_neg c_12] at hw_9
          obtain ⟨e1, e2⟩ := Prod.mk.inj hw_9
          subst e1; subst e2
          have hP : va_P g.1 classes [] H := hP
          have hD : va_D A [] := hD
          refine lv_if_eq (tgt := 28) hx hb dX12_isAsked_14 (by decide) (fun c_14 => absurd c_14 (by decide)) (fun _ => ?_)
          refine lv_iload_n hx hb dX12_isAsked_17 rfl (lv_at hl 2 rfl) ?_
          refine kSi (As := [.int k0]) (rest := []) (wr := []) X (c_X12_isDay l g k0) ok_X12_isDay q_1763 q_1762 rfl hK hP hD hS hA hZ hl.1 [] [] rfl rfl rfl rfl rfl rfl (Nat.le_of_ble_eq_true rfl) ⟨Nat.le_of_ble_eq_true rfl, Nat.le_of_ble_eq_true rfl⟩ dX12_isAsked_18 ⟨Nat.le_of_ble_eq_true rfl, Nat.le_of_ble_eq_true rfl⟩ (fun r_15 w1 H locs hw_16 hP hD hS => ?_)
          rw [sp_X12_isDay] at hw_16
          rcases Classical.em (k0 < 0) with c_17 | c_17
          ·
            rw [if_pos c_17] at hw_16
            obtain ⟨e1, e2⟩ := Prod.mk.inj hw_16
            subst e1; subst e2
            have hP : va_P g.1 classes [] H := hP
            have hD : va_D A [] := hD
            refine lv_if_eq (tgt := 28) hx hb dX12_isAsked_21 (by decide) (fun _ => ?_) (fun c_18 => absurd (by decide) c_18)
            refine lv_iconst (v := 0) hx hb dX12_isAsked_28 (by decide) ?_
            exact rI X hK hP hD hS dX12_isAsked_29 (by rfl) (Nat.le_of_ble_eq_true rfl) (Nat.le_of_ble_eq_true rfl) (by show ((_, _) : Int32 × va_W) = _; unfold sp_X12_isAsked; rw [if_neg c_3, if_neg c_5, if_neg c_10, if_neg c_12, if_pos c_17]; try rfl)
          ·
            rw [if_neg c_17] at hw_16
            rcases Classical.em (999 < k0) with c_19 | c_19
            ·
              rw [if_pos c_19] at hw_16
              obtain ⟨e1, e2⟩ := Prod.mk.inj hw_16
              subst e1; subst e2
              have hP : va_P g.1 classes [] H := hP
              have hD : va_D A [] := hD
              refine lv_if_eq (tgt := 28) hx hb dX12_isAsked_21 (by decide) (fun _ => ?_) (fun c_20 => absurd (by decide) c_20)
              refine lv_iconst (v := 0) hx hb dX12_isAsked_28 (by decide) ?_
              exact rI X hK hP hD hS dX12_isAsked_29 (by rfl) (Nat.le_of_ble_eq_true rfl) (Nat.le_of_ble_eq_true rfl) (by show ((_, _) : Int32 × va_W) = _; unfold sp_X12_isAsked; rw [if_neg c_3, if_neg c_5, if_neg c_10, if_neg c_12, if_neg c_17, if_pos c_19]; try rfl)
            ·
              rw [if_neg c_19] at hw_16
              obtain ⟨e1, e2⟩ := Prod.mk.inj hw_16
              subst e1; subst e2
              have hP : va_P g.1 classes [] H := hP
              have hD : va_D A [] := hD
              refine lv_if_eq (tgt := 28) hx hb dX12_isAsked_21 (by decide) (fun c_21 => absurd c_21 (by decide)) (fun _ => ?_)
              refine lv_iconst (v := 1) hx hb dX12_isAsked_24 (by decide) ?_
              refine lv_goto (tgt := 29) hx hb dX12_isAsked_25 (by decide) ?_
              exact rI X hK hP hD hS dX12_isAsked_29 (by rfl) (Nat.le_of_ble_eq_true rfl) (Nat.le_of_ble_eq_true rfl) (by show ((_, _) : Int32 × va_W) = _; unfold sp_X12_isAsked; rw [if_neg c_3, if_neg c_5, if_neg c_10, if_neg c_12, if_neg c_17, if_neg c_19]; try rfl)
def sp_X12_askedLine (g : GG) (m0 : Nat) (c0 : Int32) (m0a1 : Nat) (m0a5 : Nat) (m0a6 : Nat) (m0a7 : Nat) (m0a8 : Nat) (m0a9 : Nat) (m0a11 : Nat) (m0a12 : Nat) (m0a13 : Nat) (m0a14 : Nat) (m0a15 : Nat) (m0a16 : Nat) (m0a18 : Nat) (m0a19 : Nat) (m0a20 : Nat) (m0a21 : Nat) (m0a22 : Nat) (m0a24 : Nat) (m0a25 : Nat) (m0a26 : Nat) (m0a28 : Nat) (m0a29 : Nat) (m0a30 : Nat) (m0a31 : Nat) (m0a33 : Nat) (m0a34 : Nat) (m0a35 : Nat) (m0a36 : Nat) (m0a37 : Nat) (m0a38 : Nat) (m0a39 : Nat) (m0a40 : Nat) (m0a41 : Nat) (m0a42 : Nat) (m0a43 : Nat) (m0a44 : Nat) (m0a45 : Nat) (m0a46 : Nat) (m0a47 : Nat) (m0a49 : Nat) (m0a50 : Nat) (m0a51 : Nat) (m0a53 : Nat) (m0a54 : Nat) (m0a55 : Nat) (m0a56 : Nat) (m0a57 : Nat) (m0a58 : Nat) (m0a59 : Nat) (m0a60 : Nat) (m0a61 : Nat) (m0a62 : Nat) (m0a63 : Nat) (m0a67 : Nat) (m0a68 : Nat) (m0a69 : Nat) (m0a70 : Nat) (m0a71 : Nat) (m0a72 : Nat) (m0a73 : Nat) (m0a74 : Nat) (m0a75 : Nat) : Int32 × va_W := if c0 < 0 then ((-1), [(m0, .inr (12, [.int 0, .ref m0a1, .int 0, .long 0, .int 0, .ref m0a5, .ref m0a6, .ref m0a7, .ref m0a8, .ref m0a9, .int 0, .ref m0a11, .ref m0a12, .ref m0a13, .ref m0a14, .ref m0a15, .ref m0a16, .int 0, .ref m0a18, .ref m0a19, .ref m0a20, .ref m0a21, .ref m0a22, .int 0, .ref m0a24, .ref m0a25, .ref m0a26, .int 0, .ref m0a28, .ref m0a29, .ref m0a30, .ref m0a31, .int 0, .ref m0a33, .ref m0a34, .ref m0a35, .ref m0a36, .ref m0a37, .ref m0a38, .ref m0a39, .ref m0a40, .ref m0a41, .ref m0a42, .ref m0a43, .ref m0a44, .ref m0a45, .ref m0a46, .ref m0a47, .int 0, .ref m0a49, .ref m0a50, .ref m0a51, .int 0, .ref m0a53, .ref m0a54, .ref m0a55, .ref m0a56, .ref m0a57, .ref m0a58, .ref m0a59, .ref m0a60, .ref m0a61, .ref m0a62, .ref m0a63, .long 0, .int 0, .int (-9), .ref m0a67, .ref m0a68, .ref m0a69, .ref m0a70, .ref m0a71, .ref m0a72, .ref m0a73, .ref m0a74, .ref m0a75, .long 0]))]) else ((-1), [(m0, .inr (12, [.int 0, .ref m0a1, .int 0, .long 0, .int 0, .ref m0a5, .ref m0a6, .ref m0a7, .ref m0a8, .ref m0a9, .int 0, .ref m0a11, .ref m0a12, .ref m0a13, .ref m0a14, .ref m0a15, .ref m0a16, .int 0, .ref m0a18, .ref m0a19, .ref m0a20, .ref m0a21, .ref m0a22, .int 0, .ref m0a24, .ref m0a25, .ref m0a26, .int 0, .ref m0a28, .ref m0a29, .ref m0a30, .ref m0a31, .int 0, .ref m0a33, .ref m0a34, .ref m0a35, .ref m0a36, .ref m0a37, .ref m0a38, .ref m0a39, .ref m0a40, .ref m0a41, .ref m0a42, .ref m0a43, .ref m0a44, .ref m0a45, .ref m0a46, .ref m0a47, .int 0, .ref m0a49, .ref m0a50, .ref m0a51, .int 0, .ref m0a53, .ref m0a54, .ref m0a55, .ref m0a56, .ref m0a57, .ref m0a58, .ref m0a59, .ref m0a60, .ref m0a61, .ref m0a62, .ref m0a63, .long 0, .int 0, .int (-9), .ref m0a67, .ref m0a68, .ref m0a69, .ref m0a70, .ref m0a71, .ref m0a72, .ref m0a73, .ref m0a74, .ref m0a75, .long 0]))])
set_option maxHeartbeats 4000000 in
set_option maxRecDepth 100000 in
theorem c_X12_askedLine (l : Launch) (g : GG) (m0 : Nat) (c0 : Int32) (m0a1 : Nat) (m0a5 : Nat) (m0a6 : Nat) (m0a7 : Nat) (m0a8 : Nat) (m0a9 : Nat) (m0a11 : Nat) (m0a12 : Nat) (m0a13 : Nat) (m0a14 : Nat) (m0a15 : Nat) (m0a16 : Nat) (m0a18 : Nat) (m0a19 : Nat) (m0a20 : Nat) (m0a21 : Nat) (m0a22 : Nat) (m0a24 : Nat) (m0a25 : Nat) (m0a26 : Nat) (m0a28 : Nat) (m0a29 : Nat) (m0a30 : Nat) (m0a31 : Nat) (m0a33 : Nat) (m0a34 : Nat) (m0a35 : Nat) (m0a36 : Nat) (m0a37 : Nat) (m0a38 : Nat) (m0a39 : Nat) (m0a40 : Nat) (m0a41 : Nat) (m0a42 : Nat) (m0a43 : Nat) (m0a44 : Nat) (m0a45 : Nat) (m0a46 : Nat) (m0a47 : Nat) (m0a49 : Nat) (m0a50 : Nat) (m0a51 : Nat) (m0a53 : Nat) (m0a54 : Nat) (m0a55 : Nat) (m0a56 : Nat) (m0a57 : Nat) (m0a58 : Nat) (m0a59 : Nat) (m0a60 : Nat) (m0a61 : Nat) (m0a62 : Nat) (m0a63 : Nat) (m0a67 : Nat) (m0a68 : Nat) (m0a69 : Nat) (m0a70 : Nat) (m0a71 : Nat) (m0a72 : Nat) (m0a73 : Nat) (m0a74 : Nat) (m0a75 : Nat) : MI l g yX12_askedLine cX12_askedLine 2 (some .int) 2 43 0 0 [(m0, .inr (12, [.int 0, .ref m0a1, .int 0, .long 0, .int 0, .ref m0a5, .ref m0a6, .ref m0a7, .ref m0a8, .ref m0a9, .int 0, .ref m0a11, .ref m0a12, .ref m0a13, .ref m0a14, .ref m0a15, .ref m0a16, .int 0, .ref m0a18, .ref m0a19, .ref m0a20, .ref m0a21, .ref m0a22, .int 0, .ref m0a24, .ref m0a25, .ref m0a26, .int 0, .ref m0a28, .ref m0a29, .ref m0a30, .ref m0a31, .int 0, .ref m0a33, .ref m0a34, .ref m0a35, .ref m0a36, .ref m0a37, .ref m0a38, .ref m0a39, .ref m0a40, .ref m0a41, .ref m0a42, .ref m0a43, .ref m0a44, .ref m0a45, .ref m0a46, .ref m0a47, .int 0, .ref m0a49, .ref m0a50, .ref m0a51, .int 0, .ref m0a53, .ref m0a54, .ref m0a55, .ref m0a56, .ref m0a57, .ref m0a58, .ref m0a59, .ref m0a60, .ref m0a61, .ref m0a62, .ref m0a63, .long 0, .int 0, .int (-9), .ref m0a67, .ref m0a68, .ref m0a69, .ref m0a70, .ref m0a71, .ref m0a72, .ref m0a73, .ref m0a74, .ref m0a75, .long 0]))] [.ref m0, .int c0] (fun rr_ ww_ => (rr_, ww_) = sp_X12_askedLine g m0 c0 m0a1 m0a5 m0a6 m0a7 m0a8 m0a9 m0a11 m0a12 m0a13 m0a14 m0a15 m0a16 m0a18 m0a19 m0a20 m0a21 m0a22 m0a24 m0a25 m0a26 m0a28 m0a29 m0a30 m0a31 m0a33 m0a34 m0a35 m0a36 m0a37 m0a38 m0a39 m0a40 m0a41 m0a42 m0a43 m0a44 m0a45 m0a46 m0a47 m0a49 m0a50 m0a51 m0a53 m0a54 m0a55 m0a56 m0a57 m0a58 m0a59 m0a60 m0a61 m0a62 m0a63 m0a67 m0a68 m0a69 m0a70 m0a71 m0a72 m0a73 m0a74 m0a75) := by
  refine met_of (fun A => va_Qi _ (bW g A) A) (by decide) (Nat.le_of_ble_eq_true rfl) ?_
  intro p e s m below meth c A ls X hK hP hD hA hZ hS hl
  have hx := X.1
  have hb := X.2.1
  have hml := X.2.2.1
  have hown := X.2.2.2.1
  have hts := X.2.2.2.2.1
  have hnm := X.2.2.2.2.2.2.2
  have hl : lv_has ls 2 [(0, .ref m0), (1, .int c0)] := hl
  refine lv_aload_n hx hb dX12_askedLine_0 rfl (lv_at hl 0 rfl) ?_
  refine lv_iload_n hx hb dX12_askedLine_1 rfl (lv_at hl 1 rfl) ?_
  refine kVi (As := [.int c0]) (rest := []) (wr := []) X (c_X12_isMark l g m0 c0 m0a1 m0a5 m0a6 m0a7 m0a8 m0a9 m0a11 m0a12 m0a13 m0a14 m0a15 m0a16 m0a18 m0a19 m0a20 m0a21 m0a22 m0a24 m0a25 m0a26 m0a28 m0a29 m0a30 m0a31 m0a33 m0a34 m0a35 m0a36 m0a37 m0a38 m0a39 m0a40 m0a41 m0a42 m0a43 m0a44 m0a45 m0a46 m0a47 m0a49 m0a50 m0a51 m0a53 m0a54 m0a55 m0a56 m0a57 m0a58 m0a59 m0a60 m0a61 m0a62 m0a63 m0a67 m0a68 m0a69 m0a70 m0a71 m0a72 m0a73 m0a74 m0a75) ok_X12_isMark okv_X12_isMark q_1903 rfl hK hP hD hS hA hZ hl.1 [0] [] rfl rfl rfl rfl rfl 0 12 rfl rfl rfl (Nat.le_of_ble_eq_true rfl) ⟨Nat.le_of_ble_eq_true rfl, Nat.le_of_ble_eq_true rfl⟩ dX12_askedLine_2 ⟨Nat.le_of_ble_eq_true rfl, Nat.le_of_ble_eq_true rfl⟩ (fun r_1 w1 H locs hw_2 hP hD hS => ?_)
  rw [sp_X12_isMark] at hw_2
  rcases Classical.em (c0 < 0) with c_3 | c_3
  ·
    rw [if_pos c_3] at hw_2
    obtain ⟨e1, e2⟩ := Prod.mk.inj hw_2
    subst e1; subst e2
    have hP : va_P g.1 classes [(m0, .inr (12, [.int 0, .ref m0a1, .int 0, .long 0, .int 0, .ref m0a5, .ref m0a6, .ref m0a7, .ref m0a8, .ref m0a9, .int 0, .ref m0a11, .ref m0a12, .ref m0a13, .ref m0a14, .ref m0a15, .ref m0a16, .int 0, .ref m0a18, .ref m0a19, .ref m0a20, .ref m0a21, .ref m0a22, .int 0, .ref m0a24, .ref m0a25, .ref m0a26, .int 0, .ref m0a28, .ref m0a29, .ref m0a30, .ref m0a31, .int 0, .ref m0a33, .ref m0a34, .ref m0a35, .ref m0a36, .ref m0a37, .ref m0a38, .ref m0a39, .ref m0a40, .ref m0a41, .ref m0a42, .ref m0a43, .ref m0a44, .ref m0a45, .ref m0a46, .ref m0a47, .int 0, .ref m0a49, .ref m0a50, .ref m0a51, .int 0, .ref m0a53, .ref m0a54, .ref m0a55, .ref m0a56, .ref m0a57, .ref m0a58, .ref m0a59, .ref m0a60, .ref m0a61, .ref m0a62, .ref m0a63, .long 0, .int 0, .int (-9), .ref m0a67, .ref m0a68, .ref m0a69, .ref m0a70, .ref m0a71, .ref m0a72, .ref m0a73, .ref m0a74, .ref m0a75, .long 0]))] H := hP
    have hD : va_D A [(m0, .inr (12, [.int 0, .ref m0a1, .int 0, .long 0, .int 0, .ref m0a5, .ref m0a6, .ref m0a7, .ref m0a8, .ref m0a9, .int 0, .ref m0a11, .ref m0a12, .ref m0a13, .ref m0a14, .ref m0a15, .ref m0a16, .int 0, .ref m0a18, .ref m0a19, .ref m0a20, .ref m0a21, .ref m0a22, .int 0, .ref m0a24, .ref m0a25, .ref m0a26, .int 0, .ref m0a28, .ref m0a29, .ref m0a30, .ref m0a31, .int 0, .ref m0a33, .ref m0a34, .ref m0a35, .ref m0a36, .ref m0a37, .ref m0a38, .ref m0a39, .ref m0a40, .ref m0a41, .ref m0a42, .ref m0a43, .ref m0a44, .ref m0a45, .ref m0a46, .ref m0a47, .int 0, .ref m0a49, .ref m0a50, .ref m0a51, .int 0, .ref m0a53, .ref m0a54, .ref m0a55, .ref m0a56, .ref m0a57, .ref m0a58, .ref m0a59, .ref m0a60, .ref m0a61, .ref m0a62, .ref m0a63, .long 0, .int 0, .int (-9), .ref m0a67, .ref m0a68, .ref m0a69, .ref m0a70, .ref m0a71, .ref m0a72, .ref m0a73, .ref m0a74, .ref m0a75, .long 0]))] := hD
    refine lv_if_ne (tgt := 12) hx hb dX12_askedLine_5 (by decide) (fun c_4 => absurd (by decide) c_4) (fun _ => ?_)
    refine lv_iconst (v := (-1)) hx hb dX12_askedLine_8 (by decide) ?_
    refine lv_goto (tgt := 29) hx hb dX12_askedLine_9 (by decide) ?_
    exact rI X hK hP hD hS dX12_askedLine_29 (by rfl) (Nat.le_of_ble_eq_true rfl) (Nat.le_of_ble_eq_true rfl) (by show ((_, _) : Int32 × va_W) = _; unfold sp_X12_askedLine; rw [if_pos c_3]; try rfl)
  ·
    rw [if_neg c_3] at hw_2
    obtain ⟨e1, e2⟩ := Prod.mk.inj hw_2
    subst e1; subst e2
    have hP : va_P g.1 classes [(m0, .inr (12, [.int 0, .ref m0a1, .int 0, .long 0, .int 0, .ref m0a5, .ref m0a6, .ref m0a7, .ref m0a8, .ref m0a9, .int 0, .ref m0a11, .ref m0a12, .ref m0a13, .ref m0a14, .ref m0a15, .ref m0a16, .int 0, .ref m0a18, .ref m0a19, .ref m0a20, .ref m0a21, .ref m0a22, .int 0, .ref m0a24, .ref m0a25, .ref m0a26, .int 0, .ref m0a28, .ref m0a29, .ref m0a30, .ref m0a31, .int 0, .ref m0a33, .ref m0a34, .ref m0a35, .ref m0a36, .ref m0a37, .ref m0a38, .ref m0a39, .ref m0a40, .ref m0a41, .ref m0a42, .ref m0a43, .ref m0a44, .ref m0a45, .ref m0a46, .ref m0a47, .int 0, .ref m0a49, .ref m0a50, .ref m0a51, .int 0, .ref m0a53, .ref m0a54, .ref m0a55, .ref m0a56, .ref m0a57, .ref m0a58, .ref m0a59, .ref m0a60, .ref m0a61, .ref m0a62, .ref m0a63, .long 0, .int 0, .int (-9), .ref m0a67, .ref m0a68, .ref m0a69, .ref m0a70, .ref m0a71, .ref m0a72, .ref m0a73, .ref m0a74, .ref m0a75, .long 0]))] H := hP
    have hD : va_D A [(m0, .inr (12, [.int 0, .ref m0a1, .int 0, .long 0, .int 0, .ref m0a5, .ref m0a6, .ref m0a7, .ref m0a8, .ref m0a9, .int 0, .ref m0a11, .ref m0a12, .ref m0a13, .ref m0a14, .ref m0a15, .ref m0a16, .int 0, .ref m0a18, .ref m0a19, .ref m0a20, .ref m0a21, .ref m0a22, .int 0, .ref m0a24, .ref m0a25, .ref m0a26, .int 0, .ref m0a28, .ref m0a29, .ref m0a30, .ref m0a31, .int 0, .ref m0a33, .ref m0a34, .ref m0a35, .ref m0a36, .ref m0a37, .ref m0a38, .ref m0a39, .ref m0a40, .ref m0a41, .ref m0a42, .ref m0a43, .ref m0a44, .ref m0a45, .ref m0a46, .ref m0a47, .int 0, .ref m0a49, .ref m0a50, .ref m0a51, .int 0, .ref m0a53, .ref m0a54, .ref m0a55, .ref m0a56, .ref m0a57, .ref m0a58, .ref m0a59, .ref m0a60, .ref m0a61, .ref m0a62, .ref m0a63, .long 0, .int 0, .int (-9), .ref m0a67, .ref m0a68, .ref m0a69, .ref m0a70, .ref m0a71, .ref m0a72, .ref m0a73, .ref m0a74, .ref m0a75, .long 0]))] := hD
    refine lv_if_ne (tgt := 12) hx hb dX12_askedLine_5 (by decide) (fun c_5 => absurd (by decide) c_5) (fun _ => ?_)
    refine lv_iconst (v := (-1)) hx hb dX12_askedLine_8 (by decide) ?_
    refine lv_goto (tgt := 29) hx hb dX12_askedLine_9 (by decide) ?_
    exact rI X hK hP hD hS dX12_askedLine_29 (by rfl) (Nat.le_of_ble_eq_true rfl) (Nat.le_of_ble_eq_true rfl) (by show ((_, _) : Int32 × va_W) = _; unfold sp_X12_askedLine; rw [if_neg c_3]; try rfl)
def sp_X12_enter (g : GG) (m0 : Nat) (k0 : Int32) (o0 : Int32) (m0a1 : Nat) (m0a5 : Nat) (m0a6 : Nat) (m0a7 : Nat) (m0a8 : Nat) (m0a9 : Nat) (m0a11 : Nat) (m0a12 : Nat) (m0a13 : Nat) (m0a14 : Nat) (m0a15 : Nat) (m0a16 : Nat) (m0a18 : Nat) (m0a19 : Nat) (m0a20 : Nat) (m0a21 : Nat) (m0a22 : Nat) (m0a24 : Nat) (m0a25 : Nat) (m0a26 : Nat) (m0a28 : Nat) (m0a29 : Nat) (m0a30 : Nat) (m0a31 : Nat) (m0a33 : Nat) (m0a34 : Nat) (m0a35 : Nat) (m0a36 : Nat) (m0a37 : Nat) (m0a38 : Nat) (m0a39 : Nat) (m0a40 : Nat) (m0a41 : Nat) (m0a42 : Nat) (m0a43 : Nat) (m0a44 : Nat) (m0a45 : Nat) (m0a46 : Nat) (m0a47 : Nat) (m0a49 : Nat) (m0a50 : Nat) (m0a51 : Nat) (m0a53 : Nat) (m0a54 : Nat) (m0a55 : Nat) (m0a56 : Nat) (m0a57 : Nat) (m0a58 : Nat) (m0a59 : Nat) (m0a60 : Nat) (m0a61 : Nat) (m0a62 : Nat) (m0a63 : Nat) (m0a67 : Nat) (m0a68 : Nat) (m0a69 : Nat) (m0a70 : Nat) (m0a71 : Nat) (m0a72 : Nat) (m0a73 : Nat) (m0a74 : Nat) (m0a75 : Nat) : Int32 × va_W := (0, [(m0, .inr (12, [.int 0, .ref m0a1, .int 0, .long 0, .int 0, .ref m0a5, .ref m0a6, .ref m0a7, .ref m0a8, .ref m0a9, .int 0, .ref m0a11, .ref m0a12, .ref m0a13, .ref m0a14, .ref m0a15, .ref m0a16, .int 0, .ref m0a18, .ref m0a19, .ref m0a20, .ref m0a21, .ref m0a22, .int 0, .ref m0a24, .ref m0a25, .ref m0a26, .int 0, .ref m0a28, .ref m0a29, .ref m0a30, .ref m0a31, .int 1, .ref m0a33, .ref m0a34, .ref m0a35, .ref m0a36, .ref m0a37, .ref m0a38, .ref m0a39, .ref m0a40, .ref m0a41, .ref m0a42, .ref m0a43, .ref m0a44, .ref m0a45, .ref m0a46, .ref m0a47, .int 0, .ref m0a49, .ref m0a50, .ref m0a51, .int 0, .ref m0a53, .ref m0a54, .ref m0a55, .ref m0a56, .ref m0a57, .ref m0a58, .ref m0a59, .ref m0a60, .ref m0a61, .ref m0a62, .ref m0a63, .long 0, .int 0, .int (-9), .ref m0a67, .ref m0a68, .ref m0a69, .ref m0a70, .ref m0a71, .ref m0a72, .ref m0a73, .ref m0a74, .ref m0a75, .long 0])), (m0a33, .inl (cI g, 24, .inl (upd (fun _ => 0) 0 k0))), (m0a34, .inl (cI g, 24, .inl (upd (fun _ => 0) 0 0))), (m0a35, .inl (cI g, 24, .inl (upd (fun _ => 0) 0 o0))), (m0a37, .inl (cI g, 24, .inl (upd (fun _ => 0) 0 (-9)))), (m0a38, .inl (cI g, 24, .inl (upd (fun _ => 0) 0 0)))])
set_option maxHeartbeats 4000000 in
set_option maxRecDepth 100000 in
theorem c_X12_enter (l : Launch) (g : GG) (m0 : Nat) (k0 : Int32) (o0 : Int32) (m0a1 : Nat) (m0a5 : Nat) (m0a6 : Nat) (m0a7 : Nat) (m0a8 : Nat) (m0a9 : Nat) (m0a11 : Nat) (m0a12 : Nat) (m0a13 : Nat) (m0a14 : Nat) (m0a15 : Nat) (m0a16 : Nat) (m0a18 : Nat) (m0a19 : Nat) (m0a20 : Nat) (m0a21 : Nat) (m0a22 : Nat) (m0a24 : Nat) (m0a25 : Nat) (m0a26 : Nat) (m0a28 : Nat) (m0a29 : Nat) (m0a30 : Nat) (m0a31 : Nat) (m0a33 : Nat) (m0a34 : Nat) (m0a35 : Nat) (m0a36 : Nat) (m0a37 : Nat) (m0a38 : Nat) (m0a39 : Nat) (m0a40 : Nat) (m0a41 : Nat) (m0a42 : Nat) (m0a43 : Nat) (m0a44 : Nat) (m0a45 : Nat) (m0a46 : Nat) (m0a47 : Nat) (m0a49 : Nat) (m0a50 : Nat) (m0a51 : Nat) (m0a53 : Nat) (m0a54 : Nat) (m0a55 : Nat) (m0a56 : Nat) (m0a57 : Nat) (m0a58 : Nat) (m0a59 : Nat) (m0a60 : Nat) (m0a61 : Nat) (m0a62 : Nat) (m0a63 : Nat) (m0a67 : Nat) (m0a68 : Nat) (m0a69 : Nat) (m0a70 : Nat) (m0a71 : Nat) (m0a72 : Nat) (m0a73 : Nat) (m0a74 : Nat) (m0a75 : Nat) : MI l g yX12_enter cX12_enter 3 (some .int) 0 0 0 0 [(m0, .inr (12, [.int 0, .ref m0a1, .int 0, .long 0, .int 0, .ref m0a5, .ref m0a6, .ref m0a7, .ref m0a8, .ref m0a9, .int 0, .ref m0a11, .ref m0a12, .ref m0a13, .ref m0a14, .ref m0a15, .ref m0a16, .int 0, .ref m0a18, .ref m0a19, .ref m0a20, .ref m0a21, .ref m0a22, .int 0, .ref m0a24, .ref m0a25, .ref m0a26, .int 0, .ref m0a28, .ref m0a29, .ref m0a30, .ref m0a31, .int 0, .ref m0a33, .ref m0a34, .ref m0a35, .ref m0a36, .ref m0a37, .ref m0a38, .ref m0a39, .ref m0a40, .ref m0a41, .ref m0a42, .ref m0a43, .ref m0a44, .ref m0a45, .ref m0a46, .ref m0a47, .int 0, .ref m0a49, .ref m0a50, .ref m0a51, .int 0, .ref m0a53, .ref m0a54, .ref m0a55, .ref m0a56, .ref m0a57, .ref m0a58, .ref m0a59, .ref m0a60, .ref m0a61, .ref m0a62, .ref m0a63, .long 0, .int 0, .int (-9), .ref m0a67, .ref m0a68, .ref m0a69, .ref m0a70, .ref m0a71, .ref m0a72, .ref m0a73, .ref m0a74, .ref m0a75, .long 0])), (m0a33, .inl (cI g, 24, .inl (fun _ => 0))), (m0a34, .inl (cI g, 24, .inl (fun _ => 0))), (m0a35, .inl (cI g, 24, .inl (fun _ => 0))), (m0a37, .inl (cI g, 24, .inl (fun _ => 0))), (m0a38, .inl (cI g, 24, .inl (fun _ => 0)))] [.ref m0, .int k0, .int o0] (fun rr_ ww_ => (rr_, ww_) = sp_X12_enter g m0 k0 o0 m0a1 m0a5 m0a6 m0a7 m0a8 m0a9 m0a11 m0a12 m0a13 m0a14 m0a15 m0a16 m0a18 m0a19 m0a20 m0a21 m0a22 m0a24 m0a25 m0a26 m0a28 m0a29 m0a30 m0a31 m0a33 m0a34 m0a35 m0a36 m0a37 m0a38 m0a39 m0a40 m0a41 m0a42 m0a43 m0a44 m0a45 m0a46 m0a47 m0a49 m0a50 m0a51 m0a53 m0a54 m0a55 m0a56 m0a57 m0a58 m0a59 m0a60 m0a61 m0a62 m0a63 m0a67 m0a68 m0a69 m0a70 m0a71 m0a72 m0a73 m0a74 m0a75) := by
  refine met_of (fun A => va_Qi _ (bW g A) A) (by decide) (Nat.le_of_ble_eq_true rfl) ?_
  intro p e s m below meth c A ls X hK hP hD hA hZ hS hl
  have hx := X.1
  have hb := X.2.1
  have hml := X.2.2.1
  have hown := X.2.2.2.1
  have hts := X.2.2.2.2.1
  have hnm := X.2.2.2.2.2.2.2
  have hl : lv_has ls 3 [(0, .ref m0), (1, .int k0), (2, .int o0)] := hl
  refine lv_aload_n hx hb dX12_enter_0 rfl (lv_at hl 0 rfl) ?_
  refine va_get (D := g.1) (ci := 12) (v := .ref m0a33) (C := RX12) (T := TX12) (N := 77) hx hb hts fw_X12 hown hK hP 0 rfl rfl 33 (by decide) (hts _ q_1499) (fun _ h9 => h9) rfl dX12_enter_1 ?_
  refine lv_aload_n hx hb dX12_enter_4 rfl (lv_at hl 0 rfl) ?_
  refine va_get (D := g.1) (ci := 12) (v := .int 0) (C := RX12) (T := TX12) (N := 77) hx hb hts fw_X12 hown hK hP 0 rfl rfl 32 (by decide) (hts _ q_1498) (fun _ h9 => h9) rfl dX12_enter_5 ?_
  refine lv_iload_n hx hb dX12_enter_8 rfl (lv_at hl 1 rfl) ?_
  refine va_iast hx hb hK hP hD hS 1 0 rfl rfl (by unfold vp_in; decide) dX12_enter_9 (fun H locs hP hD hS => ?_)
  have hP : va_P g.1 classes [(m0, .inr (12, [.int 0, .ref m0a1, .int 0, .long 0, .int 0, .ref m0a5, .ref m0a6, .ref m0a7, .ref m0a8, .ref m0a9, .int 0, .ref m0a11, .ref m0a12, .ref m0a13, .ref m0a14, .ref m0a15, .ref m0a16, .int 0, .ref m0a18, .ref m0a19, .ref m0a20, .ref m0a21, .ref m0a22, .int 0, .ref m0a24, .ref m0a25, .ref m0a26, .int 0, .ref m0a28, .ref m0a29, .ref m0a30, .ref m0a31, .int 0, .ref m0a33, .ref m0a34, .ref m0a35, .ref m0a36, .ref m0a37, .ref m0a38, .ref m0a39, .ref m0a40, .ref m0a41, .ref m0a42, .ref m0a43, .ref m0a44, .ref m0a45, .ref m0a46, .ref m0a47, .int 0, .ref m0a49, .ref m0a50, .ref m0a51, .int 0, .ref m0a53, .ref m0a54, .ref m0a55, .ref m0a56, .ref m0a57, .ref m0a58, .ref m0a59, .ref m0a60, .ref m0a61, .ref m0a62, .ref m0a63, .long 0, .int 0, .int (-9), .ref m0a67, .ref m0a68, .ref m0a69, .ref m0a70, .ref m0a71, .ref m0a72, .ref m0a73, .ref m0a74, .ref m0a75, .long 0])), (m0a33, .inl (cI g, 24, .inl (upd (fun _ => 0) 0 k0))), (m0a34, .inl (cI g, 24, .inl (fun _ => 0))), (m0a35, .inl (cI g, 24, .inl (fun _ => 0))), (m0a37, .inl (cI g, 24, .inl (fun _ => 0))), (m0a38, .inl (cI g, 24, .inl (fun _ => 0)))] H := hP
  have hD : va_D A [(m0, .inr (12, [.int 0, .ref m0a1, .int 0, .long 0, .int 0, .ref m0a5, .ref m0a6, .ref m0a7, .ref m0a8, .ref m0a9, .int 0, .ref m0a11, .ref m0a12, .ref m0a13, .ref m0a14, .ref m0a15, .ref m0a16, .int 0, .ref m0a18, .ref m0a19, .ref m0a20, .ref m0a21, .ref m0a22, .int 0, .ref m0a24, .ref m0a25, .ref m0a26, .int 0, .ref m0a28, .ref m0a29, .ref m0a30, .ref m0a31, .int 0, .ref m0a33, .ref m0a34, .ref m0a35, .ref m0a36, .ref m0a37, .ref m0a38, .ref m0a39, .ref m0a40, .ref m0a41, .ref m0a42, .ref m0a43, .ref m0a44, .ref m0a45, .ref m0a46, .ref m0a47, .int 0, .ref m0a49, .ref m0a50, .ref m0a51, .int 0, .ref m0a53, .ref m0a54, .ref m0a55, .ref m0a56, .ref m0a57, .ref m0a58, .ref m0a59, .ref m0a60, .ref m0a61, .ref m0a62, .ref m0a63, .long 0, .int 0, .int (-9), .ref m0a67, .ref m0a68, .ref m0a69, .ref m0a70, .ref m0a71, .ref m0a72, .ref m0a73, .ref m0a74, .ref m0a75, .long 0])), (m0a33, .inl (cI g, 24, .inl (upd (fun _ => 0) 0 k0))), (m0a34, .inl (cI g, 24, .inl (fun _ => 0))), (m0a35, .inl (cI g, 24, .inl (fun _ => 0))), (m0a37, .inl (cI g, 24, .inl (fun _ => 0))), (m0a38, .inl (cI g, 24, .inl (fun _ => 0)))] := hD
  refine lv_aload_n hx hb dX12_enter_10 rfl (lv_at hl 0 rfl) ?_
  refine va_get (D := g.1) (ci := 12) (v := .ref m0a34) (C := RX12) (T := TX12) (N := 77) hx hb hts fw_X12 hown hK hP 0 rfl rfl 34 (by decide) (hts _ q_1500) (fun _ h9 => h9) rfl dX12_enter_11 ?_
  refine lv_aload_n hx hb dX12_enter_14 rfl (lv_at hl 0 rfl) ?_
  refine va_get (D := g.1) (ci := 12) (v := .int 0) (C := RX12) (T := TX12) (N := 77) hx hb hts fw_X12 hown hK hP 0 rfl rfl 32 (by decide) (hts _ q_1498) (fun _ h9 => h9) rfl dX12_enter_15 ?_
  refine lv_aload_n hx hb dX12_enter_18 rfl (lv_at hl 0 rfl) ?_
  refine va_get (D := g.1) (ci := 12) (v := .int 0) (C := RX12) (T := TX12) (N := 77) hx hb hts fw_X12 hown hK hP 0 rfl rfl 4 (by decide) (hts _ q_1470) (fun _ h9 => h9) rfl dX12_enter_19 ?_
  refine va_iast hx hb hK hP hD hS 2 0 rfl rfl (by unfold vp_in; decide) dX12_enter_22 (fun H locs hP hD hS => ?_)
  have hP : va_P g.1 classes [(m0, .inr (12, [.int 0, .ref m0a1, .int 0, .long 0, .int 0, .ref m0a5, .ref m0a6, .ref m0a7, .ref m0a8, .ref m0a9, .int 0, .ref m0a11, .ref m0a12, .ref m0a13, .ref m0a14, .ref m0a15, .ref m0a16, .int 0, .ref m0a18, .ref m0a19, .ref m0a20, .ref m0a21, .ref m0a22, .int 0, .ref m0a24, .ref m0a25, .ref m0a26, .int 0, .ref m0a28, .ref m0a29, .ref m0a30, .ref m0a31, .int 0, .ref m0a33, .ref m0a34, .ref m0a35, .ref m0a36, .ref m0a37, .ref m0a38, .ref m0a39, .ref m0a40, .ref m0a41, .ref m0a42, .ref m0a43, .ref m0a44, .ref m0a45, .ref m0a46, .ref m0a47, .int 0, .ref m0a49, .ref m0a50, .ref m0a51, .int 0, .ref m0a53, .ref m0a54, .ref m0a55, .ref m0a56, .ref m0a57, .ref m0a58, .ref m0a59, .ref m0a60, .ref m0a61, .ref m0a62, .ref m0a63, .long 0, .int 0, .int (-9), .ref m0a67, .ref m0a68, .ref m0a69, .ref m0a70, .ref m0a71, .ref m0a72, .ref m0a73, .ref m0a74, .ref m0a75, .long 0])), (m0a33, .inl (cI g, 24, .inl (upd (fun _ => 0) 0 k0))), (m0a34, .inl (cI g, 24, .inl (upd (fun _ => 0) 0 0))), (m0a35, .inl (cI g, 24, .inl (fun _ => 0))), (m0a37, .inl (cI g, 24, .inl (fun _ => 0))), (m0a38, .inl (cI g, 24, .inl (fun _ => 0)))] H := hP
  have hD : va_D A [(m0, .inr (12, [.int 0, .ref m0a1, .int 0, .long 0, .int 0, .ref m0a5, .ref m0a6, .ref m0a7, .ref m0a8, .ref m0a9, .int 0, .ref m0a11, .ref m0a12, .ref m0a13, .ref m0a14, .ref m0a15, .ref m0a16, .int 0, .ref m0a18, .ref m0a19, .ref m0a20, .ref m0a21, .ref m0a22, .int 0, .ref m0a24, .ref m0a25, .ref m0a26, .int 0, .ref m0a28, .ref m0a29, .ref m0a30, .ref m0a31, .int 0, .ref m0a33, .ref m0a34, .ref m0a35, .ref m0a36, .ref m0a37, .ref m0a38, .ref m0a39, .ref m0a40, .ref m0a41, .ref m0a42, .ref m0a43, .ref m0a44, .ref m0a45, .ref m0a46, .ref m0a47, .int 0, .ref m0a49, .ref m0a50, .ref m0a51, .int 0, .ref m0a53, .ref m0a54, .ref m0a55, .ref m0a56, .ref m0a57, .ref m0a58, .ref m0a59, .ref m0a60, .ref m0a61, .ref m0a62, .ref m0a63, .long 0, .int 0, .int (-9), .ref m0a67, .ref m0a68, .ref m0a69, .ref m0a70, .ref m0a71, .ref m0a72, .ref m0a73, .ref m0a74, .ref m0a75, .long 0])), (m0a33, .inl (cI g, 24, .inl (upd (fun _ => 0) 0 k0))), (m0a34, .inl (cI g, 24, .inl (upd (fun _ => 0) 0 0))), (m0a35, .inl (cI g, 24, .inl (fun _ => 0))), (m0a37, .inl (cI g, 24, .inl (fun _ => 0))), (m0a38, .inl (cI g, 24, .inl (fun _ => 0)))] := hD
  refine lv_aload_n hx hb dX12_enter_23 rfl (lv_at hl 0 rfl) ?_
  refine va_get (D := g.1) (ci := 12) (v := .ref m0a35) (C := RX12) (T := TX12) (N := 77) hx hb hts fw_X12 hown hK hP 0 rfl rfl 35 (by decide) (hts _ q_1501) (fun _ h9 => h9) rfl dX12_enter_24 ?_
  refine lv_aload_n hx hb dX12_enter_27 rfl (lv_at hl 0 rfl) ?_
  refine va_get (D := g.1) (ci := 12) (v := .int 0) (C := RX12) (T := TX12) (N := 77) hx hb hts fw_X12 hown hK hP 0 rfl rfl 32 (by decide) (hts _ q_1498) (fun _ h9 => h9) rfl dX12_enter_28 ?_
  refine lv_iload_n hx hb dX12_enter_31 rfl (lv_at hl 2 rfl) ?_
  refine va_iast hx hb hK hP hD hS 3 0 rfl rfl (by unfold vp_in; decide) dX12_enter_32 (fun H locs hP hD hS => ?_)
  have hP : va_P g.1 classes [(m0, .inr (12, [.int 0, .ref m0a1, .int 0, .long 0, .int 0, .ref m0a5, .ref m0a6, .ref m0a7, .ref m0a8, .ref m0a9, .int 0, .ref m0a11, .ref m0a12, .ref m0a13, .ref m0a14, .ref m0a15, .ref m0a16, .int 0, .ref m0a18, .ref m0a19, .ref m0a20, .ref m0a21, .ref m0a22, .int 0, .ref m0a24, .ref m0a25, .ref m0a26, .int 0, .ref m0a28, .ref m0a29, .ref m0a30, .ref m0a31, .int 0, .ref m0a33, .ref m0a34, .ref m0a35, .ref m0a36, .ref m0a37, .ref m0a38, .ref m0a39, .ref m0a40, .ref m0a41, .ref m0a42, .ref m0a43, .ref m0a44, .ref m0a45, .ref m0a46, .ref m0a47, .int 0, .ref m0a49, .ref m0a50, .ref m0a51, .int 0, .ref m0a53, .ref m0a54, .ref m0a55, .ref m0a56, .ref m0a57, .ref m0a58, .ref m0a59, .ref m0a60, .ref m0a61, .ref m0a62, .ref m0a63, .long 0, .int 0, .int (-9), .ref m0a67, .ref m0a68, .ref m0a69, .ref m0a70, .ref m0a71, .ref m0a72, .ref m0a73, .ref m0a74, .ref m0a75, .long 0])), (m0a33, .inl (cI g, 24, .inl (upd (fun _ => 0) 0 k0))), (m0a34, .inl (cI g, 24, .inl (upd (fun _ => 0) 0 0))), (m0a35, .inl (cI g, 24, .inl (upd (fun _ => 0) 0 o0))), (m0a37, .inl (cI g, 24, .inl (fun _ => 0))), (m0a38, .inl (cI g, 24, .inl (fun _ => 0)))] H := hP
  have hD : va_D A [(m0, .inr (12, [.int 0, .ref m0a1, .int 0, .long 0, .int 0, .ref m0a5, .ref m0a6, .ref m0a7, .ref m0a8, .ref m0a9, .int 0, .ref m0a11, .ref m0a12, .ref m0a13, .ref m0a14, .ref m0a15, .ref m0a16, .int 0, .ref m0a18, .ref m0a19, .ref m0a20, .ref m0a21, .ref m0a22, .int 0, .ref m0a24, .ref m0a25, .ref m0a26, .int 0, .ref m0a28, .ref m0a29, .ref m0a30, .ref m0a31, .int 0, .ref m0a33, .ref m0a34, .ref m0a35, .ref m0a36, .ref m0a37, .ref m0a38, .ref m0a39, .ref m0a40, .ref m0a41, .ref m0a42, .ref m0a43, .ref m0a44, .ref m0a45, .ref m0a46, .ref m0a47, .int 0, .ref m0a49, .ref m0a50, .ref m0a51, .int 0, .ref m0a53, .ref m0a54, .ref m0a55, .ref m0a56, .ref m0a57, .ref m0a58, .ref m0a59, .ref m0a60, .ref m0a61, .ref m0a62, .ref m0a63, .long 0, .int 0, .int (-9), .ref m0a67, .ref m0a68, .ref m0a69, .ref m0a70, .ref m0a71, .ref m0a72, .ref m0a73, .ref m0a74, .ref m0a75, .long 0])), (m0a33, .inl (cI g, 24, .inl (upd (fun _ => 0) 0 k0))), (m0a34, .inl (cI g, 24, .inl (upd (fun _ => 0) 0 0))), (m0a35, .inl (cI g, 24, .inl (upd (fun _ => 0) 0 o0))), (m0a37, .inl (cI g, 24, .inl (fun _ => 0))), (m0a38, .inl (cI g, 24, .inl (fun _ => 0)))] := hD
  refine lv_aload_n hx hb dX12_enter_33 rfl (lv_at hl 0 rfl) ?_
  refine va_get (D := g.1) (ci := 12) (v := .ref m0a37) (C := RX12) (T := TX12) (N := 77) hx hb hts fw_X12 hown hK hP 0 rfl rfl 37 (by decide) (hts _ q_1503) (fun _ h9 => h9) rfl dX12_enter_34 ?_
  refine lv_aload_n hx hb dX12_enter_37 rfl (lv_at hl 0 rfl) ?_
  refine va_get (D := g.1) (ci := 12) (v := .int 0) (C := RX12) (T := TX12) (N := 77) hx hb hts fw_X12 hown hK hP 0 rfl rfl 32 (by decide) (hts _ q_1498) (fun _ h9 => h9) rfl dX12_enter_38 ?_
  refine lv_bipush (v := (-9)) hx hb dX12_enter_41 (by decide) ?_
  refine va_iast hx hb hK hP hD hS 4 0 rfl rfl (by unfold vp_in; decide) dX12_enter_43 (fun H locs hP hD hS => ?_)
  have hP : va_P g.1 classes [(m0, .inr (12, [.int 0, .ref m0a1, .int 0, .long 0, .int 0, .ref m0a5, .ref m0a6, .ref m0a7, .ref m0a8, .ref m0a9, .int 0, .ref m0a11, .ref m0a12, .ref m0a13, .ref m0a14, .ref m0a15, .ref m0a16, .int 0, .ref m0a18, .ref m0a19, .ref m0a20, .ref m0a21, .ref m0a22, .int 0, .ref m0a24, .ref m0a25, .ref m0a26, .int 0, .ref m0a28, .ref m0a29, .ref m0a30, .ref m0a31, .int 0, .ref m0a33, .ref m0a34, .ref m0a35, .ref m0a36, .ref m0a37, .ref m0a38, .ref m0a39, .ref m0a40, .ref m0a41, .ref m0a42, .ref m0a43, .ref m0a44, .ref m0a45, .ref m0a46, .ref m0a47, .int 0, .ref m0a49, .ref m0a50, .ref m0a51, .int 0, .ref m0a53, .ref m0a54, .ref m0a55, .ref m0a56, .ref m0a57, .ref m0a58, .ref m0a59, .ref m0a60, .ref m0a61, .ref m0a62, .ref m0a63, .long 0, .int 0, .int (-9), .ref m0a67, .ref m0a68, .ref m0a69, .ref m0a70, .ref m0a71, .ref m0a72, .ref m0a73, .ref m0a74, .ref m0a75, .long 0])), (m0a33, .inl (cI g, 24, .inl (upd (fun _ => 0) 0 k0))), (m0a34, .inl (cI g, 24, .inl (upd (fun _ => 0) 0 0))), (m0a35, .inl (cI g, 24, .inl (upd (fun _ => 0) 0 o0))), (m0a37, .inl (cI g, 24, .inl (upd (fun _ => 0) 0 (-9)))), (m0a38, .inl (cI g, 24, .inl (fun _ => 0)))] H := hP
  have hD : va_D A [(m0, .inr (12, [.int 0, .ref m0a1, .int 0, .long 0, .int 0, .ref m0a5, .ref m0a6, .ref m0a7, .ref m0a8, .ref m0a9, .int 0, .ref m0a11, .ref m0a12, .ref m0a13, .ref m0a14, .ref m0a15, .ref m0a16, .int 0, .ref m0a18, .ref m0a19, .ref m0a20, .ref m0a21, .ref m0a22, .int 0, .ref m0a24, .ref m0a25, .ref m0a26, .int 0, .ref m0a28, .ref m0a29, .ref m0a30, .ref m0a31, .int 0, .ref m0a33, .ref m0a34, .ref m0a35, .ref m0a36, .ref m0a37, .ref m0a38, .ref m0a39, .ref m0a40, .ref m0a41, .ref m0a42, .ref m0a43, .ref m0a44, .ref m0a45, .ref m0a46, .ref m0a47, .int 0, .ref m0a49, .ref m0a50, .ref m0a51, .int 0, .ref m0a53, .ref m0a54, .ref m0a55, .ref m0a56, .ref m0a57, .ref m0a58, .ref m0a59, .ref m0a60, .ref m0a61, .ref m0a62, .ref m0a63, .long 0, .int 0, .int (-9), .ref m0a67, .ref m0a68, .ref m0a69, .ref m0a70, .ref m0a71, .ref m0a72, .ref m0a73, .ref m0a74, .ref m0a75, .long 0])), (m0a33, .inl (cI g, 24, .inl (upd (fun _ => 0) 0 k0))), (m0a34, .inl (cI g, 24, .inl (upd (fun _ => 0) 0 0))), (m0a35, .inl (cI g, 24, .inl (upd (fun _ => 0) 0 o0))), (m0a37, .inl (cI g, 24, .inl (upd (fun _ => 0) 0 (-9)))), (m0a38, .inl (cI g, 24, .inl (fun _ => 0)))] := hD
  refine lv_aload_n hx hb dX12_enter_44 rfl (lv_at hl 0 rfl) ?_
  refine va_get (D := g.1) (ci := 12) (v := .ref m0a38) (C := RX12) (T := TX12) (N := 77) hx hb hts fw_X12 hown hK hP 0 rfl rfl 38 (by decide) (hts _ q_1504) (fun _ h9 => h9) rfl dX12_enter_45 ?_
  refine lv_aload_n hx hb dX12_enter_48 rfl (lv_at hl 0 rfl) ?_
  refine va_get (D := g.1) (ci := 12) (v := .int 0) (C := RX12) (T := TX12) (N := 77) hx hb hts fw_X12 hown hK hP 0 rfl rfl 32 (by decide) (hts _ q_1498) (fun _ h9 => h9) rfl dX12_enter_49 ?_
  refine lv_iconst (v := 0) hx hb dX12_enter_52 (by decide) ?_
  refine va_iast hx hb hK hP hD hS 5 0 rfl rfl (by unfold vp_in; decide) dX12_enter_53 (fun H locs hP hD hS => ?_)
  have hP : va_P g.1 classes [(m0, .inr (12, [.int 0, .ref m0a1, .int 0, .long 0, .int 0, .ref m0a5, .ref m0a6, .ref m0a7, .ref m0a8, .ref m0a9, .int 0, .ref m0a11, .ref m0a12, .ref m0a13, .ref m0a14, .ref m0a15, .ref m0a16, .int 0, .ref m0a18, .ref m0a19, .ref m0a20, .ref m0a21, .ref m0a22, .int 0, .ref m0a24, .ref m0a25, .ref m0a26, .int 0, .ref m0a28, .ref m0a29, .ref m0a30, .ref m0a31, .int 0, .ref m0a33, .ref m0a34, .ref m0a35, .ref m0a36, .ref m0a37, .ref m0a38, .ref m0a39, .ref m0a40, .ref m0a41, .ref m0a42, .ref m0a43, .ref m0a44, .ref m0a45, .ref m0a46, .ref m0a47, .int 0, .ref m0a49, .ref m0a50, .ref m0a51, .int 0, .ref m0a53, .ref m0a54, .ref m0a55, .ref m0a56, .ref m0a57, .ref m0a58, .ref m0a59, .ref m0a60, .ref m0a61, .ref m0a62, .ref m0a63, .long 0, .int 0, .int (-9), .ref m0a67, .ref m0a68, .ref m0a69, .ref m0a70, .ref m0a71, .ref m0a72, .ref m0a73, .ref m0a74, .ref m0a75, .long 0])), (m0a33, .inl (cI g, 24, .inl (upd (fun _ => 0) 0 k0))), (m0a34, .inl (cI g, 24, .inl (upd (fun _ => 0) 0 0))), (m0a35, .inl (cI g, 24, .inl (upd (fun _ => 0) 0 o0))), (m0a37, .inl (cI g, 24, .inl (upd (fun _ => 0) 0 (-9)))), (m0a38, .inl (cI g, 24, .inl (upd (fun _ => 0) 0 0)))] H := hP
  have hD : va_D A [(m0, .inr (12, [.int 0, .ref m0a1, .int 0, .long 0, .int 0, .ref m0a5, .ref m0a6, .ref m0a7, .ref m0a8, .ref m0a9, .int 0, .ref m0a11, .ref m0a12, .ref m0a13, .ref m0a14, .ref m0a15, .ref m0a16, .int 0, .ref m0a18, .ref m0a19, .ref m0a20, .ref m0a21, .ref m0a22, .int 0, .ref m0a24, .ref m0a25, .ref m0a26, .int 0, .ref m0a28, .ref m0a29, .ref m0a30, .ref m0a31, .int 0, .ref m0a33, .ref m0a34, .ref m0a35, .ref m0a36, .ref m0a37, .ref m0a38, .ref m0a39, .ref m0a40, .ref m0a41, .ref m0a42, .ref m0a43, .ref m0a44, .ref m0a45, .ref m0a46, .ref m0a47, .int 0, .ref m0a49, .ref m0a50, .ref m0a51, .int 0, .ref m0a53, .ref m0a54, .ref m0a55, .ref m0a56, .ref m0a57, .ref m0a58, .ref m0a59, .ref m0a60, .ref m0a61, .ref m0a62, .ref m0a63, .long 0, .int 0, .int (-9), .ref m0a67, .ref m0a68, .ref m0a69, .ref m0a70, .ref m0a71, .ref m0a72, .ref m0a73, .ref m0a74, .ref m0a75, .long 0])), (m0a33, .inl (cI g, 24, .inl (upd (fun _ => 0) 0 k0))), (m0a34, .inl (cI g, 24, .inl (upd (fun _ => 0) 0 0))), (m0a35, .inl (cI g, 24, .inl (upd (fun _ => 0) 0 o0))), (m0a37, .inl (cI g, 24, .inl (upd (fun _ => 0) 0 (-9)))), (m0a38, .inl (cI g, 24, .inl (upd (fun _ => 0) 0 0)))] := hD
  refine lv_aload_n hx hb dX12_enter_54 rfl (lv_at hl 0 rfl) ?_
  refine lv_dup hx hb dX12_enter_55 rfl ?_
  refine va_get (D := g.1) (ci := 12) (v := .int 0) (C := RX12) (T := TX12) (N := 77) hx hb hts fw_X12 hown hK hP 0 rfl rfl 32 (by decide) (hts _ q_1498) (fun _ h9 => h9) rfl dX12_enter_56 ?_
  refine lv_iconst (v := 1) hx hb dX12_enter_59 (by decide) ?_
  refine lv_iadd hx hb dX12_enter_60 ?_
  refine lv_topk (v := 1) (by decide) ?_
  refine va_put (D := g.1) (ci := 12) (v := .int 1) (ty := .int) (C := RX12) (T := TX12) (N := 77) hx hb hts fw_X12 tyX12 tyX12_ok nmX12 hown hK hP hD hS 0 rfl rfl 32 (by decide) (hts _ q_1498) (fun _ h9 => h9) rfl (by decide +kernel) rfl rfl (Nat.le_of_ble_eq_true rfl) dX12_enter_61 (fun H locs hP hD hS => ?_)
  have hP : va_P g.1 classes [(m0, .inr (12, [.int 0, .ref m0a1, .int 0, .long 0, .int 0, .ref m0a5, .ref m0a6, .ref m0a7, .ref m0a8, .ref m0a9, .int 0, .ref m0a11, .ref m0a12, .ref m0a13, .ref m0a14, .ref m0a15, .ref m0a16, .int 0, .ref m0a18, .ref m0a19, .ref m0a20, .ref m0a21, .ref m0a22, .int 0, .ref m0a24, .ref m0a25, .ref m0a26, .int 0, .ref m0a28, .ref m0a29, .ref m0a30, .ref m0a31, .int 1, .ref m0a33, .ref m0a34, .ref m0a35, .ref m0a36, .ref m0a37, .ref m0a38, .ref m0a39, .ref m0a40, .ref m0a41, .ref m0a42, .ref m0a43, .ref m0a44, .ref m0a45, .ref m0a46, .ref m0a47, .int 0, .ref m0a49, .ref m0a50, .ref m0a51, .int 0, .ref m0a53, .ref m0a54, .ref m0a55, .ref m0a56, .ref m0a57, .ref m0a58, .ref m0a59, .ref m0a60, .ref m0a61, .ref m0a62, .ref m0a63, .long 0, .int 0, .int (-9), .ref m0a67, .ref m0a68, .ref m0a69, .ref m0a70, .ref m0a71, .ref m0a72, .ref m0a73, .ref m0a74, .ref m0a75, .long 0])), (m0a33, .inl (cI g, 24, .inl (upd (fun _ => 0) 0 k0))), (m0a34, .inl (cI g, 24, .inl (upd (fun _ => 0) 0 0))), (m0a35, .inl (cI g, 24, .inl (upd (fun _ => 0) 0 o0))), (m0a37, .inl (cI g, 24, .inl (upd (fun _ => 0) 0 (-9)))), (m0a38, .inl (cI g, 24, .inl (upd (fun _ => 0) 0 0)))] H := hP
  have hD : va_D A [(m0, .inr (12, [.int 0, .ref m0a1, .int 0, .long 0, .int 0, .ref m0a5, .ref m0a6, .ref m0a7, .ref m0a8, .ref m0a9, .int 0, .ref m0a11, .ref m0a12, .ref m0a13, .ref m0a14, .ref m0a15, .ref m0a16, .int 0, .ref m0a18, .ref m0a19, .ref m0a20, .ref m0a21, .ref m0a22, .int 0, .ref m0a24, .ref m0a25, .ref m0a26, .int 0, .ref m0a28, .ref m0a29, .ref m0a30, .ref m0a31, .int 1, .ref m0a33, .ref m0a34, .ref m0a35, .ref m0a36, .ref m0a37, .ref m0a38, .ref m0a39, .ref m0a40, .ref m0a41, .ref m0a42, .ref m0a43, .ref m0a44, .ref m0a45, .ref m0a46, .ref m0a47, .int 0, .ref m0a49, .ref m0a50, .ref m0a51, .int 0, .ref m0a53, .ref m0a54, .ref m0a55, .ref m0a56, .ref m0a57, .ref m0a58, .ref m0a59, .ref m0a60, .ref m0a61, .ref m0a62, .ref m0a63, .long 0, .int 0, .int (-9), .ref m0a67, .ref m0a68, .ref m0a69, .ref m0a70, .ref m0a71, .ref m0a72, .ref m0a73, .ref m0a74, .ref m0a75, .long 0])), (m0a33, .inl (cI g, 24, .inl (upd (fun _ => 0) 0 k0))), (m0a34, .inl (cI g, 24, .inl (upd (fun _ => 0) 0 0))), (m0a35, .inl (cI g, 24, .inl (upd (fun _ => 0) 0 o0))), (m0a37, .inl (cI g, 24, .inl (upd (fun _ => 0) 0 (-9)))), (m0a38, .inl (cI g, 24, .inl (upd (fun _ => 0) 0 0)))] := hD
  refine lv_aload_n hx hb dX12_enter_64 rfl (lv_at hl 0 rfl) ?_
  refine va_get (D := g.1) (ci := 12) (v := .int 1) (C := RX12) (T := TX12) (N := 77) hx hb hts fw_X12 hown hK hP 0 rfl rfl 32 (by decide) (hts _ q_1498) (fun _ h9 => h9) rfl dX12_enter_65 ?_
  refine lv_iconst (v := 1) hx hb dX12_enter_68 (by decide) ?_
  refine lv_isub hx hb dX12_enter_69 ?_
  refine lv_topk (v := 0) (by decide) ?_
  exact rI X hK hP hD hS dX12_enter_70 (by rfl) (Nat.le_of_ble_eq_true rfl) (Nat.le_of_ble_eq_true rfl) (by show ((_, _) : Int32 × va_W) = _; unfold sp_X12_enter; try rfl)
def sp_X12_askedWeights (g : GG) (m0 : Nat) (r : Int32) (r2 : Int32) (m0a1 : Nat) (m0a5 : Nat) (m0a6 : Nat) (m0a7 : Nat) (m0a8 : Nat) (m0a9 : Nat) (m0a11 : Nat) (m0a12 : Nat) (m0a13 : Nat) (m0a14 : Nat) (m0a15 : Nat) (m0a16 : Nat) (m0a18 : Nat) (m0a19 : Nat) (m0a20 : Nat) (m0a21 : Nat) (m0a22 : Nat) (m0a24 : Nat) (m0a25 : Nat) (m0a26 : Nat) (m0a28 : Nat) (m0a29 : Nat) (m0a30 : Nat) (m0a31 : Nat) (m0a33 : Nat) (m0a34 : Nat) (m0a35 : Nat) (m0a36 : Nat) (m0a37 : Nat) (m0a38 : Nat) (m0a39 : Nat) (m0a40 : Nat) (m0a41 : Nat) (m0a42 : Nat) (m0a43 : Nat) (m0a44 : Nat) (m0a45 : Nat) (m0a46 : Nat) (m0a47 : Nat) (m0a49 : Nat) (m0a50 : Nat) (m0a51 : Nat) (m0a53 : Nat) (m0a54 : Nat) (m0a55 : Nat) (m0a56 : Nat) (m0a57 : Nat) (m0a58 : Nat) (m0a59 : Nat) (m0a60 : Nat) (m0a61 : Nat) (m0a62 : Nat) (m0a63 : Nat) (m0a67 : Nat) (m0a68 : Nat) (m0a69 : Nat) (m0a70 : Nat) (m0a71 : Nat) (m0a72 : Nat) (m0a73 : Nat) (m0a74 : Nat) (m0a75 : Nat) : Int32 × va_W := ((-3), [(m0a5, .inl (cI g, 6, .inl (fun _ => (-9)))), (m0, .inr (12, [.int 1, .ref m0a1, .int 0, .long 0, .int 0, .ref m0a5, .ref m0a6, .ref m0a7, .ref m0a8, .ref m0a9, .int 0, .ref m0a11, .ref m0a12, .ref m0a13, .ref m0a14, .ref m0a15, .ref m0a16, .int 0, .ref m0a18, .ref m0a19, .ref m0a20, .ref m0a21, .ref m0a22, .int 0, .ref m0a24, .ref m0a25, .ref m0a26, .int 0, .ref m0a28, .ref m0a29, .ref m0a30, .ref m0a31, .int 0, .ref m0a33, .ref m0a34, .ref m0a35, .ref m0a36, .ref m0a37, .ref m0a38, .ref m0a39, .ref m0a40, .ref m0a41, .ref m0a42, .ref m0a43, .ref m0a44, .ref m0a45, .ref m0a46, .ref m0a47, .int 0, .ref m0a49, .ref m0a50, .ref m0a51, .int 0, .ref m0a53, .ref m0a54, .ref m0a55, .ref m0a56, .ref m0a57, .ref m0a58, .ref m0a59, .ref m0a60, .ref m0a61, .ref m0a62, .ref m0a63, .long 0, .int 0, .int (-9), .ref m0a67, .ref m0a68, .ref m0a69, .ref m0a70, .ref m0a71, .ref m0a72, .ref m0a73, .ref m0a74, .ref m0a75, .long 0])), (m0a1, .inl (cI g, 6, .inl (upd (fun _ => 0) 1 1)))])
set_option maxHeartbeats 4000000 in
set_option maxRecDepth 100000 in
theorem c_X12_askedWeights (l : Launch) (g : GG) (m0 : Nat) (r : Int32) (r2 : Int32) (m0a1 : Nat) (m0a5 : Nat) (m0a6 : Nat) (m0a7 : Nat) (m0a8 : Nat) (m0a9 : Nat) (m0a11 : Nat) (m0a12 : Nat) (m0a13 : Nat) (m0a14 : Nat) (m0a15 : Nat) (m0a16 : Nat) (m0a18 : Nat) (m0a19 : Nat) (m0a20 : Nat) (m0a21 : Nat) (m0a22 : Nat) (m0a24 : Nat) (m0a25 : Nat) (m0a26 : Nat) (m0a28 : Nat) (m0a29 : Nat) (m0a30 : Nat) (m0a31 : Nat) (m0a33 : Nat) (m0a34 : Nat) (m0a35 : Nat) (m0a36 : Nat) (m0a37 : Nat) (m0a38 : Nat) (m0a39 : Nat) (m0a40 : Nat) (m0a41 : Nat) (m0a42 : Nat) (m0a43 : Nat) (m0a44 : Nat) (m0a45 : Nat) (m0a46 : Nat) (m0a47 : Nat) (m0a49 : Nat) (m0a50 : Nat) (m0a51 : Nat) (m0a53 : Nat) (m0a54 : Nat) (m0a55 : Nat) (m0a56 : Nat) (m0a57 : Nat) (m0a58 : Nat) (m0a59 : Nat) (m0a60 : Nat) (m0a61 : Nat) (m0a62 : Nat) (m0a63 : Nat) (m0a67 : Nat) (m0a68 : Nat) (m0a69 : Nat) (m0a70 : Nat) (m0a71 : Nat) (m0a72 : Nat) (m0a73 : Nat) (m0a74 : Nat) (m0a75 : Nat) (h0_r : ¬ (r < 0)) (h6_r : ¬ (6 ≤ r)) (h0_r2 : ¬ (r2 < 0)) (h6_r2 : ¬ (6 ≤ r2)) : MI l g yX12_askedWeights cX12_askedWeights 5 (some .int) 1 21 0 0 [(m0, .inr (12, [.int 0, .ref m0a1, .int 0, .long 0, .int 0, .ref m0a5, .ref m0a6, .ref m0a7, .ref m0a8, .ref m0a9, .int 0, .ref m0a11, .ref m0a12, .ref m0a13, .ref m0a14, .ref m0a15, .ref m0a16, .int 0, .ref m0a18, .ref m0a19, .ref m0a20, .ref m0a21, .ref m0a22, .int 0, .ref m0a24, .ref m0a25, .ref m0a26, .int 0, .ref m0a28, .ref m0a29, .ref m0a30, .ref m0a31, .int 0, .ref m0a33, .ref m0a34, .ref m0a35, .ref m0a36, .ref m0a37, .ref m0a38, .ref m0a39, .ref m0a40, .ref m0a41, .ref m0a42, .ref m0a43, .ref m0a44, .ref m0a45, .ref m0a46, .ref m0a47, .int 0, .ref m0a49, .ref m0a50, .ref m0a51, .int 0, .ref m0a53, .ref m0a54, .ref m0a55, .ref m0a56, .ref m0a57, .ref m0a58, .ref m0a59, .ref m0a60, .ref m0a61, .ref m0a62, .ref m0a63, .long 0, .int 0, .int (-9), .ref m0a67, .ref m0a68, .ref m0a69, .ref m0a70, .ref m0a71, .ref m0a72, .ref m0a73, .ref m0a74, .ref m0a75, .long 0])), (m0a1, .inl (cI g, 6, .inl (fun _ => 0))), (m0a5, .inl (cI g, 6, .inl (fun _ => (-9))))] [.ref m0, .int r, .int r2] (fun rr_ ww_ => (rr_, ww_) = sp_X12_askedWeights g m0 r r2 m0a1 m0a5 m0a6 m0a7 m0a8 m0a9 m0a11 m0a12 m0a13 m0a14 m0a15 m0a16 m0a18 m0a19 m0a20 m0a21 m0a22 m0a24 m0a25 m0a26 m0a28 m0a29 m0a30 m0a31 m0a33 m0a34 m0a35 m0a36 m0a37 m0a38 m0a39 m0a40 m0a41 m0a42 m0a43 m0a44 m0a45 m0a46 m0a47 m0a49 m0a50 m0a51 m0a53 m0a54 m0a55 m0a56 m0a57 m0a58 m0a59 m0a60 m0a61 m0a62 m0a63 m0a67 m0a68 m0a69 m0a70 m0a71 m0a72 m0a73 m0a74 m0a75) := by
  refine met_of (fun A => va_Qi _ (bW g A) A) (by decide) (Nat.le_of_ble_eq_true rfl) ?_
  intro p e s m below meth c A ls X hK hP hD hA hZ hS hl
  have hx := X.1
  have hb := X.2.1
  have hml := X.2.2.1
  have hown := X.2.2.2.1
  have hts := X.2.2.2.2.1
  have hnm := X.2.2.2.2.2.2.2
  have hl : lv_has ls 5 [(0, .ref m0), (1, .int r), (2, .int r2)] := hl
  refine lv_aload_n hx hb dX12_askedWeights_0 rfl (lv_at hl 0 rfl) ?_
  refine va_get (D := g.1) (ci := 12) (v := .ref m0a5) (C := RX12) (T := TX12) (N := 77) hx hb hts fw_X12 hown hK hP 0 rfl rfl 5 (by decide) (hts _ q_1471) (fun _ h9 => h9) rfl dX12_askedWeights_1 ?_
  refine lv_iload_n hx hb dX12_askedWeights_4 rfl (lv_at hl 1 rfl) ?_
  refine va_iald hx hb hK hP 2 0 rfl rfl (vp_in_iff.mpr (by simp only [i32lt, i32le, i32eq, Int32.reduceToInt] at h0_r h6_r; omega)) dX12_askedWeights_5 ?_
  refine lv_topk (v := (-9)) rfl ?_
  refine lv_if_lt (tgt := 18) hx hb dX12_askedWeights_6 (by decide) (fun _ => ?_) (fun c_1 => absurd (by decide) c_1)
  refine lv_aload_n hx hb dX12_askedWeights_18 rfl (lv_at hl 0 rfl) ?_
  refine lv_iconst (v := 1) hx hb dX12_askedWeights_19 (by decide) ?_
  refine kVi (As := [.int 1]) (rest := []) (wr := [(m0a5, .inl (cI g, 6, .inl (fun _ => (-9))))]) X (c_X12_meets1 l g m0 m0a1 m0a5 m0a6 m0a7 m0a8 m0a9 m0a11 m0a12 m0a13 m0a14 m0a15 m0a16 m0a18 m0a19 m0a20 m0a21 m0a22 m0a24 m0a25 m0a26 m0a28 m0a29 m0a30 m0a31 m0a33 m0a34 m0a35 m0a36 m0a37 m0a38 m0a39 m0a40 m0a41 m0a42 m0a43 m0a44 m0a45 m0a46 m0a47 m0a49 m0a50 m0a51 m0a53 m0a54 m0a55 m0a56 m0a57 m0a58 m0a59 m0a60 m0a61 m0a62 m0a63 m0a67 m0a68 m0a69 m0a70 m0a71 m0a72 m0a73 m0a74 m0a75) ok_X12_meets okv_X12_meets q_1708 rfl hK hP hD hS hA hZ hl.1 [0, 1] [2] rfl rfl rfl rfl rfl 0 12 rfl rfl rfl (Nat.le_of_ble_eq_true rfl) ⟨Nat.le_of_ble_eq_true rfl, Nat.le_of_ble_eq_true rfl⟩ dX12_askedWeights_20 ⟨Nat.le_of_ble_eq_true rfl, Nat.le_of_ble_eq_true rfl⟩ (fun r_2 w1 H locs hw_3 hP hD hS => ?_)
  rw [sp_X12_meets1] at hw_3
  obtain ⟨e1, e2⟩ := Prod.mk.inj hw_3
  subst e1; subst e2
  have hP : va_P g.1 classes [(m0a5, .inl (cI g, 6, .inl (fun _ => (-9)))), (m0, .inr (12, [.int 1, .ref m0a1, .int 0, .long 0, .int 0, .ref m0a5, .ref m0a6, .ref m0a7, .ref m0a8, .ref m0a9, .int 0, .ref m0a11, .ref m0a12, .ref m0a13, .ref m0a14, .ref m0a15, .ref m0a16, .int 0, .ref m0a18, .ref m0a19, .ref m0a20, .ref m0a21, .ref m0a22, .int 0, .ref m0a24, .ref m0a25, .ref m0a26, .int 0, .ref m0a28, .ref m0a29, .ref m0a30, .ref m0a31, .int 0, .ref m0a33, .ref m0a34, .ref m0a35, .ref m0a36, .ref m0a37, .ref m0a38, .ref m0a39, .ref m0a40, .ref m0a41, .ref m0a42, .ref m0a43, .ref m0a44, .ref m0a45, .ref m0a46, .ref m0a47, .int 0, .ref m0a49, .ref m0a50, .ref m0a51, .int 0, .ref m0a53, .ref m0a54, .ref m0a55, .ref m0a56, .ref m0a57, .ref m0a58, .ref m0a59, .ref m0a60, .ref m0a61, .ref m0a62, .ref m0a63, .long 0, .int 0, .int (-9), .ref m0a67, .ref m0a68, .ref m0a69, .ref m0a70, .ref m0a71, .ref m0a72, .ref m0a73, .ref m0a74, .ref m0a75, .long 0])), (m0a1, .inl (cI g, 6, .inl (upd (fun _ => 0) 1 1)))] H := hP
  have hD : va_D A [(m0a5, .inl (cI g, 6, .inl (fun _ => (-9)))), (m0, .inr (12, [.int 1, .ref m0a1, .int 0, .long 0, .int 0, .ref m0a5, .ref m0a6, .ref m0a7, .ref m0a8, .ref m0a9, .int 0, .ref m0a11, .ref m0a12, .ref m0a13, .ref m0a14, .ref m0a15, .ref m0a16, .int 0, .ref m0a18, .ref m0a19, .ref m0a20, .ref m0a21, .ref m0a22, .int 0, .ref m0a24, .ref m0a25, .ref m0a26, .int 0, .ref m0a28, .ref m0a29, .ref m0a30, .ref m0a31, .int 0, .ref m0a33, .ref m0a34, .ref m0a35, .ref m0a36, .ref m0a37, .ref m0a38, .ref m0a39, .ref m0a40, .ref m0a41, .ref m0a42, .ref m0a43, .ref m0a44, .ref m0a45, .ref m0a46, .ref m0a47, .int 0, .ref m0a49, .ref m0a50, .ref m0a51, .int 0, .ref m0a53, .ref m0a54, .ref m0a55, .ref m0a56, .ref m0a57, .ref m0a58, .ref m0a59, .ref m0a60, .ref m0a61, .ref m0a62, .ref m0a63, .long 0, .int 0, .int (-9), .ref m0a67, .ref m0a68, .ref m0a69, .ref m0a70, .ref m0a71, .ref m0a72, .ref m0a73, .ref m0a74, .ref m0a75, .long 0])), (m0a1, .inl (cI g, 6, .inl (upd (fun _ => 0) 1 1)))] := hD
  exact rI X hK hP hD hS dX12_askedWeights_23 (by rfl) (Nat.le_of_ble_eq_true rfl) (Nat.le_of_ble_eq_true rfl) (by show ((_, _) : Int32 × va_W) = _; unfold sp_X12_askedWeights; try rfl)
def sp_X12_tell (g : GG) (m0 : Nat) (v0 : Int32) (m0a1 : Nat) (m0a5 : Nat) (m0a6 : Nat) (m0a7 : Nat) (m0a8 : Nat) (m0a9 : Nat) (m0a11 : Nat) (m0a12 : Nat) (m0a13 : Nat) (m0a14 : Nat) (m0a15 : Nat) (m0a16 : Nat) (m0a18 : Nat) (m0a19 : Nat) (m0a20 : Nat) (m0a21 : Nat) (m0a22 : Nat) (m0a24 : Nat) (m0a25 : Nat) (m0a26 : Nat) (m0a28 : Nat) (m0a29 : Nat) (m0a30 : Nat) (m0a31 : Nat) (m0a33 : Nat) (m0a34 : Nat) (m0a35 : Nat) (m0a36 : Nat) (m0a37 : Nat) (m0a38 : Nat) (m0a39 : Nat) (m0a40 : Nat) (m0a41 : Nat) (m0a42 : Nat) (m0a43 : Nat) (m0a44 : Nat) (m0a45 : Nat) (m0a46 : Nat) (m0a47 : Nat) (m0a49 : Nat) (m0a50 : Nat) (m0a51 : Nat) (m0a53 : Nat) (m0a54 : Nat) (m0a55 : Nat) (m0a56 : Nat) (m0a57 : Nat) (m0a58 : Nat) (m0a59 : Nat) (m0a60 : Nat) (m0a61 : Nat) (m0a62 : Nat) (m0a63 : Nat) (m0a67 : Nat) (m0a68 : Nat) (m0a69 : Nat) (m0a70 : Nat) (m0a71 : Nat) (m0a72 : Nat) (m0a73 : Nat) (m0a74 : Nat) (m0a75 : Nat) (f_m0a24 : Nat → Int32) (f_m0a25 : Nat → Int32) (f_m0a26 : Nat → Int32) : va_W := [(m0, .inr (12, [.int 0, .ref m0a1, .int 0, .long 0, .int 0, .ref m0a5, .ref m0a6, .ref m0a7, .ref m0a8, .ref m0a9, .int 0, .ref m0a11, .ref m0a12, .ref m0a13, .ref m0a14, .ref m0a15, .ref m0a16, .int 0, .ref m0a18, .ref m0a19, .ref m0a20, .ref m0a21, .ref m0a22, .int 1, .ref m0a24, .ref m0a25, .ref m0a26, .int 0, .ref m0a28, .ref m0a29, .ref m0a30, .ref m0a31, .int 0, .ref m0a33, .ref m0a34, .ref m0a35, .ref m0a36, .ref m0a37, .ref m0a38, .ref m0a39, .ref m0a40, .ref m0a41, .ref m0a42, .ref m0a43, .ref m0a44, .ref m0a45, .ref m0a46, .ref m0a47, .int 0, .ref m0a49, .ref m0a50, .ref m0a51, .int 0, .ref m0a53, .ref m0a54, .ref m0a55, .ref m0a56, .ref m0a57, .ref m0a58, .ref m0a59, .ref m0a60, .ref m0a61, .ref m0a62, .ref m0a63, .long 0, .int 0, .int (-9), .ref m0a67, .ref m0a68, .ref m0a69, .ref m0a70, .ref m0a71, .ref m0a72, .ref m0a73, .ref m0a74, .ref m0a75, .long 0])), (m0a24, .inl (cI g, 100, .inl (upd f_m0a24 0 0))), (m0a25, .inl (cI g, 100, .inl (upd f_m0a25 0 0))), (m0a26, .inl (cI g, 100, .inl (upd f_m0a26 0 v0)))]
set_option maxHeartbeats 4000000 in
set_option maxRecDepth 100000 in
theorem c_X12_tell (l : Launch) (g : GG) (m0 : Nat) (v0 : Int32) (m0a1 : Nat) (m0a5 : Nat) (m0a6 : Nat) (m0a7 : Nat) (m0a8 : Nat) (m0a9 : Nat) (m0a11 : Nat) (m0a12 : Nat) (m0a13 : Nat) (m0a14 : Nat) (m0a15 : Nat) (m0a16 : Nat) (m0a18 : Nat) (m0a19 : Nat) (m0a20 : Nat) (m0a21 : Nat) (m0a22 : Nat) (m0a24 : Nat) (m0a25 : Nat) (m0a26 : Nat) (m0a28 : Nat) (m0a29 : Nat) (m0a30 : Nat) (m0a31 : Nat) (m0a33 : Nat) (m0a34 : Nat) (m0a35 : Nat) (m0a36 : Nat) (m0a37 : Nat) (m0a38 : Nat) (m0a39 : Nat) (m0a40 : Nat) (m0a41 : Nat) (m0a42 : Nat) (m0a43 : Nat) (m0a44 : Nat) (m0a45 : Nat) (m0a46 : Nat) (m0a47 : Nat) (m0a49 : Nat) (m0a50 : Nat) (m0a51 : Nat) (m0a53 : Nat) (m0a54 : Nat) (m0a55 : Nat) (m0a56 : Nat) (m0a57 : Nat) (m0a58 : Nat) (m0a59 : Nat) (m0a60 : Nat) (m0a61 : Nat) (m0a62 : Nat) (m0a63 : Nat) (m0a67 : Nat) (m0a68 : Nat) (m0a69 : Nat) (m0a70 : Nat) (m0a71 : Nat) (m0a72 : Nat) (m0a73 : Nat) (m0a74 : Nat) (m0a75 : Nat) (f_m0a24 : Nat → Int32) (f_m0a25 : Nat → Int32) (f_m0a26 : Nat → Int32) : MV l g yX12_tell cX12_tell 3 0 0 0 0 [(m0, .inr (12, [.int 0, .ref m0a1, .int 0, .long 0, .int 0, .ref m0a5, .ref m0a6, .ref m0a7, .ref m0a8, .ref m0a9, .int 0, .ref m0a11, .ref m0a12, .ref m0a13, .ref m0a14, .ref m0a15, .ref m0a16, .int 0, .ref m0a18, .ref m0a19, .ref m0a20, .ref m0a21, .ref m0a22, .int 0, .ref m0a24, .ref m0a25, .ref m0a26, .int 0, .ref m0a28, .ref m0a29, .ref m0a30, .ref m0a31, .int 0, .ref m0a33, .ref m0a34, .ref m0a35, .ref m0a36, .ref m0a37, .ref m0a38, .ref m0a39, .ref m0a40, .ref m0a41, .ref m0a42, .ref m0a43, .ref m0a44, .ref m0a45, .ref m0a46, .ref m0a47, .int 0, .ref m0a49, .ref m0a50, .ref m0a51, .int 0, .ref m0a53, .ref m0a54, .ref m0a55, .ref m0a56, .ref m0a57, .ref m0a58, .ref m0a59, .ref m0a60, .ref m0a61, .ref m0a62, .ref m0a63, .long 0, .int 0, .int (-9), .ref m0a67, .ref m0a68, .ref m0a69, .ref m0a70, .ref m0a71, .ref m0a72, .ref m0a73, .ref m0a74, .ref m0a75, .long 0])), (m0a24, .inl (cI g, 100, .inl f_m0a24)), (m0a25, .inl (cI g, 100, .inl f_m0a25)), (m0a26, .inl (cI g, 100, .inl f_m0a26))] [.ref m0, .int 0, .int v0] (fun ww_ => ww_ = sp_X12_tell g m0 v0 m0a1 m0a5 m0a6 m0a7 m0a8 m0a9 m0a11 m0a12 m0a13 m0a14 m0a15 m0a16 m0a18 m0a19 m0a20 m0a21 m0a22 m0a24 m0a25 m0a26 m0a28 m0a29 m0a30 m0a31 m0a33 m0a34 m0a35 m0a36 m0a37 m0a38 m0a39 m0a40 m0a41 m0a42 m0a43 m0a44 m0a45 m0a46 m0a47 m0a49 m0a50 m0a51 m0a53 m0a54 m0a55 m0a56 m0a57 m0a58 m0a59 m0a60 m0a61 m0a62 m0a63 m0a67 m0a68 m0a69 m0a70 m0a71 m0a72 m0a73 m0a74 m0a75 f_m0a24 f_m0a25 f_m0a26) := by
  refine met_of (fun A => va_Qv _ (bW g A) A) (by decide) (Nat.le_of_ble_eq_true rfl) ?_
  intro p e s m below meth c A ls X hK hP hD hA hZ hS hl
  have hx := X.1
  have hb := X.2.1
  have hml := X.2.2.1
  have hown := X.2.2.2.1
  have hts := X.2.2.2.2.1
  have hnm := X.2.2.2.2.2.2.2
  have hl : lv_has ls 3 [(0, .ref m0), (1, .int 0), (2, .int v0)] := hl
  refine lv_aload_n hx hb dX12_tell_0 rfl (lv_at hl 0 rfl) ?_
  refine va_get (D := g.1) (ci := 12) (v := .ref m0a24) (C := RX12) (T := TX12) (N := 77) hx hb hts fw_X12 hown hK hP 0 rfl rfl 24 (by decide) (hts _ q_1490) (fun _ h9 => h9) rfl dX12_tell_1 ?_
  refine lv_aload_n hx hb dX12_tell_4 rfl (lv_at hl 0 rfl) ?_
  refine va_get (D := g.1) (ci := 12) (v := .int 0) (C := RX12) (T := TX12) (N := 77) hx hb hts fw_X12 hown hK hP 0 rfl rfl 23 (by decide) (hts _ q_1489) (fun _ h9 => h9) rfl dX12_tell_5 ?_
  refine lv_iload_n hx hb dX12_tell_8 rfl (lv_at hl 1 rfl) ?_
  refine va_iast hx hb hK hP hD hS 1 0 rfl rfl (by unfold vp_in; decide) dX12_tell_9 (fun H locs hP hD hS => ?_)
  have hP : va_P g.1 classes [(m0, .inr (12, [.int 0, .ref m0a1, .int 0, .long 0, .int 0, .ref m0a5, .ref m0a6, .ref m0a7, .ref m0a8, .ref m0a9, .int 0, .ref m0a11, .ref m0a12, .ref m0a13, .ref m0a14, .ref m0a15, .ref m0a16, .int 0, .ref m0a18, .ref m0a19, .ref m0a20, .ref m0a21, .ref m0a22, .int 0, .ref m0a24, .ref m0a25, .ref m0a26, .int 0, .ref m0a28, .ref m0a29, .ref m0a30, .ref m0a31, .int 0, .ref m0a33, .ref m0a34, .ref m0a35, .ref m0a36, .ref m0a37, .ref m0a38, .ref m0a39, .ref m0a40, .ref m0a41, .ref m0a42, .ref m0a43, .ref m0a44, .ref m0a45, .ref m0a46, .ref m0a47, .int 0, .ref m0a49, .ref m0a50, .ref m0a51, .int 0, .ref m0a53, .ref m0a54, .ref m0a55, .ref m0a56, .ref m0a57, .ref m0a58, .ref m0a59, .ref m0a60, .ref m0a61, .ref m0a62, .ref m0a63, .long 0, .int 0, .int (-9), .ref m0a67, .ref m0a68, .ref m0a69, .ref m0a70, .ref m0a71, .ref m0a72, .ref m0a73, .ref m0a74, .ref m0a75, .long 0])), (m0a24, .inl (cI g, 100, .inl (upd f_m0a24 0 0))), (m0a25, .inl (cI g, 100, .inl f_m0a25)), (m0a26, .inl (cI g, 100, .inl f_m0a26))] H := hP
  have hD : va_D A [(m0, .inr (12, [.int 0, .ref m0a1, .int 0, .long 0, .int 0, .ref m0a5, .ref m0a6, .ref m0a7, .ref m0a8, .ref m0a9, .int 0, .ref m0a11, .ref m0a12, .ref m0a13, .ref m0a14, .ref m0a15, .ref m0a16, .int 0, .ref m0a18, .ref m0a19, .ref m0a20, .ref m0a21, .ref m0a22, .int 0, .ref m0a24, .ref m0a25, .ref m0a26, .int 0, .ref m0a28, .ref m0a29, .ref m0a30, .ref m0a31, .int 0, .ref m0a33, .ref m0a34, .ref m0a35, .ref m0a36, .ref m0a37, .ref m0a38, .ref m0a39, .ref m0a40, .ref m0a41, .ref m0a42, .ref m0a43, .ref m0a44, .ref m0a45, .ref m0a46, .ref m0a47, .int 0, .ref m0a49, .ref m0a50, .ref m0a51, .int 0, .ref m0a53, .ref m0a54, .ref m0a55, .ref m0a56, .ref m0a57, .ref m0a58, .ref m0a59, .ref m0a60, .ref m0a61, .ref m0a62, .ref m0a63, .long 0, .int 0, .int (-9), .ref m0a67, .ref m0a68, .ref m0a69, .ref m0a70, .ref m0a71, .ref m0a72, .ref m0a73, .ref m0a74, .ref m0a75, .long 0])), (m0a24, .inl (cI g, 100, .inl (upd f_m0a24 0 0))), (m0a25, .inl (cI g, 100, .inl f_m0a25)), (m0a26, .inl (cI g, 100, .inl f_m0a26))] := hD
  refine lv_aload_n hx hb dX12_tell_10 rfl (lv_at hl 0 rfl) ?_
  refine va_get (D := g.1) (ci := 12) (v := .ref m0a25) (C := RX12) (T := TX12) (N := 77) hx hb hts fw_X12 hown hK hP 0 rfl rfl 25 (by decide) (hts _ q_1491) (fun _ h9 => h9) rfl dX12_tell_11 ?_
  refine lv_aload_n hx hb dX12_tell_14 rfl (lv_at hl 0 rfl) ?_
  refine va_get (D := g.1) (ci := 12) (v := .int 0) (C := RX12) (T := TX12) (N := 77) hx hb hts fw_X12 hown hK hP 0 rfl rfl 23 (by decide) (hts _ q_1489) (fun _ h9 => h9) rfl dX12_tell_15 ?_
  refine lv_aload_n hx hb dX12_tell_18 rfl (lv_at hl 0 rfl) ?_
  refine va_get (D := g.1) (ci := 12) (v := .int 0) (C := RX12) (T := TX12) (N := 77) hx hb hts fw_X12 hown hK hP 0 rfl rfl 4 (by decide) (hts _ q_1470) (fun _ h9 => h9) rfl dX12_tell_19 ?_
  refine va_iast hx hb hK hP hD hS 2 0 rfl rfl (by unfold vp_in; decide) dX12_tell_22 (fun H locs hP hD hS => ?_)
  have hP : va_P g.1 classes [(m0, .inr (12, [.int 0, .ref m0a1, .int 0, .long 0, .int 0, .ref m0a5, .ref m0a6, .ref m0a7, .ref m0a8, .ref m0a9, .int 0, .ref m0a11, .ref m0a12, .ref m0a13, .ref m0a14, .ref m0a15, .ref m0a16, .int 0, .ref m0a18, .ref m0a19, .ref m0a20, .ref m0a21, .ref m0a22, .int 0, .ref m0a24, .ref m0a25, .ref m0a26, .int 0, .ref m0a28, .ref m0a29, .ref m0a30, .ref m0a31, .int 0, .ref m0a33, .ref m0a34, .ref m0a35, .ref m0a36, .ref m0a37, .ref m0a38, .ref m0a39, .ref m0a40, .ref m0a41, .ref m0a42, .ref m0a43, .ref m0a44, .ref m0a45, .ref m0a46, .ref m0a47, .int 0, .ref m0a49, .ref m0a50, .ref m0a51, .int 0, .ref m0a53, .ref m0a54, .ref m0a55, .ref m0a56, .ref m0a57, .ref m0a58, .ref m0a59, .ref m0a60, .ref m0a61, .ref m0a62, .ref m0a63, .long 0, .int 0, .int (-9), .ref m0a67, .ref m0a68, .ref m0a69, .ref m0a70, .ref m0a71, .ref m0a72, .ref m0a73, .ref m0a74, .ref m0a75, .long 0])), (m0a24, .inl (cI g, 100, .inl (upd f_m0a24 0 0))), (m0a25, .inl (cI g, 100, .inl (upd f_m0a25 0 0))), (m0a26, .inl (cI g, 100, .inl f_m0a26))] H := hP
  have hD : va_D A [(m0, .inr (12, [.int 0, .ref m0a1, .int 0, .long 0, .int 0, .ref m0a5, .ref m0a6, .ref m0a7, .ref m0a8, .ref m0a9, .int 0, .ref m0a11, .ref m0a12, .ref m0a13, .ref m0a14, .ref m0a15, .ref m0a16, .int 0, .ref m0a18, .ref m0a19, .ref m0a20, .ref m0a21, .ref m0a22, .int 0, .ref m0a24, .ref m0a25, .ref m0a26, .int 0, .ref m0a28, .ref m0a29, .ref m0a30, .ref m0a31, .int 0, .ref m0a33, .ref m0a34, .ref m0a35, .ref m0a36, .ref m0a37, .ref m0a38, .ref m0a39, .ref m0a40, .ref m0a41, .ref m0a42, .ref m0a43, .ref m0a44, .ref m0a45, .ref m0a46, .ref m0a47, .int 0, .ref m0a49, .ref m0a50, .ref m0a51, .int 0, .ref m0a53, .ref m0a54, .ref m0a55, .ref m0a56, .ref m0a57, .ref m0a58, .ref m0a59, .ref m0a60, .ref m0a61, .ref m0a62, .ref m0a63, .long 0, .int 0, .int (-9), .ref m0a67, .ref m0a68, .ref m0a69, .ref m0a70, .ref m0a71, .ref m0a72, .ref m0a73, .ref m0a74, .ref m0a75, .long 0])), (m0a24, .inl (cI g, 100, .inl (upd f_m0a24 0 0))), (m0a25, .inl (cI g, 100, .inl (upd f_m0a25 0 0))), (m0a26, .inl (cI g, 100, .inl f_m0a26))] := hD
  refine lv_aload_n hx hb dX12_tell_23 rfl (lv_at hl 0 rfl) ?_
  refine va_get (D := g.1) (ci := 12) (v := .ref m0a26) (C := RX12) (T := TX12) (N := 77) hx hb hts fw_X12 hown hK hP 0 rfl rfl 26 (by decide) (hts _ q_1492) (fun _ h9 => h9) rfl dX12_tell_24 ?_
  refine lv_aload_n hx hb dX12_tell_27 rfl (lv_at hl 0 rfl) ?_
  refine va_get (D := g.1) (ci := 12) (v := .int 0) (C := RX12) (T := TX12) (N := 77) hx hb hts fw_X12 hown hK hP 0 rfl rfl 23 (by decide) (hts _ q_1489) (fun _ h9 => h9) rfl dX12_tell_28 ?_
  refine lv_iload_n hx hb dX12_tell_31 rfl (lv_at hl 2 rfl) ?_
  refine va_iast hx hb hK hP hD hS 3 0 rfl rfl (by unfold vp_in; decide) dX12_tell_32 (fun H locs hP hD hS => ?_)
  have hP : va_P g.1 classes [(m0, .inr (12, [.int 0, .ref m0a1, .int 0, .long 0, .int 0, .ref m0a5, .ref m0a6, .ref m0a7, .ref m0a8, .ref m0a9, .int 0, .ref m0a11, .ref m0a12, .ref m0a13, .ref m0a14, .ref m0a15, .ref m0a16, .int 0, .ref m0a18, .ref m0a19, .ref m0a20, .ref m0a21, .ref m0a22, .int 0, .ref m0a24, .ref m0a25, .ref m0a26, .int 0, .ref m0a28, .ref m0a29, .ref m0a30, .ref m0a31, .int 0, .ref m0a33, .ref m0a34, .ref m0a35, .ref m0a36, .ref m0a37, .ref m0a38, .ref m0a39, .ref m0a40, .ref m0a41, .ref m0a42, .ref m0a43, .ref m0a44, .ref m0a45, .ref m0a46, .ref m0a47, .int 0, .ref m0a49, .ref m0a50, .ref m0a51, .int 0, .ref m0a53, .ref m0a54, .ref m0a55, .ref m0a56, .ref m0a57, .ref m0a58, .ref m0a59, .ref m0a60, .ref m0a61, .ref m0a62, .ref m0a63, .long 0, .int 0, .int (-9), .ref m0a67, .ref m0a68, .ref m0a69, .ref m0a70, .ref m0a71, .ref m0a72, .ref m0a73, .ref m0a74, .ref m0a75, .long 0])), (m0a24, .inl (cI g, 100, .inl (upd f_m0a24 0 0))), (m0a25, .inl (cI g, 100, .inl (upd f_m0a25 0 0))), (m0a26, .inl (cI g, 100, .inl (upd f_m0a26 0 v0)))] H := hP
  have hD : va_D A [(m0, .inr (12, [.int 0, .ref m0a1, .int 0, .long 0, .int 0, .ref m0a5, .ref m0a6, .ref m0a7, .ref m0a8, .ref m0a9, .int 0, .ref m0a11, .ref m0a12, .ref m0a13, .ref m0a14, .ref m0a15, .ref m0a16, .int 0, .ref m0a18, .ref m0a19, .ref m0a20, .ref m0a21, .ref m0a22, .int 0, .ref m0a24, .ref m0a25, .ref m0a26, .int 0, .ref m0a28, .ref m0a29, .ref m0a30, .ref m0a31, .int 0, .ref m0a33, .ref m0a34, .ref m0a35, .ref m0a36, .ref m0a37, .ref m0a38, .ref m0a39, .ref m0a40, .ref m0a41, .ref m0a42, .ref m0a43, .ref m0a44, .ref m0a45, .ref m0a46, .ref m0a47, .int 0, .ref m0a49, .ref m0a50, .ref m0a51, .int 0, .ref m0a53, .ref m0a54, .ref m0a55, .ref m0a56, .ref m0a57, .ref m0a58, .ref m0a59, .ref m0a60, .ref m0a61, .ref m0a62, .ref m0a63, .long 0, .int 0, .int (-9), .ref m0a67, .ref m0a68, .ref m0a69, .ref m0a70, .ref m0a71, .ref m0a72, .ref m0a73, .ref m0a74, .ref m0a75, .long 0])), (m0a24, .inl (cI g, 100, .inl (upd f_m0a24 0 0))), (m0a25, .inl (cI g, 100, .inl (upd f_m0a25 0 0))), (m0a26, .inl (cI g, 100, .inl (upd f_m0a26 0 v0)))] := hD
  refine lv_aload_n hx hb dX12_tell_33 rfl (lv_at hl 0 rfl) ?_
  refine lv_dup hx hb dX12_tell_34 rfl ?_
  refine va_get (D := g.1) (ci := 12) (v := .int 0) (C := RX12) (T := TX12) (N := 77) hx hb hts fw_X12 hown hK hP 0 rfl rfl 23 (by decide) (hts _ q_1489) (fun _ h9 => h9) rfl dX12_tell_35 ?_
  refine lv_iconst (v := 1) hx hb dX12_tell_38 (by decide) ?_
  refine lv_iadd hx hb dX12_tell_39 ?_
  refine lv_topk (v := 1) (by decide) ?_
  refine va_put (D := g.1) (ci := 12) (v := .int 1) (ty := .int) (C := RX12) (T := TX12) (N := 77) hx hb hts fw_X12 tyX12 tyX12_ok nmX12 hown hK hP hD hS 0 rfl rfl 23 (by decide) (hts _ q_1489) (fun _ h9 => h9) rfl (by decide +kernel) rfl rfl (Nat.le_of_ble_eq_true rfl) dX12_tell_40 (fun H locs hP hD hS => ?_)
  have hP : va_P g.1 classes [(m0, .inr (12, [.int 0, .ref m0a1, .int 0, .long 0, .int 0, .ref m0a5, .ref m0a6, .ref m0a7, .ref m0a8, .ref m0a9, .int 0, .ref m0a11, .ref m0a12, .ref m0a13, .ref m0a14, .ref m0a15, .ref m0a16, .int 0, .ref m0a18, .ref m0a19, .ref m0a20, .ref m0a21, .ref m0a22, .int 1, .ref m0a24, .ref m0a25, .ref m0a26, .int 0, .ref m0a28, .ref m0a29, .ref m0a30, .ref m0a31, .int 0, .ref m0a33, .ref m0a34, .ref m0a35, .ref m0a36, .ref m0a37, .ref m0a38, .ref m0a39, .ref m0a40, .ref m0a41, .ref m0a42, .ref m0a43, .ref m0a44, .ref m0a45, .ref m0a46, .ref m0a47, .int 0, .ref m0a49, .ref m0a50, .ref m0a51, .int 0, .ref m0a53, .ref m0a54, .ref m0a55, .ref m0a56, .ref m0a57, .ref m0a58, .ref m0a59, .ref m0a60, .ref m0a61, .ref m0a62, .ref m0a63, .long 0, .int 0, .int (-9), .ref m0a67, .ref m0a68, .ref m0a69, .ref m0a70, .ref m0a71, .ref m0a72, .ref m0a73, .ref m0a74, .ref m0a75, .long 0])), (m0a24, .inl (cI g, 100, .inl (upd f_m0a24 0 0))), (m0a25, .inl (cI g, 100, .inl (upd f_m0a25 0 0))), (m0a26, .inl (cI g, 100, .inl (upd f_m0a26 0 v0)))] H := hP
  have hD : va_D A [(m0, .inr (12, [.int 0, .ref m0a1, .int 0, .long 0, .int 0, .ref m0a5, .ref m0a6, .ref m0a7, .ref m0a8, .ref m0a9, .int 0, .ref m0a11, .ref m0a12, .ref m0a13, .ref m0a14, .ref m0a15, .ref m0a16, .int 0, .ref m0a18, .ref m0a19, .ref m0a20, .ref m0a21, .ref m0a22, .int 1, .ref m0a24, .ref m0a25, .ref m0a26, .int 0, .ref m0a28, .ref m0a29, .ref m0a30, .ref m0a31, .int 0, .ref m0a33, .ref m0a34, .ref m0a35, .ref m0a36, .ref m0a37, .ref m0a38, .ref m0a39, .ref m0a40, .ref m0a41, .ref m0a42, .ref m0a43, .ref m0a44, .ref m0a45, .ref m0a46, .ref m0a47, .int 0, .ref m0a49, .ref m0a50, .ref m0a51, .int 0, .ref m0a53, .ref m0a54, .ref m0a55, .ref m0a56, .ref m0a57, .ref m0a58, .ref m0a59, .ref m0a60, .ref m0a61, .ref m0a62, .ref m0a63, .long 0, .int 0, .int (-9), .ref m0a67, .ref m0a68, .ref m0a69, .ref m0a70, .ref m0a71, .ref m0a72, .ref m0a73, .ref m0a74, .ref m0a75, .long 0])), (m0a24, .inl (cI g, 100, .inl (upd f_m0a24 0 0))), (m0a25, .inl (cI g, 100, .inl (upd f_m0a25 0 0))), (m0a26, .inl (cI g, 100, .inl (upd f_m0a26 0 v0)))] := hD
  exact rV X hK hP hD hS dX12_tell_43 (Nat.le_of_ble_eq_true rfl) (Nat.le_of_ble_eq_true rfl) (by show (_ : va_W) = _; unfold sp_X12_tell; try rfl)
