set_option maxRecDepth 200000 in
theorem w_380 : Cond.fieldLink "CityRoad$Rehousing" 15 "CityRoad$Rehousing" "prices" "[I" ∈ tb := tb_mem 380 (by decide +kernel) rfl
set_option maxRecDepth 200000 in
theorem w_1153 : Cond.methodLink "CityRoad$Rehousing" 89 yX3_steps ∈ tb := tb_mem 1153 (by decide +kernel) rfl
set_option maxRecDepth 200000 in
theorem w_1147 : Cond.methodLink "CityRoad$Rehousing" 82 yX5_number ∈ tb := tb_mem 1147 (by decide +kernel) rfl
set_option maxRecDepth 200000 in
theorem w_1148 : Cond.methodLink "CityRoad$Rehousing" 83 yX5_homeOf ∈ tb := tb_mem 1148 (by decide +kernel) rfl
set_option maxRecDepth 200000 in
theorem w_1152 : Cond.code yX5_workOf cX5_workOf 2 (some .int) ∈ tb := tb_mem 1152 (by rfl) rfl
set_option maxRecDepth 200000 in
theorem w_1150 : Cond.instanceMethod yX5_workOf ∈ tb := tb_mem 1150 (by decide +kernel) rfl
set_option maxRecDepth 200000 in
theorem w_1151 : Cond.selects "CityRoad$Persons" yX5_workOf yX5_workOf ∈ tb := tb_mem 1151 (by decide +kernel) rfl
set_option maxRecDepth 200000 in
theorem w_1149 : Cond.methodLink "CityRoad$Rehousing" 86 yX5_workOf ∈ tb := tb_mem 1149 (by decide +kernel) rfl
set_option maxRecDepth 200000 in
theorem w_1162 : Cond.code yX6_price cX6_price 3 (some .int) ∈ tb := tb_mem 1162 (by rfl) rfl
set_option maxRecDepth 200000 in
theorem w_100 : Cond.initialized "CityRoad$Rehousing" ∈ tb := tb_mem 100 (by decide +kernel) rfl
set_option maxRecDepth 200000 in
theorem w_1161 : Cond.instanceMethod yX6_price ∈ tb := tb_mem 1161 (by decide +kernel) rfl
set_option maxRecDepth 200000 in
theorem w_16 : Cond.selects "CityRoad$Rehousing" yX6_price yX6_price ∈ tb := tb_mem 16 (by decide +kernel) rfl
set_option maxRecDepth 200000 in
theorem w_1159 : Cond.methodLink "CityRoad$Rehousing" 62 yX6_price ∈ tb := tb_mem 1159 (by decide +kernel) rfl
set_option maxRecDepth 200000 in
theorem w_384 : Cond.fieldLink "CityRoad$Rehousing" 28 "CityRoad$Rehousing" "least" "[I" ∈ tb := tb_mem 384 (by decide +kernel) rfl
set_option maxRecDepth 200000 in
theorem w_385 : Cond.fieldLink "CityRoad$Rehousing" 31 "CityRoad$Rehousing" "comer" "[I" ∈ tb := tb_mem 385 (by decide +kernel) rfl
set_option maxRecDepth 200000 in
theorem w_383 : Cond.fieldLink "CityRoad$Rehousing" 25 "CityRoad$Rehousing" "at" "[I" ∈ tb := tb_mem 383 (by decide +kernel) rfl
set_option maxRecDepth 200000 in
theorem w_1170 : Cond.code yX6_cheapestWithRoom cX6_cheapestWithRoom 3 (some .int) ∈ tb := tb_mem 1170 (by rfl) rfl
set_option maxRecDepth 200000 in
theorem w_1169 : Cond.instanceMethod yX6_cheapestWithRoom ∈ tb := tb_mem 1169 (by decide +kernel) rfl
set_option maxRecDepth 200000 in
theorem w_18 : Cond.selects "CityRoad$Rehousing" yX6_cheapestWithRoom yX6_cheapestWithRoom ∈ tb := tb_mem 18 (by decide +kernel) rfl
set_option maxRecDepth 200000 in
theorem w_1167 : Cond.methodLink "CityRoad$Rehousing" 96 yX6_cheapestWithRoom ∈ tb := tb_mem 1167 (by decide +kernel) rfl
set_option maxRecDepth 200000 in
theorem w_1166 : Cond.code yX6_relax cX6_relax 6 (some .boolean) ∈ tb := tb_mem 1166 (by rfl) rfl
set_option maxRecDepth 200000 in
theorem w_1165 : Cond.instanceMethod yX6_relax ∈ tb := tb_mem 1165 (by decide +kernel) rfl
set_option maxRecDepth 200000 in
theorem w_17 : Cond.selects "CityRoad$Rehousing" yX6_relax yX6_relax ∈ tb := tb_mem 17 (by decide +kernel) rfl
set_option maxRecDepth 200000 in
theorem w_1163 : Cond.methodLink "CityRoad$Rehousing" 92 yX6_relax ∈ tb := tb_mem 1163 (by decide +kernel) rfl
set_option maxRecDepth 200000 in
theorem w_378 : Cond.fieldLink "CityRoad$Rehousing" 59 "CityRoad$Rehousing" "sum" "I" ∈ tb := tb_mem 378 (by decide +kernel) rfl
set_option maxRecDepth 200000 in
theorem w_1158 : Cond.code yX6_insert cX6_insert 6 none ∈ tb := tb_mem 1158 (by rfl) rfl
set_option maxRecDepth 200000 in
theorem w_1157 : Cond.instanceMethod yX6_insert ∈ tb := tb_mem 1157 (by decide +kernel) rfl
set_option maxRecDepth 200000 in
theorem w_15 : Cond.selects "CityRoad$Rehousing" yX6_insert yX6_insert ∈ tb := tb_mem 15 (by decide +kernel) rfl
set_option maxRecDepth 200000 in
theorem w_1155 : Cond.methodLink "CityRoad$Rehousing" 55 yX6_insert ∈ tb := tb_mem 1155 (by decide +kernel) rfl
set_option maxRecDepth 200000 in
theorem w_1138 : Cond.code yX6_listHouses cX6_listHouses 7 (some .int) ∈ tb := tb_mem 1138 (by rfl) rfl
set_option maxRecDepth 200000 in
theorem w_1137 : Cond.instanceMethod yX6_listHouses ∈ tb := tb_mem 1137 (by decide +kernel) rfl
set_option maxRecDepth 200000 in
theorem w_13 : Cond.selects "CityRoad$Rehousing" yX6_listHouses yX6_listHouses ∈ tb := tb_mem 13 (by decide +kernel) rfl
set_option maxRecDepth 200000 in
theorem w_1135 : Cond.methodLink "CityRoad$Rehousing" 34 yX6_listHouses ∈ tb := tb_mem 1135 (by decide +kernel) rfl
set_option maxRecDepth 200000 in
theorem w_1146 : Cond.code yX6_listPeople cX6_listPeople 10 (some .int) ∈ tb := tb_mem 1146 (by rfl) rfl
set_option maxRecDepth 200000 in
theorem w_1145 : Cond.instanceMethod yX6_listPeople ∈ tb := tb_mem 1145 (by decide +kernel) rfl
set_option maxRecDepth 200000 in
theorem w_14 : Cond.selects "CityRoad$Rehousing" yX6_listPeople yX6_listPeople ∈ tb := tb_mem 14 (by decide +kernel) rfl
set_option maxRecDepth 200000 in
theorem w_1143 : Cond.methodLink "CityRoad$Rehousing" 38 yX6_listPeople ∈ tb := tb_mem 1143 (by decide +kernel) rfl
set_option maxRecDepth 200000 in
theorem w_1154 : Cond.methodLink "CityRoad$Rehousing" 46 Lib.Math.max.name ∈ tb := tb_mem 1154 (by decide +kernel) rfl
set_option maxRecDepth 200000 in
theorem w_376 : Cond.fieldLink "CityRoad$Rehousing" 52 "CityRoad$Rehousing" "led" "I" ∈ tb := tb_mem 376 (by decide +kernel) rfl
set_option maxRecDepth 200000 in
theorem w_467 : Cond.fieldLink "CityRoad" 73 "CityRoad" "rehousing" "LCityRoad$Rehousing;" ∈ tb := tb_mem 467 (by decide +kernel) rfl
set_option maxRecDepth 200000 in
theorem w_1134 : Cond.code yX6_lead cX6_lead 8 none ∈ tb := tb_mem 1134 (by rfl) rfl
set_option maxRecDepth 200000 in
theorem w_1132 : Cond.instanceMethod yX6_lead ∈ tb := tb_mem 1132 (by decide +kernel) rfl
set_option maxRecDepth 200000 in
theorem w_1133 : Cond.selects "CityRoad$Rehousing" yX6_lead yX6_lead ∈ tb := tb_mem 1133 (by decide +kernel) rfl
set_option maxRecDepth 200000 in
theorem w_1131 : Cond.methodLink "CityRoad" 369 yX6_lead ∈ tb := tb_mem 1131 (by decide +kernel) rfl
set_option maxRecDepth 200000 in
theorem w_379 : Cond.fieldLink "CityRoad" 373 "CityRoad$Rehousing" "sum" "I" ∈ tb := tb_mem 379 (by decide +kernel) rfl
set_option maxRecDepth 200000 in
theorem w_377 : Cond.fieldLink "CityRoad" 376 "CityRoad$Rehousing" "led" "I" ∈ tb := tb_mem 377 (by decide +kernel) rfl
set_option maxRecDepth 200000 in
theorem w_739 : Cond.methodLink "CityRoad" 201 yX5_trait ∈ tb := tb_mem 739 (by decide +kernel) rfl
set_option maxRecDepth 200000 in
theorem w_785 : Cond.methodLink "CityRoad" 215 yX7_deciding ∈ tb := tb_mem 785 (by decide +kernel) rfl
theorem gdX5_workOf_0 : decode cX5_workOf 0 = .ok (.aload_n 0, 1) := by decide +kernel
theorem gdX5_workOf_1 : decode cX5_workOf 1 = .ok (.getfield 15, 3) := by decide +kernel
theorem gdX5_workOf_4 : decode cX5_workOf 4 = .ok (.iload_n 1, 1) := by decide +kernel
theorem gdX5_workOf_5 : decode cX5_workOf 5 = .ok (.iaload, 1) := by decide +kernel
theorem gdX5_workOf_6 : decode cX5_workOf 6 = .ok (.ireturn, 1) := by decide +kernel
theorem gdX6_listPeople_133 : decode cX6_listPeople 133 = .ok (.iload 5, 2) := by decide +kernel
theorem gdX6_listPeople_135 : decode cX6_listPeople 135 = .ok (.ireturn, 1) := by decide +kernel
theorem gdX6_listPeople_127 : decode cX6_listPeople 127 = .ok (.iinc 6 1, 3) := by decide +kernel
theorem gdX6_listPeople_130 : decode cX6_listPeople 130 = .ok (.goto (-124), 3) := by decide +kernel
theorem gdX6_listPeople_108 : decode cX6_listPeople 108 = .ok (.aload_n 0, 1) := by decide +kernel
theorem gdX6_listPeople_109 : decode cX6_listPeople 109 = .ok (.getfield 15, 3) := by decide +kernel
theorem gdX6_listPeople_112 : decode cX6_listPeople 112 = .ok (.iload 5, 2) := by decide +kernel
theorem gdX6_listPeople_114 : decode cX6_listPeople 114 = .ok (.bipush 33, 2) := by decide +kernel
theorem gdX6_listPeople_116 : decode cX6_listPeople 116 = .ok (.imul, 1) := by decide +kernel
theorem gdX6_listPeople_117 : decode cX6_listPeople 117 = .ok (.aload_n 0, 1) := by decide +kernel
theorem gdX6_listPeople_118 : decode cX6_listPeople 118 = .ok (.getfield 42, 3) := by decide +kernel
theorem gdX6_listPeople_121 : decode cX6_listPeople 121 = .ok (.iadd, 1) := by decide +kernel
theorem gdX6_listPeople_122 : decode cX6_listPeople 122 = .ok (.iconst 0, 1) := by decide +kernel
theorem gdX6_listPeople_123 : decode cX6_listPeople 123 = .ok (.iastore, 1) := by decide +kernel
theorem gdX6_listPeople_124 : decode cX6_listPeople 124 = .ok (.iinc 5 1, 3) := by decide +kernel
theorem gdX6_listPeople_101 : decode cX6_listPeople 101 = .ok (.iastore, 1) := by decide +kernel
theorem gdX6_listPeople_102 : decode cX6_listPeople 102 = .ok (.iinc 9 1, 3) := by decide +kernel
theorem gdX6_listPeople_105 : decode cX6_listPeople 105 = .ok (.goto (-48), 3) := by decide +kernel
theorem gdX6_listPeople_57 : decode cX6_listPeople 57 = .ok (.iload 9, 2) := by decide +kernel
theorem gdX6_listPeople_59 : decode cX6_listPeople 59 = .ok (.aload_n 0, 1) := by decide +kernel
theorem gdX6_listPeople_60 : decode cX6_listPeople 60 = .ok (.getfield 42, 3) := by decide +kernel
theorem gdX6_listPeople_63 : decode cX6_listPeople 63 = .ok (.if_icmp .ge 45, 3) := by decide +kernel
theorem gdX6_listPeople_66 : decode cX6_listPeople 66 = .ok (.aload_n 0, 1) := by decide +kernel
theorem gdX6_listPeople_67 : decode cX6_listPeople 67 = .ok (.getfield 15, 3) := by decide +kernel
theorem gdX6_listPeople_70 : decode cX6_listPeople 70 = .ok (.iload 5, 2) := by decide +kernel
theorem gdX6_listPeople_72 : decode cX6_listPeople 72 = .ok (.bipush 33, 2) := by decide +kernel
theorem gdX6_listPeople_74 : decode cX6_listPeople 74 = .ok (.imul, 1) := by decide +kernel
theorem gdX6_listPeople_75 : decode cX6_listPeople 75 = .ok (.iload 9, 2) := by decide +kernel
theorem gdX6_listPeople_77 : decode cX6_listPeople 77 = .ok (.iadd, 1) := by decide +kernel
theorem gdX6_listPeople_78 : decode cX6_listPeople 78 = .ok (.iload 8, 2) := by decide +kernel
theorem gdX6_listPeople_80 : decode cX6_listPeople 80 = .ok (.bipush (-9), 2) := by decide +kernel
theorem gdX6_listPeople_82 : decode cX6_listPeople 82 = .ok (.if_icmp .ne 7, 3) := by decide +kernel
theorem gdX6_listPeople_89 : decode cX6_listPeople 89 = .ok (.aload_n 0, 1) := by decide +kernel
theorem gdX6_listPeople_90 : decode cX6_listPeople 90 = .ok (.getfield 22, 3) := by decide +kernel
theorem gdX6_listPeople_93 : decode cX6_listPeople 93 = .ok (.iload 9, 2) := by decide +kernel
theorem gdX6_listPeople_95 : decode cX6_listPeople 95 = .ok (.iaload, 1) := by decide +kernel
theorem gdX6_listPeople_96 : decode cX6_listPeople 96 = .ok (.iload 8, 2) := by decide +kernel
theorem gdX6_listPeople_98 : decode cX6_listPeople 98 = .ok (.invokestatic 89, 3) := by decide +kernel
theorem gdX6_listPeople_85 : decode cX6_listPeople 85 = .ok (.iconst 0, 1) := by decide +kernel
theorem gdX6_listPeople_86 : decode cX6_listPeople 86 = .ok (.goto 15, 3) := by decide +kernel
theorem gdX6_listPeople_6 : decode cX6_listPeople 6 = .ok (.iload 6, 2) := by decide +kernel
theorem gdX6_listPeople_8 : decode cX6_listPeople 8 = .ok (.aload_n 2, 1) := by decide +kernel
theorem gdX6_listPeople_9 : decode cX6_listPeople 9 = .ok (.invokevirtual 82, 3) := by decide +kernel
theorem gdX6_listPeople_12 : decode cX6_listPeople 12 = .ok (.if_icmp .ge 121, 3) := by decide +kernel
theorem gdX6_listPeople_15 : decode cX6_listPeople 15 = .ok (.aload_n 2, 1) := by decide +kernel
theorem gdX6_listPeople_16 : decode cX6_listPeople 16 = .ok (.iload 6, 2) := by decide +kernel
theorem gdX6_listPeople_18 : decode cX6_listPeople 18 = .ok (.invokevirtual 83, 3) := by decide +kernel
theorem gdX6_listPeople_21 : decode cX6_listPeople 21 = .ok (.istore 7, 2) := by decide +kernel
theorem gdX6_listPeople_23 : decode cX6_listPeople 23 = .ok (.iload 7, 2) := by decide +kernel
theorem gdX6_listPeople_25 : decode cX6_listPeople 25 = .ok (.bipush (-9), 2) := by decide +kernel
theorem gdX6_listPeople_27 : decode cX6_listPeople 27 = .ok (.if_icmp .eq 100, 3) := by decide +kernel
theorem gdX6_listPeople_30 : decode cX6_listPeople 30 = .ok (.lload_n 3, 1) := by decide +kernel
theorem gdX6_listPeople_31 : decode cX6_listPeople 31 = .ok (.aload_n 1, 1) := by decide +kernel
theorem gdX6_listPeople_32 : decode cX6_listPeople 32 = .ok (.iload 7, 2) := by decide +kernel
theorem gdX6_listPeople_34 : decode cX6_listPeople 34 = .ok (.invokevirtual 73, 3) := by decide +kernel
theorem gdX6_listPeople_37 : decode cX6_listPeople 37 = .ok (.invokestatic 76, 3) := by decide +kernel
theorem gdX6_listPeople_40 : decode cX6_listPeople 40 = .ok (.ifCond .ne 6, 3) := by decide +kernel
theorem gdX6_listPeople_46 : decode cX6_listPeople 46 = .ok (.aload_n 2, 1) := by decide +kernel
theorem gdX6_listPeople_47 : decode cX6_listPeople 47 = .ok (.iload 6, 2) := by decide +kernel
theorem gdX6_listPeople_49 : decode cX6_listPeople 49 = .ok (.invokevirtual 86, 3) := by decide +kernel
theorem gdX6_listPeople_52 : decode cX6_listPeople 52 = .ok (.istore 8, 2) := by decide +kernel
theorem gdX6_listPeople_54 : decode cX6_listPeople 54 = .ok (.iconst 0, 1) := by decide +kernel
theorem gdX6_listPeople_55 : decode cX6_listPeople 55 = .ok (.istore 9, 2) := by decide +kernel
theorem gdX6_listPeople_43 : decode cX6_listPeople 43 = .ok (.goto 84, 3) := by decide +kernel
theorem gdX6_listPeople_0 : decode cX6_listPeople 0 = .ok (.iconst 0, 1) := by decide +kernel
theorem gdX6_listPeople_1 : decode cX6_listPeople 1 = .ok (.istore 5, 2) := by decide +kernel
theorem gdX6_listPeople_3 : decode cX6_listPeople 3 = .ok (.iconst 0, 1) := by decide +kernel
theorem gdX6_listPeople_4 : decode cX6_listPeople 4 = .ok (.istore 6, 2) := by decide +kernel
theorem gdX6_price_0 : decode cX6_price 0 = .ok (.aload_n 0, 1) := by decide +kernel
theorem gdX6_price_1 : decode cX6_price 1 = .ok (.getfield 15, 3) := by decide +kernel
theorem gdX6_price_4 : decode cX6_price 4 = .ok (.iload_n 1, 1) := by decide +kernel
theorem gdX6_price_5 : decode cX6_price 5 = .ok (.bipush 33, 2) := by decide +kernel
theorem gdX6_price_7 : decode cX6_price 7 = .ok (.imul, 1) := by decide +kernel
theorem gdX6_price_8 : decode cX6_price 8 = .ok (.iload_n 2, 1) := by decide +kernel
theorem gdX6_price_9 : decode cX6_price 9 = .ok (.iadd, 1) := by decide +kernel
theorem gdX6_price_10 : decode cX6_price 10 = .ok (.iaload, 1) := by decide +kernel
theorem gdX6_price_11 : decode cX6_price 11 = .ok (.ireturn, 1) := by decide +kernel
theorem gdX6_relax_108 : decode cX6_relax 108 = .ok (.iload_n 2, 1) := by decide +kernel
theorem gdX6_relax_109 : decode cX6_relax 109 = .ok (.ireturn, 1) := by decide +kernel
theorem gdX6_relax_102 : decode cX6_relax 102 = .ok (.iinc 3 1, 3) := by decide +kernel
theorem gdX6_relax_105 : decode cX6_relax 105 = .ok (.goto (-101), 3) := by decide +kernel
theorem gdX6_relax_96 : decode cX6_relax 96 = .ok (.iinc 5 1, 3) := by decide +kernel
theorem gdX6_relax_99 : decode cX6_relax 99 = .ok (.goto (-62), 3) := by decide +kernel
theorem gdX6_relax_37 : decode cX6_relax 37 = .ok (.iload 5, 2) := by decide +kernel
theorem gdX6_relax_39 : decode cX6_relax 39 = .ok (.aload_n 0, 1) := by decide +kernel
theorem gdX6_relax_40 : decode cX6_relax 40 = .ok (.getfield 42, 3) := by decide +kernel
theorem gdX6_relax_43 : decode cX6_relax 43 = .ok (.if_icmp .gt 59, 3) := by decide +kernel
theorem gdX6_relax_46 : decode cX6_relax 46 = .ok (.iload 4, 2) := by decide +kernel
theorem gdX6_relax_48 : decode cX6_relax 48 = .ok (.aload_n 0, 1) := by decide +kernel
theorem gdX6_relax_49 : decode cX6_relax 49 = .ok (.iload_n 3, 1) := by decide +kernel
theorem gdX6_relax_50 : decode cX6_relax 50 = .ok (.iload 5, 2) := by decide +kernel
theorem gdX6_relax_52 : decode cX6_relax 52 = .ok (.invokevirtual 62, 3) := by decide +kernel
theorem gdX6_relax_55 : decode cX6_relax 55 = .ok (.iadd, 1) := by decide +kernel
theorem gdX6_relax_56 : decode cX6_relax 56 = .ok (.aload_n 0, 1) := by decide +kernel
theorem gdX6_relax_57 : decode cX6_relax 57 = .ok (.getfield 28, 3) := by decide +kernel
theorem gdX6_relax_60 : decode cX6_relax 60 = .ok (.iload 5, 2) := by decide +kernel
theorem gdX6_relax_62 : decode cX6_relax 62 = .ok (.iaload, 1) := by decide +kernel
theorem gdX6_relax_63 : decode cX6_relax 63 = .ok (.if_icmp .lt 6, 3) := by decide +kernel
theorem gdX6_relax_69 : decode cX6_relax 69 = .ok (.aload_n 0, 1) := by decide +kernel
theorem gdX6_relax_70 : decode cX6_relax 70 = .ok (.getfield 28, 3) := by decide +kernel
theorem gdX6_relax_73 : decode cX6_relax 73 = .ok (.iload 5, 2) := by decide +kernel
theorem gdX6_relax_75 : decode cX6_relax 75 = .ok (.iload 4, 2) := by decide +kernel
theorem gdX6_relax_77 : decode cX6_relax 77 = .ok (.aload_n 0, 1) := by decide +kernel
theorem gdX6_relax_78 : decode cX6_relax 78 = .ok (.iload_n 3, 1) := by decide +kernel
theorem gdX6_relax_79 : decode cX6_relax 79 = .ok (.iload 5, 2) := by decide +kernel
theorem gdX6_relax_81 : decode cX6_relax 81 = .ok (.invokevirtual 62, 3) := by decide +kernel
theorem gdX6_relax_84 : decode cX6_relax 84 = .ok (.iadd, 1) := by decide +kernel
theorem gdX6_relax_85 : decode cX6_relax 85 = .ok (.iastore, 1) := by decide +kernel
theorem gdX6_relax_86 : decode cX6_relax 86 = .ok (.aload_n 0, 1) := by decide +kernel
theorem gdX6_relax_87 : decode cX6_relax 87 = .ok (.getfield 31, 3) := by decide +kernel
theorem gdX6_relax_90 : decode cX6_relax 90 = .ok (.iload 5, 2) := by decide +kernel
theorem gdX6_relax_92 : decode cX6_relax 92 = .ok (.iload_n 3, 1) := by decide +kernel
theorem gdX6_relax_93 : decode cX6_relax 93 = .ok (.iastore, 1) := by decide +kernel
theorem gdX6_relax_94 : decode cX6_relax 94 = .ok (.iconst 1, 1) := by decide +kernel
theorem gdX6_relax_95 : decode cX6_relax 95 = .ok (.istore_n 2, 1) := by decide +kernel
theorem gdX6_relax_66 : decode cX6_relax 66 = .ok (.goto 30, 3) := by decide +kernel
theorem gdX6_relax_4 : decode cX6_relax 4 = .ok (.iload_n 3, 1) := by decide +kernel
theorem gdX6_relax_5 : decode cX6_relax 5 = .ok (.iload_n 1, 1) := by decide +kernel
theorem gdX6_relax_6 : decode cX6_relax 6 = .ok (.if_icmp .ge 102, 3) := by decide +kernel
theorem gdX6_relax_9 : decode cX6_relax 9 = .ok (.aload_n 0, 1) := by decide +kernel
theorem gdX6_relax_10 : decode cX6_relax 10 = .ok (.getfield 28, 3) := by decide +kernel
theorem gdX6_relax_13 : decode cX6_relax 13 = .ok (.aload_n 0, 1) := by decide +kernel
theorem gdX6_relax_14 : decode cX6_relax 14 = .ok (.getfield 25, 3) := by decide +kernel
theorem gdX6_relax_17 : decode cX6_relax 17 = .ok (.iload_n 3, 1) := by decide +kernel
theorem gdX6_relax_18 : decode cX6_relax 18 = .ok (.iaload, 1) := by decide +kernel
theorem gdX6_relax_19 : decode cX6_relax 19 = .ok (.iaload, 1) := by decide +kernel
theorem gdX6_relax_20 : decode cX6_relax 20 = .ok (.aload_n 0, 1) := by decide +kernel
theorem gdX6_relax_21 : decode cX6_relax 21 = .ok (.iload_n 3, 1) := by decide +kernel
theorem gdX6_relax_22 : decode cX6_relax 22 = .ok (.aload_n 0, 1) := by decide +kernel
theorem gdX6_relax_23 : decode cX6_relax 23 = .ok (.getfield 25, 3) := by decide +kernel
theorem gdX6_relax_26 : decode cX6_relax 26 = .ok (.iload_n 3, 1) := by decide +kernel
theorem gdX6_relax_27 : decode cX6_relax 27 = .ok (.iaload, 1) := by decide +kernel
theorem gdX6_relax_28 : decode cX6_relax 28 = .ok (.invokevirtual 62, 3) := by decide +kernel
theorem gdX6_relax_31 : decode cX6_relax 31 = .ok (.isub, 1) := by decide +kernel
theorem gdX6_relax_32 : decode cX6_relax 32 = .ok (.istore 4, 2) := by decide +kernel
theorem gdX6_relax_34 : decode cX6_relax 34 = .ok (.iconst 0, 1) := by decide +kernel
theorem gdX6_relax_35 : decode cX6_relax 35 = .ok (.istore 5, 2) := by decide +kernel
theorem gdX6_relax_0 : decode cX6_relax 0 = .ok (.iconst 0, 1) := by decide +kernel
theorem gdX6_relax_1 : decode cX6_relax 1 = .ok (.istore_n 2, 1) := by decide +kernel
theorem gdX6_relax_2 : decode cX6_relax 2 = .ok (.iconst 0, 1) := by decide +kernel
theorem gdX6_relax_3 : decode cX6_relax 3 = .ok (.istore_n 3, 1) := by decide +kernel
theorem gdX6_cheapestWithRoom_57 : decode cX6_cheapestWithRoom 57 = .ok (.iload_n 1, 1) := by decide +kernel
theorem gdX6_cheapestWithRoom_58 : decode cX6_cheapestWithRoom 58 = .ok (.ireturn, 1) := by decide +kernel
theorem gdX6_cheapestWithRoom_51 : decode cX6_cheapestWithRoom 51 = .ok (.iinc 2 1, 3) := by decide +kernel
theorem gdX6_cheapestWithRoom_54 : decode cX6_cheapestWithRoom 54 = .ok (.goto (-47), 3) := by decide +kernel
theorem gdX6_cheapestWithRoom_49 : decode cX6_cheapestWithRoom 49 = .ok (.iload_n 2, 1) := by decide +kernel
theorem gdX6_cheapestWithRoom_50 : decode cX6_cheapestWithRoom 50 = .ok (.istore_n 1, 1) := by decide +kernel
theorem gdX6_cheapestWithRoom_7 : decode cX6_cheapestWithRoom 7 = .ok (.iload_n 2, 1) := by decide +kernel
theorem gdX6_cheapestWithRoom_8 : decode cX6_cheapestWithRoom 8 = .ok (.aload_n 0, 1) := by decide +kernel
theorem gdX6_cheapestWithRoom_9 : decode cX6_cheapestWithRoom 9 = .ok (.getfield 42, 3) := by decide +kernel
theorem gdX6_cheapestWithRoom_12 : decode cX6_cheapestWithRoom 12 = .ok (.if_icmp .ge 45, 3) := by decide +kernel
theorem gdX6_cheapestWithRoom_15 : decode cX6_cheapestWithRoom 15 = .ok (.aload_n 0, 1) := by decide +kernel
theorem gdX6_cheapestWithRoom_16 : decode cX6_cheapestWithRoom 16 = .ok (.getfield 19, 3) := by decide +kernel
theorem gdX6_cheapestWithRoom_19 : decode cX6_cheapestWithRoom 19 = .ok (.iload_n 2, 1) := by decide +kernel
theorem gdX6_cheapestWithRoom_20 : decode cX6_cheapestWithRoom 20 = .ok (.iaload, 1) := by decide +kernel
theorem gdX6_cheapestWithRoom_21 : decode cX6_cheapestWithRoom 21 = .ok (.ifCond .le 30, 3) := by decide +kernel
theorem gdX6_cheapestWithRoom_24 : decode cX6_cheapestWithRoom 24 = .ok (.aload_n 0, 1) := by decide +kernel
theorem gdX6_cheapestWithRoom_25 : decode cX6_cheapestWithRoom 25 = .ok (.getfield 19, 3) := by decide +kernel
theorem gdX6_cheapestWithRoom_28 : decode cX6_cheapestWithRoom 28 = .ok (.iload_n 1, 1) := by decide +kernel
theorem gdX6_cheapestWithRoom_29 : decode cX6_cheapestWithRoom 29 = .ok (.iaload, 1) := by decide +kernel
theorem gdX6_cheapestWithRoom_30 : decode cX6_cheapestWithRoom 30 = .ok (.iconst 1, 1) := by decide +kernel
theorem gdX6_cheapestWithRoom_31 : decode cX6_cheapestWithRoom 31 = .ok (.if_icmp .lt 18, 3) := by decide +kernel
theorem gdX6_cheapestWithRoom_34 : decode cX6_cheapestWithRoom 34 = .ok (.aload_n 0, 1) := by decide +kernel
theorem gdX6_cheapestWithRoom_35 : decode cX6_cheapestWithRoom 35 = .ok (.getfield 28, 3) := by decide +kernel
theorem gdX6_cheapestWithRoom_38 : decode cX6_cheapestWithRoom 38 = .ok (.iload_n 2, 1) := by decide +kernel
theorem gdX6_cheapestWithRoom_39 : decode cX6_cheapestWithRoom 39 = .ok (.iaload, 1) := by decide +kernel
theorem gdX6_cheapestWithRoom_40 : decode cX6_cheapestWithRoom 40 = .ok (.aload_n 0, 1) := by decide +kernel
theorem gdX6_cheapestWithRoom_41 : decode cX6_cheapestWithRoom 41 = .ok (.getfield 28, 3) := by decide +kernel
theorem gdX6_cheapestWithRoom_44 : decode cX6_cheapestWithRoom 44 = .ok (.iload_n 1, 1) := by decide +kernel
theorem gdX6_cheapestWithRoom_45 : decode cX6_cheapestWithRoom 45 = .ok (.iaload, 1) := by decide +kernel
theorem gdX6_cheapestWithRoom_46 : decode cX6_cheapestWithRoom 46 = .ok (.if_icmp .ge 5, 3) := by decide +kernel
theorem gdX6_cheapestWithRoom_0 : decode cX6_cheapestWithRoom 0 = .ok (.aload_n 0, 1) := by decide +kernel
theorem gdX6_cheapestWithRoom_1 : decode cX6_cheapestWithRoom 1 = .ok (.getfield 42, 3) := by decide +kernel
theorem gdX6_cheapestWithRoom_4 : decode cX6_cheapestWithRoom 4 = .ok (.istore_n 1, 1) := by decide +kernel
theorem gdX6_cheapestWithRoom_5 : decode cX6_cheapestWithRoom 5 = .ok (.iconst 0, 1) := by decide +kernel
theorem gdX6_cheapestWithRoom_6 : decode cX6_cheapestWithRoom 6 = .ok (.istore_n 2, 1) := by decide +kernel
theorem gdX6_insert_130 : decode cX6_insert 130 = .ok (.return_, 1) := by decide +kernel
theorem gdX6_insert_118 : decode cX6_insert 118 = .ok (.goto 12, 3) := by decide +kernel
theorem gdX6_insert_79 : decode cX6_insert 79 = .ok (.iload_n 3, 1) := by decide +kernel
theorem gdX6_insert_80 : decode cX6_insert 80 = .ok (.aload_n 0, 1) := by decide +kernel
theorem gdX6_insert_81 : decode cX6_insert 81 = .ok (.getfield 42, 3) := by decide +kernel
theorem gdX6_insert_84 : decode cX6_insert 84 = .ok (.if_icmp .gt 46, 3) := by decide +kernel
theorem gdX6_insert_87 : decode cX6_insert 87 = .ok (.aload_n 0, 1) := by decide +kernel
theorem gdX6_insert_88 : decode cX6_insert 88 = .ok (.getfield 31, 3) := by decide +kernel
theorem gdX6_insert_91 : decode cX6_insert 91 = .ok (.iload_n 2, 1) := by decide +kernel
theorem gdX6_insert_92 : decode cX6_insert 92 = .ok (.iaload, 1) := by decide +kernel
theorem gdX6_insert_93 : decode cX6_insert 93 = .ok (.istore 4, 2) := by decide +kernel
theorem gdX6_insert_95 : decode cX6_insert 95 = .ok (.aload_n 0, 1) := by decide +kernel
theorem gdX6_insert_96 : decode cX6_insert 96 = .ok (.getfield 25, 3) := by decide +kernel
theorem gdX6_insert_99 : decode cX6_insert 99 = .ok (.iload 4, 2) := by decide +kernel
theorem gdX6_insert_101 : decode cX6_insert 101 = .ok (.iaload, 1) := by decide +kernel
theorem gdX6_insert_102 : decode cX6_insert 102 = .ok (.istore 5, 2) := by decide +kernel
theorem gdX6_insert_104 : decode cX6_insert 104 = .ok (.aload_n 0, 1) := by decide +kernel
theorem gdX6_insert_105 : decode cX6_insert 105 = .ok (.getfield 25, 3) := by decide +kernel
theorem gdX6_insert_108 : decode cX6_insert 108 = .ok (.iload 4, 2) := by decide +kernel
theorem gdX6_insert_110 : decode cX6_insert 110 = .ok (.iload_n 2, 1) := by decide +kernel
theorem gdX6_insert_111 : decode cX6_insert 111 = .ok (.iastore, 1) := by decide +kernel
theorem gdX6_insert_112 : decode cX6_insert 112 = .ok (.iload 4, 2) := by decide +kernel
theorem gdX6_insert_114 : decode cX6_insert 114 = .ok (.iload_n 1, 1) := by decide +kernel
theorem gdX6_insert_115 : decode cX6_insert 115 = .ok (.if_icmp .ne 6, 3) := by decide +kernel
theorem gdX6_insert_121 : decode cX6_insert 121 = .ok (.iload 5, 2) := by decide +kernel
theorem gdX6_insert_123 : decode cX6_insert 123 = .ok (.istore_n 2, 1) := by decide +kernel
theorem gdX6_insert_124 : decode cX6_insert 124 = .ok (.iinc 3 1, 3) := by decide +kernel
theorem gdX6_insert_127 : decode cX6_insert 127 = .ok (.goto (-48), 3) := by decide +kernel
theorem gdX6_insert_62 : decode cX6_insert 62 = .ok (.aload_n 0, 1) := by decide +kernel
theorem gdX6_insert_63 : decode cX6_insert 63 = .ok (.invokevirtual 96, 3) := by decide +kernel
theorem gdX6_insert_66 : decode cX6_insert 66 = .ok (.istore_n 2, 1) := by decide +kernel
theorem gdX6_insert_67 : decode cX6_insert 67 = .ok (.aload_n 0, 1) := by decide +kernel
theorem gdX6_insert_68 : decode cX6_insert 68 = .ok (.getfield 19, 3) := by decide +kernel
theorem gdX6_insert_71 : decode cX6_insert 71 = .ok (.iload_n 2, 1) := by decide +kernel
theorem gdX6_insert_72 : decode cX6_insert 72 = .ok (.dup2, 1) := by decide +kernel
theorem gdX6_insert_73 : decode cX6_insert 73 = .ok (.iaload, 1) := by decide +kernel
theorem gdX6_insert_74 : decode cX6_insert 74 = .ok (.iconst 1, 1) := by decide +kernel
theorem gdX6_insert_75 : decode cX6_insert 75 = .ok (.isub, 1) := by decide +kernel
theorem gdX6_insert_76 : decode cX6_insert 76 = .ok (.iastore, 1) := by decide +kernel
theorem gdX6_insert_77 : decode cX6_insert 77 = .ok (.iconst 0, 1) := by decide +kernel
theorem gdX6_insert_78 : decode cX6_insert 78 = .ok (.istore_n 3, 1) := by decide +kernel
theorem gdX6_insert_53 : decode cX6_insert 53 = .ok (.goto 9, 3) := by decide +kernel
theorem gdX6_insert_37 : decode cX6_insert 37 = .ok (.iload_n 2, 1) := by decide +kernel
theorem gdX6_insert_38 : decode cX6_insert 38 = .ok (.aload_n 0, 1) := by decide +kernel
theorem gdX6_insert_39 : decode cX6_insert 39 = .ok (.getfield 42, 3) := by decide +kernel
theorem gdX6_insert_42 : decode cX6_insert 42 = .ok (.if_icmp .gt 20, 3) := by decide +kernel
theorem gdX6_insert_45 : decode cX6_insert 45 = .ok (.aload_n 0, 1) := by decide +kernel
theorem gdX6_insert_46 : decode cX6_insert 46 = .ok (.iload_n 1, 1) := by decide +kernel
theorem gdX6_insert_47 : decode cX6_insert 47 = .ok (.invokevirtual 92, 3) := by decide +kernel
theorem gdX6_insert_50 : decode cX6_insert 50 = .ok (.ifCond .ne 6, 3) := by decide +kernel
theorem gdX6_insert_56 : decode cX6_insert 56 = .ok (.iinc 2 1, 3) := by decide +kernel
theorem gdX6_insert_59 : decode cX6_insert 59 = .ok (.goto (-22), 3) := by decide +kernel
theorem gdX6_insert_35 : decode cX6_insert 35 = .ok (.iconst 0, 1) := by decide +kernel
theorem gdX6_insert_36 : decode cX6_insert 36 = .ok (.istore_n 2, 1) := by decide +kernel
theorem gdX6_insert_2 : decode cX6_insert 2 = .ok (.iload_n 2, 1) := by decide +kernel
theorem gdX6_insert_3 : decode cX6_insert 3 = .ok (.aload_n 0, 1) := by decide +kernel
theorem gdX6_insert_4 : decode cX6_insert 4 = .ok (.getfield 42, 3) := by decide +kernel
theorem gdX6_insert_7 : decode cX6_insert 7 = .ok (.if_icmp .gt 28, 3) := by decide +kernel
theorem gdX6_insert_10 : decode cX6_insert 10 = .ok (.aload_n 0, 1) := by decide +kernel
theorem gdX6_insert_11 : decode cX6_insert 11 = .ok (.getfield 28, 3) := by decide +kernel
theorem gdX6_insert_14 : decode cX6_insert 14 = .ok (.iload_n 2, 1) := by decide +kernel
theorem gdX6_insert_15 : decode cX6_insert 15 = .ok (.aload_n 0, 1) := by decide +kernel
theorem gdX6_insert_16 : decode cX6_insert 16 = .ok (.iload_n 1, 1) := by decide +kernel
theorem gdX6_insert_17 : decode cX6_insert 17 = .ok (.iload_n 2, 1) := by decide +kernel
theorem gdX6_insert_18 : decode cX6_insert 18 = .ok (.invokevirtual 62, 3) := by decide +kernel
theorem gdX6_insert_21 : decode cX6_insert 21 = .ok (.iastore, 1) := by decide +kernel
theorem gdX6_insert_22 : decode cX6_insert 22 = .ok (.aload_n 0, 1) := by decide +kernel
theorem gdX6_insert_23 : decode cX6_insert 23 = .ok (.getfield 31, 3) := by decide +kernel
theorem gdX6_insert_26 : decode cX6_insert 26 = .ok (.iload_n 2, 1) := by decide +kernel
theorem gdX6_insert_27 : decode cX6_insert 27 = .ok (.iload_n 1, 1) := by decide +kernel
theorem gdX6_insert_28 : decode cX6_insert 28 = .ok (.iastore, 1) := by decide +kernel
theorem gdX6_insert_29 : decode cX6_insert 29 = .ok (.iinc 2 1, 3) := by decide +kernel
theorem gdX6_insert_32 : decode cX6_insert 32 = .ok (.goto (-30), 3) := by decide +kernel
theorem gdX6_insert_0 : decode cX6_insert 0 = .ok (.iconst 0, 1) := by decide +kernel
theorem gdX6_insert_1 : decode cX6_insert 1 = .ok (.istore_n 2, 1) := by decide +kernel
theorem gdX6_lead_116 : decode cX6_lead 116 = .ok (.return_, 1) := by decide +kernel
theorem gdX6_lead_81 : decode cX6_lead 81 = .ok (.iload 7, 2) := by decide +kernel
theorem gdX6_lead_83 : decode cX6_lead 83 = .ok (.iload 6, 2) := by decide +kernel
theorem gdX6_lead_85 : decode cX6_lead 85 = .ok (.if_icmp .ge 31, 3) := by decide +kernel
theorem gdX6_lead_88 : decode cX6_lead 88 = .ok (.aload_n 0, 1) := by decide +kernel
theorem gdX6_lead_89 : decode cX6_lead 89 = .ok (.dup, 1) := by decide +kernel
theorem gdX6_lead_90 : decode cX6_lead 90 = .ok (.getfield 59, 3) := by decide +kernel
theorem gdX6_lead_93 : decode cX6_lead 93 = .ok (.aload_n 0, 1) := by decide +kernel
theorem gdX6_lead_94 : decode cX6_lead 94 = .ok (.iload 7, 2) := by decide +kernel
theorem gdX6_lead_96 : decode cX6_lead 96 = .ok (.aload_n 0, 1) := by decide +kernel
theorem gdX6_lead_97 : decode cX6_lead 97 = .ok (.getfield 25, 3) := by decide +kernel
theorem gdX6_lead_100 : decode cX6_lead 100 = .ok (.iload 7, 2) := by decide +kernel
theorem gdX6_lead_102 : decode cX6_lead 102 = .ok (.iaload, 1) := by decide +kernel
theorem gdX6_lead_103 : decode cX6_lead 103 = .ok (.invokevirtual 62, 3) := by decide +kernel
theorem gdX6_lead_106 : decode cX6_lead 106 = .ok (.iadd, 1) := by decide +kernel
theorem gdX6_lead_107 : decode cX6_lead 107 = .ok (.putfield 59, 3) := by decide +kernel
theorem gdX6_lead_110 : decode cX6_lead 110 = .ok (.iinc 7 1, 3) := by decide +kernel
theorem gdX6_lead_113 : decode cX6_lead 113 = .ok (.goto (-32), 3) := by decide +kernel
theorem gdX6_lead_73 : decode cX6_lead 73 = .ok (.aload_n 0, 1) := by decide +kernel
theorem gdX6_lead_74 : decode cX6_lead 74 = .ok (.iconst 0, 1) := by decide +kernel
theorem gdX6_lead_75 : decode cX6_lead 75 = .ok (.putfield 59, 3) := by decide +kernel
theorem gdX6_lead_78 : decode cX6_lead 78 = .ok (.iconst 0, 1) := by decide +kernel
theorem gdX6_lead_79 : decode cX6_lead 79 = .ok (.istore 7, 2) := by decide +kernel
theorem gdX6_lead_54 : decode cX6_lead 54 = .ok (.iload 7, 2) := by decide +kernel
theorem gdX6_lead_56 : decode cX6_lead 56 = .ok (.iload 6, 2) := by decide +kernel
theorem gdX6_lead_58 : decode cX6_lead 58 = .ok (.if_icmp .ge 15, 3) := by decide +kernel
theorem gdX6_lead_61 : decode cX6_lead 61 = .ok (.aload_n 0, 1) := by decide +kernel
theorem gdX6_lead_62 : decode cX6_lead 62 = .ok (.iload 7, 2) := by decide +kernel
theorem gdX6_lead_64 : decode cX6_lead 64 = .ok (.invokevirtual 55, 3) := by decide +kernel
theorem gdX6_lead_67 : decode cX6_lead 67 = .ok (.iinc 7 1, 3) := by decide +kernel
theorem gdX6_lead_70 : decode cX6_lead 70 = .ok (.goto (-16), 3) := by decide +kernel
theorem gdX6_lead_0 : decode cX6_lead 0 = .ok (.aload_n 0, 1) := by decide +kernel
theorem gdX6_lead_1 : decode cX6_lead 1 = .ok (.aload_n 1, 1) := by decide +kernel
theorem gdX6_lead_2 : decode cX6_lead 2 = .ok (.lload_n 3, 1) := by decide +kernel
theorem gdX6_lead_3 : decode cX6_lead 3 = .ok (.invokevirtual 34, 3) := by decide +kernel
theorem gdX6_lead_6 : decode cX6_lead 6 = .ok (.istore 5, 2) := by decide +kernel
theorem gdX6_lead_8 : decode cX6_lead 8 = .ok (.aload_n 0, 1) := by decide +kernel
theorem gdX6_lead_9 : decode cX6_lead 9 = .ok (.aload_n 1, 1) := by decide +kernel
theorem gdX6_lead_10 : decode cX6_lead 10 = .ok (.aload_n 2, 1) := by decide +kernel
theorem gdX6_lead_11 : decode cX6_lead 11 = .ok (.lload_n 3, 1) := by decide +kernel
theorem gdX6_lead_12 : decode cX6_lead 12 = .ok (.invokevirtual 38, 3) := by decide +kernel
theorem gdX6_lead_15 : decode cX6_lead 15 = .ok (.istore 6, 2) := by decide +kernel
theorem gdX6_lead_17 : decode cX6_lead 17 = .ok (.aload_n 0, 1) := by decide +kernel
theorem gdX6_lead_18 : decode cX6_lead 18 = .ok (.getfield 19, 3) := by decide +kernel
theorem gdX6_lead_21 : decode cX6_lead 21 = .ok (.aload_n 0, 1) := by decide +kernel
theorem gdX6_lead_22 : decode cX6_lead 22 = .ok (.getfield 42, 3) := by decide +kernel
theorem gdX6_lead_25 : decode cX6_lead 25 = .ok (.iconst 0, 1) := by decide +kernel
theorem gdX6_lead_26 : decode cX6_lead 26 = .ok (.iload 6, 2) := by decide +kernel
theorem gdX6_lead_28 : decode cX6_lead 28 = .ok (.iload 5, 2) := by decide +kernel
theorem gdX6_lead_30 : decode cX6_lead 30 = .ok (.isub, 1) := by decide +kernel
theorem gdX6_lead_31 : decode cX6_lead 31 = .ok (.invokestatic 46, 3) := by decide +kernel
theorem gdX6_lead_34 : decode cX6_lead 34 = .ok (.iastore, 1) := by decide +kernel
theorem gdX6_lead_35 : decode cX6_lead 35 = .ok (.aload_n 0, 1) := by decide +kernel
theorem gdX6_lead_36 : decode cX6_lead 36 = .ok (.iload 6, 2) := by decide +kernel
theorem gdX6_lead_38 : decode cX6_lead 38 = .ok (.aload_n 0, 1) := by decide +kernel
theorem gdX6_lead_39 : decode cX6_lead 39 = .ok (.getfield 19, 3) := by decide +kernel
theorem gdX6_lead_42 : decode cX6_lead 42 = .ok (.aload_n 0, 1) := by decide +kernel
theorem gdX6_lead_43 : decode cX6_lead 43 = .ok (.getfield 42, 3) := by decide +kernel
theorem gdX6_lead_46 : decode cX6_lead 46 = .ok (.iaload, 1) := by decide +kernel
theorem gdX6_lead_47 : decode cX6_lead 47 = .ok (.isub, 1) := by decide +kernel
theorem gdX6_lead_48 : decode cX6_lead 48 = .ok (.putfield 52, 3) := by decide +kernel
theorem gdX6_lead_51 : decode cX6_lead 51 = .ok (.iconst 0, 1) := by decide +kernel
theorem gdX6_lead_52 : decode cX6_lead 52 = .ok (.istore 7, 2) := by decide +kernel
theorem gdX11_whither_0 : decode cX11_whither 0 = .ok (.aload_n 0, 1) := by decide +kernel
theorem gdX11_whither_1 : decode cX11_whither 1 = .ok (.getfield 52, 3) := by decide +kernel
theorem gdX11_whither_4 : decode cX11_whither 4 = .ok (.iload_n 1, 1) := by decide +kernel
theorem gdX11_whither_5 : decode cX11_whither 5 = .ok (.invokevirtual 250, 3) := by decide +kernel
theorem gdX11_whither_8 : decode cX11_whither 8 = .ok (.ifCond .ne 5, 3) := by decide +kernel
theorem gdX11_whither_13 : decode cX11_whither 13 = .ok (.aload_n 0, 1) := by decide +kernel
theorem gdX11_whither_14 : decode cX11_whither 14 = .ok (.getfield 52, 3) := by decide +kernel
theorem gdX11_whither_17 : decode cX11_whither 17 = .ok (.iload_n 1, 1) := by decide +kernel
theorem gdX11_whither_18 : decode cX11_whither 18 = .ok (.iconst 1, 1) := by decide +kernel
theorem gdX11_whither_19 : decode cX11_whither 19 = .ok (.invokevirtual 251, 3) := by decide +kernel
theorem gdX11_whither_22 : decode cX11_whither 22 = .ok (.ifCond .ne 9, 3) := by decide +kernel
theorem gdX11_whither_31 : decode cX11_whither 31 = .ok (.aload_n 0, 1) := by decide +kernel
theorem gdX11_whither_32 : decode cX11_whither 32 = .ok (.getfield 73, 3) := by decide +kernel
theorem gdX11_whither_35 : decode cX11_whither 35 = .ok (.aload_n 0, 1) := by decide +kernel
theorem gdX11_whither_36 : decode cX11_whither 36 = .ok (.getfield 33, 3) := by decide +kernel
theorem gdX11_whither_39 : decode cX11_whither 39 = .ok (.aload_n 0, 1) := by decide +kernel
theorem gdX11_whither_40 : decode cX11_whither 40 = .ok (.getfield 40, 3) := by decide +kernel
theorem gdX11_whither_43 : decode cX11_whither 43 = .ok (.aload_n 0, 1) := by decide +kernel
theorem gdX11_whither_44 : decode cX11_whither 44 = .ok (.getfield 52, 3) := by decide +kernel
theorem gdX11_whither_47 : decode cX11_whither 47 = .ok (.iload_n 1, 1) := by decide +kernel
theorem gdX11_whither_48 : decode cX11_whither 48 = .ok (.invokevirtual 254, 3) := by decide +kernel
theorem gdX11_whither_51 : decode cX11_whither 51 = .ok (.invokevirtual 369, 3) := by decide +kernel
theorem gdX11_whither_54 : decode cX11_whither 54 = .ok (.aload_n 0, 1) := by decide +kernel
theorem gdX11_whither_55 : decode cX11_whither 55 = .ok (.aload_n 0, 1) := by decide +kernel
theorem gdX11_whither_56 : decode cX11_whither 56 = .ok (.getfield 73, 3) := by decide +kernel
theorem gdX11_whither_59 : decode cX11_whither 59 = .ok (.getfield 373, 3) := by decide +kernel
theorem gdX11_whither_62 : decode cX11_whither 62 = .ok (.invokevirtual 117, 3) := by decide +kernel
theorem gdX11_whither_65 : decode cX11_whither 65 = .ok (.pop, 1) := by decide +kernel
theorem gdX11_whither_66 : decode cX11_whither 66 = .ok (.aload_n 0, 1) := by decide +kernel
theorem gdX11_whither_67 : decode cX11_whither 67 = .ok (.getfield 73, 3) := by decide +kernel
theorem gdX11_whither_70 : decode cX11_whither 70 = .ok (.getfield 376, 3) := by decide +kernel
theorem gdX11_whither_73 : decode cX11_whither 73 = .ok (.ireturn, 1) := by decide +kernel
theorem gdX11_whither_25 : decode cX11_whither 25 = .ok (.aload_n 0, 1) := by decide +kernel
theorem gdX11_whither_26 : decode cX11_whither 26 = .ok (.iconst 3, 1) := by decide +kernel
theorem gdX11_whither_27 : decode cX11_whither 27 = .ok (.invokevirtual 99, 3) := by decide +kernel
theorem gdX11_whither_30 : decode cX11_whither 30 = .ok (.ireturn, 1) := by decide +kernel
theorem gdX11_whither_11 : decode cX11_whither 11 = .ok (.iconst (-1), 1) := by decide +kernel
theorem gdX11_whither_12 : decode cX11_whither 12 = .ok (.ireturn, 1) := by decide +kernel
theorem gdX11_who_20 : decode cX11_who 20 = .ok (.iconst (-1), 1) := by decide +kernel
theorem gdX11_who_21 : decode cX11_who 21 = .ok (.ireturn, 1) := by decide +kernel
theorem gdX11_who_0 : decode cX11_who 0 = .ok (.aload_n 0, 1) := by decide +kernel
theorem gdX11_who_1 : decode cX11_who 1 = .ok (.getfield 40, 3) := by decide +kernel
theorem gdX11_who_4 : decode cX11_who 4 = .ok (.iload_n 1, 1) := by decide +kernel
theorem gdX11_who_5 : decode cX11_who 5 = .ok (.invokevirtual 200, 3) := by decide +kernel
theorem gdX11_who_8 : decode cX11_who 8 = .ok (.ifCond .eq 12, 3) := by decide +kernel
theorem gdX11_who_11 : decode cX11_who 11 = .ok (.iload_n 2, 1) := by decide +kernel
theorem gdX11_who_12 : decode cX11_who 12 = .ok (.ifCond .lt 8, 3) := by decide +kernel
theorem gdX11_who_15 : decode cX11_who 15 = .ok (.iload_n 2, 1) := by decide +kernel
theorem gdX11_who_16 : decode cX11_who 16 = .ok (.iconst 3, 1) := by decide +kernel
theorem gdX11_who_17 : decode cX11_who 17 = .ok (.if_icmp .le 5, 3) := by decide +kernel
theorem gdX11_who_22 : decode cX11_who 22 = .ok (.aload_n 0, 1) := by decide +kernel
theorem gdX11_who_23 : decode cX11_who 23 = .ok (.aload_n 0, 1) := by decide +kernel
theorem gdX11_who_24 : decode cX11_who 24 = .ok (.getfield 40, 3) := by decide +kernel
theorem gdX11_who_27 : decode cX11_who 27 = .ok (.iload_n 1, 1) := by decide +kernel
theorem gdX11_who_28 : decode cX11_who 28 = .ok (.iload_n 2, 1) := by decide +kernel
theorem gdX11_who_29 : decode cX11_who 29 = .ok (.invokevirtual 201, 3) := by decide +kernel
theorem gdX11_who_32 : decode cX11_who 32 = .ok (.invokevirtual 117, 3) := by decide +kernel
theorem gdX11_who_35 : decode cX11_who 35 = .ok (.ireturn, 1) := by decide +kernel
theorem gdX11_why_21 : decode cX11_why 21 = .ok (.iconst (-1), 1) := by decide +kernel
theorem gdX11_why_22 : decode cX11_why 22 = .ok (.ireturn, 1) := by decide +kernel
theorem gdX11_why_0 : decode cX11_why 0 = .ok (.iload_n 1, 1) := by decide +kernel
theorem gdX11_why_1 : decode cX11_why 1 = .ok (.invokestatic 209, 3) := by decide +kernel
theorem gdX11_why_4 : decode cX11_why 4 = .ok (.ifCond .eq 17, 3) := by decide +kernel
theorem gdX11_why_7 : decode cX11_why 7 = .ok (.iload_n 2, 1) := by decide +kernel
theorem gdX11_why_8 : decode cX11_why 8 = .ok (.invokestatic 180, 3) := by decide +kernel
theorem gdX11_why_11 : decode cX11_why 11 = .ok (.ifCond .eq 10, 3) := by decide +kernel
theorem gdX11_why_14 : decode cX11_why 14 = .ok (.iload_n 3, 1) := by decide +kernel
theorem gdX11_why_15 : decode cX11_why 15 = .ok (.invokestatic 180, 3) := by decide +kernel
theorem gdX11_why_18 : decode cX11_why 18 = .ok (.ifCond .ne 5, 3) := by decide +kernel
theorem gdX11_why_23 : decode cX11_why 23 = .ok (.aload_n 0, 1) := by decide +kernel
theorem gdX11_why_24 : decode cX11_why 24 = .ok (.getfield 45, 3) := by decide +kernel
theorem gdX11_why_27 : decode cX11_why 27 = .ok (.iload_n 1, 1) := by decide +kernel
theorem gdX11_why_28 : decode cX11_why 28 = .ok (.iload_n 2, 1) := by decide +kernel
theorem gdX11_why_29 : decode cX11_why 29 = .ok (.iload_n 3, 1) := by decide +kernel
theorem gdX11_why_30 : decode cX11_why 30 = .ok (.invokevirtual 215, 3) := by decide +kernel
theorem gdX11_why_33 : decode cX11_why 33 = .ok (.ireturn, 1) := by decide +kernel
theorem gdX11_worth_18 : decode cX11_worth 18 = .ok (.iconst (-1), 1) := by decide +kernel
theorem gdX11_worth_19 : decode cX11_worth 19 = .ok (.ireturn, 1) := by decide +kernel
theorem gdX11_worth_0 : decode cX11_worth 0 = .ok (.aload_n 0, 1) := by decide +kernel
theorem gdX11_worth_1 : decode cX11_worth 1 = .ok (.getfield 33, 3) := by decide +kernel
theorem gdX11_worth_4 : decode cX11_worth 4 = .ok (.iload_n 1, 1) := by decide +kernel
theorem gdX11_worth_5 : decode cX11_worth 5 = .ok (.invokevirtual 170, 3) := by decide +kernel
theorem gdX11_worth_8 : decode cX11_worth 8 = .ok (.ifCond .eq 10, 3) := by decide +kernel
theorem gdX11_worth_11 : decode cX11_worth 11 = .ok (.iload_n 2, 1) := by decide +kernel
theorem gdX11_worth_12 : decode cX11_worth 12 = .ok (.invokestatic 153, 3) := by decide +kernel
theorem gdX11_worth_15 : decode cX11_worth 15 = .ok (.ifCond .ne 5, 3) := by decide +kernel
theorem gdX11_worth_20 : decode cX11_worth 20 = .ok (.aload_n 0, 1) := by decide +kernel
theorem gdX11_worth_21 : decode cX11_worth 21 = .ok (.getfield 33, 3) := by decide +kernel
theorem gdX11_worth_24 : decode cX11_worth 24 = .ok (.iload_n 1, 1) := by decide +kernel
theorem gdX11_worth_25 : decode cX11_worth 25 = .ok (.invokevirtual 171, 3) := by decide +kernel
theorem gdX11_worth_28 : decode cX11_worth 28 = .ok (.ifCond .eq 6, 3) := by decide +kernel
theorem gdX11_worth_34 : decode cX11_worth 34 = .ok (.aload_n 0, 1) := by decide +kernel
theorem gdX11_worth_35 : decode cX11_worth 35 = .ok (.getfield 33, 3) := by decide +kernel
theorem gdX11_worth_38 : decode cX11_worth 38 = .ok (.invokevirtual 160, 3) := by decide +kernel
theorem gdX11_worth_41 : decode cX11_worth 41 = .ok (.iconst 1, 1) := by decide +kernel
theorem gdX11_worth_42 : decode cX11_worth 42 = .ok (.if_icmp .ge 6, 3) := by decide +kernel
theorem gdX11_worth_48 : decode cX11_worth 48 = .ok (.aload_n 0, 1) := by decide +kernel
theorem gdX11_worth_49 : decode cX11_worth 49 = .ok (.getfield 33, 3) := by decide +kernel
theorem gdX11_worth_52 : decode cX11_worth 52 = .ok (.iload_n 1, 1) := by decide +kernel
theorem gdX11_worth_53 : decode cX11_worth 53 = .ok (.invokevirtual 174, 3) := by decide +kernel
theorem gdX11_worth_56 : decode cX11_worth 56 = .ok (.istore_n 3, 1) := by decide +kernel
theorem gdX11_worth_57 : decode cX11_worth 57 = .ok (.aload_n 0, 1) := by decide +kernel
theorem gdX11_worth_58 : decode cX11_worth 58 = .ok (.getfield 33, 3) := by decide +kernel
theorem gdX11_worth_61 : decode cX11_worth 61 = .ok (.iload_n 1, 1) := by decide +kernel
theorem gdX11_worth_62 : decode cX11_worth 62 = .ok (.iload_n 2, 1) := by decide +kernel
theorem gdX11_worth_63 : decode cX11_worth 63 = .ok (.aload_n 0, 1) := by decide +kernel
theorem gdX11_worth_64 : decode cX11_worth 64 = .ok (.getfield 136, 3) := by decide +kernel
theorem gdX11_worth_67 : decode cX11_worth 67 = .ok (.invokevirtual 177, 3) := by decide +kernel
theorem gdX11_worth_70 : decode cX11_worth 70 = .ok (.iload_n 3, 1) := by decide +kernel
theorem gdX11_worth_71 : decode cX11_worth 71 = .ok (.ireturn, 1) := by decide +kernel
theorem gdX11_worth_45 : decode cX11_worth 45 = .ok (.bipush (-2), 2) := by decide +kernel
theorem gdX11_worth_47 : decode cX11_worth 47 = .ok (.ireturn, 1) := by decide +kernel
theorem gdX11_worth_31 : decode cX11_worth 31 = .ok (.bipush (-4), 2) := by decide +kernel
theorem gdX11_worth_33 : decode cX11_worth 33 = .ok (.ireturn, 1) := by decide +kernel
theorem okm_X5_workOf : okM yX5_workOf cX5_workOf 2 (some .int) 1 := ⟨w_1152, w_95, by decide +kernel, by decide +kernel, by decide +kernel⟩
theorem okw_X5_workOf : okV yX5_workOf := ⟨w_1150, w_1151⟩
theorem okm_X6_price : okM yX6_price cX6_price 3 (some .int) 2 := ⟨w_1162, w_100, by decide +kernel, by decide +kernel, by decide +kernel⟩
theorem okw_X6_price : okV yX6_price := ⟨w_1161, w_16⟩
theorem okm_X6_cheapestWithRoom : okM yX6_cheapestWithRoom cX6_cheapestWithRoom 3 (some .int) 0 := ⟨w_1170, w_100, by decide +kernel, by decide +kernel, by decide +kernel⟩
theorem okw_X6_cheapestWithRoom : okV yX6_cheapestWithRoom := ⟨w_1169, w_18⟩
theorem okm_X6_relax : okM yX6_relax cX6_relax 6 (some .boolean) 1 := ⟨w_1166, w_100, by decide +kernel, by decide +kernel, by decide +kernel⟩
theorem okw_X6_relax : okV yX6_relax := ⟨w_1165, w_17⟩
theorem okm_X6_insert : okM yX6_insert cX6_insert 6 none 1 := ⟨w_1158, w_100, by decide +kernel, by decide +kernel, by decide +kernel⟩
theorem okw_X6_insert : okV yX6_insert := ⟨w_1157, w_15⟩
theorem okm_X6_listHouses : okM yX6_listHouses cX6_listHouses 7 (some .int) 2 := ⟨w_1138, w_100, by decide +kernel, by decide +kernel, by decide +kernel⟩
theorem okw_X6_listHouses : okV yX6_listHouses := ⟨w_1137, w_13⟩
theorem okm_X6_listPeople : okM yX6_listPeople cX6_listPeople 10 (some .int) 3 := ⟨w_1146, w_100, by decide +kernel, by decide +kernel, by decide +kernel⟩
theorem okw_X6_listPeople : okV yX6_listPeople := ⟨w_1145, w_14⟩
theorem okm_X6_lead : okM yX6_lead cX6_lead 8 none 3 := ⟨w_1134, w_100, by decide +kernel, by decide +kernel, by decide +kernel⟩
theorem okw_X6_lead : okV yX6_lead := ⟨w_1132, w_1133⟩
set_option maxHeartbeats 4000000 in
set_option maxRecDepth 100000 in
theorem c_X5_workOf (l : Launch) (g : GG) (ad : Nat → Nat) (o : OO) (x1 : Int) (v : Int) (h : s_X5_workOf o x1 = some v) : CI l g yX5_workOf cX5_workOf 2 (some .int) 0 0 (wC g ad o) [.ref (ad 23), iv x1] v (wC g ad o) := by
  refine met_I (by decide) (Nat.le_of_ble_eq_true rfl) ?_
  intro X E hQ
  show Go X 0 (wC g ad o) [(0, .ref (ad 23)), (1, iv x1)] []
  unfold s_X5_workOf at h
  refine g_aload_n E gdX5_workOf_0 rfl 0 rfl ?_
  refine g_get (T := TX5) E fw_X5 23 (wC_23 g ad o) rfl 1 (by decide) w_211 rfl rfl gdX5_workOf_1 ?_
  refine g_iload_n E gdX5_workOf_4 rfl 1 rfl ?_
  obtain ⟨hi1, h⟩ := qIn_of h
  refine g_iald E 25 (wC_25 g ad o) (by decide) hi1 gdX5_workOf_5 ?_
  obtain ⟨n2, e_n2, h⟩ := qNm_of h
  refine g_nmi e_n2 ?_
  exact g_iret E hQ (Option.some.inj h) rfl gdX5_workOf_6
set_option maxHeartbeats 4000000 in
set_option maxRecDepth 100000 in
theorem c_X6_listPeople (l : Launch) (g : GG) (ad : Nat → Nat) (o : OO) (z3 : Int64) (v : Int × OO) (h : s_X6_listPeople o z3 = some v) : CI l g yX6_listPeople cX6_listPeople 10 (some .int) 2 42 (wC g ad o) [.ref (ad 59), .ref (ad 10), .ref (ad 23), .long z3] v.1 (wC g ad v.2) := by
  refine met_I (by decide) (Nat.le_of_ble_eq_true rfl) ?_
  intro X E hQ
  show Go X 0 (wC g ad o) [(0, .ref (ad 59)), (1, .ref (ad 10)), (2, .ref (ad 23)), (3, .long z3)] []
  have j133 : ∀ (o : OO) (x5 : Int), b_X6_listPeople_133 o x5 = some v → Go X 133 (wC g ad o) [(5, iv x5)] [] := by
    intro o x5 h
    unfold b_X6_listPeople_133 at h
    refine g_iload E gdX6_listPeople_133 0 rfl ?_
    exact g_iret E hQ (by rw [← Option.some.inj h]) (by rw [← Option.some.inj h]) gdX6_listPeople_135
  have j127 : ∀ (o : OO) (z3 : Int64) (x5 : Int) (x6 : Int) (v : (OO × Int × Int) ⊕ ((OO × Int))), b_X6_listPeople_127 o z3 x5 x6 = some v → (∀ (o : OO) (x5 : Int) (x6 : Int), v = .inl (o, x5, x6) → Go X 6 (wC g ad o) [(0, .ref (ad 59)), (1, .ref (ad 10)), (2, .ref (ad 23)), (3, .long z3), (5, iv x5), (6, iv x6)] []) → (∀ (o : OO) (x5 : Int), v = .inr ((o, x5)) → Go X 133 (wC g ad o) [(5, iv x5)] []) → Go X 127 (wC g ad o) [(0, .ref (ad 59)), (1, .ref (ad 10)), (2, .ref (ad 23)), (3, .long z3), (5, iv x5), (6, iv x6)] [] := by
    intro o z3 x5 x6 v h k0 k1
    unfold b_X6_listPeople_127 at h
    refine g_iinc E [(6, iv (x6 + 1)), (0, .ref (ad 59)), (1, .ref (ad 10)), (2, .ref (ad 23)), (3, .long z3), (5, iv x5)] gdX6_listPeople_127 5 rfl (by decide) rfl ?_
    refine g_goto E 6 gdX6_listPeople_130 (by decide) ?_
    refine g_sub E [1, 2, 3, 4, 5, 0] rfl ?_
    exact k0 o x5 (x6 + 1) (Option.some.inj h).symm
  have j108 : ∀ (o : OO) (z3 : Int64) (x5 : Int) (x6 : Int) (v : (OO × Int × Int) ⊕ ((OO × Int))), b_X6_listPeople_108 o z3 x5 x6 = some v → (∀ (o : OO) (x5 : Int) (x6 : Int), v = .inl (o, x5, x6) → Go X 6 (wC g ad o) [(0, .ref (ad 59)), (1, .ref (ad 10)), (2, .ref (ad 23)), (3, .long z3), (5, iv x5), (6, iv x6)] []) → (∀ (o : OO) (x5 : Int), v = .inr ((o, x5)) → Go X 133 (wC g ad o) [(5, iv x5)] []) → Go X 108 (wC g ad o) [(0, .ref (ad 59)), (1, .ref (ad 10)), (2, .ref (ad 23)), (3, .long z3), (5, iv x5), (6, iv x6)] [] := by
    intro o z3 x5 x6 v h k0 k1
    unfold b_X6_listPeople_108 at h
    refine g_aload_n E gdX6_listPeople_108 rfl 0 rfl ?_
    refine g_get (T := TX6) E fw_X6 59 (wC_59 g ad o) rfl 2 (by decide) w_380 rfl rfl gdX6_listPeople_109 ?_
    refine g_iload E gdX6_listPeople_112 4 rfl ?_
    refine g_bipush E gdX6_listPeople_114 (by decide) ?_
    refine g_imul E gdX6_listPeople_116 ?_
    refine g_aload_n E gdX6_listPeople_117 rfl 0 rfl ?_
    refine g_get (T := TX6) E fw_X6 59 (wC_59 g ad o) rfl 8 (by decide) w_386 rfl rfl gdX6_listPeople_118 ?_
    refine g_iadd E gdX6_listPeople_121 ?_
    refine g_iconst E gdX6_listPeople_122 ?_
    obtain ⟨hi1, h⟩ := qIn_of h
    obtain ⟨o2, e_o2, h⟩ := qNm_of h
    refine g_iast (ws' := wC g ad o2) E 60 (wC_60 g ad o) (by decide) hi1 (by rw [e_o2]; exact wC_s60 g ad o _ _) gdX6_listPeople_123 ?_
    refine g_iinc E [(5, iv (x5 + 1)), (0, .ref (ad 59)), (1, .ref (ad 10)), (2, .ref (ad 23)), (3, .long z3), (6, iv x6)] gdX6_listPeople_124 4 rfl (by decide) rfl ?_
    refine g_sub E [1, 2, 3, 4, 0, 5] rfl ?_
    exact j127 o2 z3 (x5 + 1) x6 v h k0 k1
  have j101 : ∀ (o : OO) (z3 : Int64) (x5 : Int) (x6 : Int) (x8 : Int) (x9 : Int) (y1 : Int) (y2 : Int) (v : (OO × Int) ⊕ ((OO))), b_X6_listPeople_101 o z3 x5 x6 x8 x9 y1 y2 = some v → (∀ (o : OO) (x9 : Int), v = .inl (o, x9) → Go X 57 (wC g ad o) [(0, .ref (ad 59)), (1, .ref (ad 10)), (2, .ref (ad 23)), (3, .long z3), (5, iv x5), (6, iv x6), (8, iv x8), (9, iv x9)] []) → (∀ (o : OO), v = .inr (o) → Go X 108 (wC g ad o) [(0, .ref (ad 59)), (1, .ref (ad 10)), (2, .ref (ad 23)), (3, .long z3), (5, iv x5), (6, iv x6)] []) → Go X 101 (wC g ad o) [(0, .ref (ad 59)), (1, .ref (ad 10)), (2, .ref (ad 23)), (3, .long z3), (5, iv x5), (6, iv x6), (8, iv x8), (9, iv x9)] [iv y2, iv y1, .ref (ad 60)] := by
    intro o z3 x5 x6 x8 x9 y1 y2 v h k0 k1
    unfold b_X6_listPeople_101 at h
    obtain ⟨hi3, h⟩ := qIn_of h
    obtain ⟨o4, e_o4, h⟩ := qNm_of h
    refine g_iast (ws' := wC g ad o4) E 60 (wC_60 g ad o) (by decide) hi3 (by rw [e_o4]; exact wC_s60 g ad o _ _) gdX6_listPeople_101 ?_
    refine g_iinc E [(9, iv (x9 + 1)), (0, .ref (ad 59)), (1, .ref (ad 10)), (2, .ref (ad 23)), (3, .long z3), (5, iv x5), (6, iv x6), (8, iv x8)] gdX6_listPeople_102 7 rfl (by decide) rfl ?_
    refine g_goto E 57 gdX6_listPeople_105 (by decide) ?_
    refine g_sub E [1, 2, 3, 4, 5, 6, 7, 0] rfl ?_
    exact k0 o4 (x9 + 1) (Option.some.inj h).symm
  have l57 : ∀ (z3 : Int64) (x5 : Int) (x6 : Int) (x8 : Int) (r : (OO)) (s0 : OO × Int), loopW (fun s => l_X6_listPeople_57 z3 x5 x6 x8 s.1 s.2) s0 = some r → (∀ (o : OO), r = (o) → Go X 108 (wC g ad o) [(0, .ref (ad 59)), (1, .ref (ad 10)), (2, .ref (ad 23)), (3, .long z3), (5, iv x5), (6, iv x6)] []) → Go X 57 (wC g ad s0.1) [(0, .ref (ad 59)), (1, .ref (ad 10)), (2, .ref (ad 23)), (3, .long z3), (5, iv x5), (6, iv x6), (8, iv x8), (9, iv s0.2)] [] := by
    intro z3 x5 x6 x8 r s0 h k1
    refine loop_rule (Head := fun s0 => Go X 57 (wC g ad s0.1) [(0, .ref (ad 59)), (1, .ref (ad 10)), (2, .ref (ad 23)), (3, .long z3), (5, iv x5), (6, iv x6), (8, iv x8), (9, iv s0.2)] []) h ?_
    intro s v h kk kx
    obtain ⟨o, x9⟩ := s
    have h : l_X6_listPeople_57 z3 x5 x6 x8 o x9 = some v := h
    have k0 : ∀ (o : OO) (x9 : Int), v = .inl (o, x9) → Go X 57 (wC g ad o) [(0, .ref (ad 59)), (1, .ref (ad 10)), (2, .ref (ad 23)), (3, .long z3), (5, iv x5), (6, iv x6), (8, iv x8), (9, iv x9)] [] := fun o x9 e => kk (o, x9) e
    have k1 : ∀ (o : OO), v = .inr (o) → Go X 108 (wC g ad o) [(0, .ref (ad 59)), (1, .ref (ad 10)), (2, .ref (ad 23)), (3, .long z3), (5, iv x5), (6, iv x6)] [] := fun o e => k1 o (kx _ e).symm
    unfold l_X6_listPeople_57 at h
    refine g_iload E gdX6_listPeople_57 7 rfl ?_
    refine g_aload_n E gdX6_listPeople_59 rfl 0 rfl ?_
    refine g_get (T := TX6) E fw_X6 59 (wC_59 g ad o) rfl 8 (by decide) w_386 rfl rfl gdX6_listPeople_60 ?_
    refine g_icmp_ge E 108 gdX6_listPeople_63 (by decide) h (fun h => ?_) (fun h => ?_)
    ·
      refine g_sub E [0, 1, 2, 3, 4, 5] rfl ?_
      exact k1 o (Option.some.inj h).symm
    ·
      refine g_aload_n E gdX6_listPeople_66 rfl 0 rfl ?_
      refine g_get (T := TX6) E fw_X6 59 (wC_59 g ad o) rfl 2 (by decide) w_380 rfl rfl gdX6_listPeople_67 ?_
      refine g_iload E gdX6_listPeople_70 4 rfl ?_
      refine g_bipush E gdX6_listPeople_72 (by decide) ?_
      refine g_imul E gdX6_listPeople_74 ?_
      refine g_iload E gdX6_listPeople_75 7 rfl ?_
      refine g_iadd E gdX6_listPeople_77 ?_
      refine g_iload E gdX6_listPeople_78 6 rfl ?_
      refine g_bipush E gdX6_listPeople_80 (by decide) ?_
      refine g_icmp_ne E 89 gdX6_listPeople_82 (by decide) h (fun h => ?_) (fun h => ?_)
      ·
        refine g_aload_n E gdX6_listPeople_89 rfl 0 rfl ?_
        refine g_get (T := TX6) E fw_X6 59 (wC_59 g ad o) rfl 4 (by decide) w_382 rfl rfl gdX6_listPeople_90 ?_
        refine g_iload E gdX6_listPeople_93 7 rfl ?_
        obtain ⟨hi5, h⟩ := qIn_of h
        refine g_iald E 62 (wC_62 g ad o) (by decide) hi5 gdX6_listPeople_95 ?_
        obtain ⟨n6, e_n6, h⟩ := qNm_of h
        refine g_nmi e_n6 ?_
        refine g_iload E gdX6_listPeople_96 6 rfl ?_
        obtain ⟨r7, hc8, h⟩ := qB_of h
        refine g_Si (r := r7) (As := [iv n6, iv x8]) (rest := [iv ((x5 * 33) + x9), .ref (ad 60)]) (w := wC g ad o) E (c_X3_steps l g (wC g ad o) n6 x8 r7 hc8) okm_X3_steps w_1036 w_1153 rfl rfl (Nat.le_of_ble_eq_true rfl) ⟨Nat.le_of_ble_eq_true rfl, Nat.le_of_ble_eq_true rfl⟩ gdX6_listPeople_98 ?_
        exact j101 o z3 x5 x6 x8 x9 ((x5 * 33) + x9) r7 v h k0 k1
      ·
        refine g_iconst E gdX6_listPeople_85 ?_
        refine g_goto E 101 gdX6_listPeople_86 (by decide) ?_
        exact j101 o z3 x5 x6 x8 x9 ((x5 * 33) + x9) 0 v h k0 k1
  have j57 : ∀ (o : OO) (z3 : Int64) (x5 : Int) (x6 : Int) (x8 : Int) (x9 : Int) (v : (OO × Int × Int) ⊕ ((OO × Int))), e_X6_listPeople_57 o z3 x5 x6 x8 x9 = some v → (∀ (o : OO) (x5 : Int) (x6 : Int), v = .inl (o, x5, x6) → Go X 6 (wC g ad o) [(0, .ref (ad 59)), (1, .ref (ad 10)), (2, .ref (ad 23)), (3, .long z3), (5, iv x5), (6, iv x6)] []) → (∀ (o : OO) (x5 : Int), v = .inr ((o, x5)) → Go X 133 (wC g ad o) [(5, iv x5)] []) → Go X 57 (wC g ad o) [(0, .ref (ad 59)), (1, .ref (ad 10)), (2, .ref (ad 23)), (3, .long z3), (5, iv x5), (6, iv x6), (8, iv x8), (9, iv x9)] [] := by
    intro o z3 x5 x6 x8 x9 v h k0 k1
    unfold e_X6_listPeople_57 at h
    obtain ⟨r, hr, h⟩ := qB_of h
    refine l57 z3 x5 x6 x8 r _ hr ?_
    ·
      intro u0 e
      have e := e.symm
      subst e
      have h : b_X6_listPeople_108 u0 z3 x5 x6 = some v := h
      exact j108 u0 z3 x5 x6 v h k0 k1
  have l6 : ∀ (z3 : Int64) (r : (OO × Int)) (s0 : OO × Int × Int), loopW (fun s => l_X6_listPeople_6 z3 s.1 s.2.1 s.2.2) s0 = some r → (∀ (o : OO) (x5 : Int), r = ((o, x5)) → Go X 133 (wC g ad o) [(5, iv x5)] []) → Go X 6 (wC g ad s0.1) [(0, .ref (ad 59)), (1, .ref (ad 10)), (2, .ref (ad 23)), (3, .long z3), (5, iv s0.2.1), (6, iv s0.2.2)] [] := by
    intro z3 r s0 h k1
    refine loop_rule (Head := fun s0 => Go X 6 (wC g ad s0.1) [(0, .ref (ad 59)), (1, .ref (ad 10)), (2, .ref (ad 23)), (3, .long z3), (5, iv s0.2.1), (6, iv s0.2.2)] []) h ?_
    intro s v h kk kx
    obtain ⟨o, x5, x6⟩ := s
    have h : l_X6_listPeople_6 z3 o x5 x6 = some v := h
    have k0 : ∀ (o : OO) (x5 : Int) (x6 : Int), v = .inl (o, x5, x6) → Go X 6 (wC g ad o) [(0, .ref (ad 59)), (1, .ref (ad 10)), (2, .ref (ad 23)), (3, .long z3), (5, iv x5), (6, iv x6)] [] := fun o x5 x6 e => kk (o, x5, x6) e
    have k1 : ∀ (o : OO) (x5 : Int), v = .inr ((o, x5)) → Go X 133 (wC g ad o) [(5, iv x5)] [] := fun o x5 e => k1 o x5 (kx _ e).symm
    unfold l_X6_listPeople_6 at h
    refine g_iload E gdX6_listPeople_6 5 rfl ?_
    refine g_aload_n E gdX6_listPeople_8 rfl 2 rfl ?_
    obtain ⟨r9, hc10, h⟩ := qB_of h
    refine g_Vi (r := r9) (As := []) (rest := [iv x6]) (w := wC g ad o) E (c_X5_number l g ad o r9 hc10) okm_X5_number okw_X5_number w_1147 rfl (wC_23 g ad o) rfl rfl (Nat.le_of_ble_eq_true rfl) ⟨Nat.le_of_ble_eq_true rfl, Nat.le_of_ble_eq_true rfl⟩ gdX6_listPeople_9 ?_
    refine g_icmp_ge E 133 gdX6_listPeople_12 (by decide) h (fun h => ?_) (fun h => ?_)
    ·
      refine g_sub E [4] rfl ?_
      exact k1 o x5 (Option.some.inj h).symm
    ·
      refine g_aload_n E gdX6_listPeople_15 rfl 2 rfl ?_
      refine g_iload E gdX6_listPeople_16 5 rfl ?_
      obtain ⟨r11, hc12, h⟩ := qB_of h
      refine g_Vi (r := r11) (As := [iv x6]) (rest := []) (w := wC g ad o) E (c_X5_homeOf l g ad o x6 r11 hc12) okm_X5_homeOf okw_X5_homeOf w_1148 rfl (wC_23 g ad o) rfl rfl (Nat.le_of_ble_eq_true rfl) ⟨Nat.le_of_ble_eq_true rfl, Nat.le_of_ble_eq_true rfl⟩ gdX6_listPeople_18 ?_
      refine g_istore E [(7, iv r11), (0, .ref (ad 59)), (1, .ref (ad 10)), (2, .ref (ad 23)), (3, .long z3), (5, iv x5), (6, iv x6)] gdX6_listPeople_21 (by decide) rfl ?_
      refine g_iload E gdX6_listPeople_23 0 rfl ?_
      refine g_bipush E gdX6_listPeople_25 (by decide) ?_
      refine g_icmp_eq E 127 gdX6_listPeople_27 (by decide) h (fun h => ?_) (fun h => ?_)
      ·
        refine g_sub E [1, 2, 3, 4, 5, 6] rfl ?_
        exact j127 o z3 x5 x6 v h k0 k1
      ·
        refine g_lload_n E gdX6_listPeople_30 rfl 4 rfl ?_
        refine g_aload_n E gdX6_listPeople_31 rfl 2 rfl ?_
        refine g_iload E gdX6_listPeople_32 0 rfl ?_
        obtain ⟨r13, hc14, h⟩ := qB_of h
        refine g_Vi (r := r13) (As := [iv r11]) (rest := [.long z3]) (w := wC g ad o) E (c_X1_cellOfOne l g ad o r11 r13 hc14) okm_X1_cellOfOne okw_X1_cellOfOne w_1141 rfl (wC_10 g ad o) rfl rfl (Nat.le_of_ble_eq_true rfl) ⟨Nat.le_of_ble_eq_true rfl, Nat.le_of_ble_eq_true rfl⟩ gdX6_listPeople_34 ?_
        obtain ⟨r15, hc16, h⟩ := qB_of h
        refine g_Si (r := r15) (As := [.long z3, iv r13]) (rest := []) (w := wC g ad o) E (c_X3_has l g (wC g ad o) z3 r13 r15 hc16) okm_X3_has w_839 w_1142 rfl rfl (Nat.le_of_ble_eq_true rfl) ⟨Nat.le_of_ble_eq_true rfl, Nat.le_of_ble_eq_true rfl⟩ gdX6_listPeople_37 ?_
        refine g_if_ne E 46 gdX6_listPeople_40 (by decide) h (fun h => ?_) (fun h => ?_)
        ·
          refine g_aload_n E gdX6_listPeople_46 rfl 3 rfl ?_
          refine g_iload E gdX6_listPeople_47 6 rfl ?_
          obtain ⟨r17, hc18, h⟩ := qB_of h
          refine g_Vi (r := r17) (As := [iv x6]) (rest := []) (w := wC g ad o) E (c_X5_workOf l g ad o x6 r17 hc18) okm_X5_workOf okw_X5_workOf w_1149 rfl (wC_23 g ad o) rfl rfl (Nat.le_of_ble_eq_true rfl) ⟨Nat.le_of_ble_eq_true rfl, Nat.le_of_ble_eq_true rfl⟩ gdX6_listPeople_49 ?_
          refine g_istore E [(8, iv r17), (7, iv r11), (0, .ref (ad 59)), (1, .ref (ad 10)), (2, .ref (ad 23)), (3, .long z3), (5, iv x5), (6, iv x6)] gdX6_listPeople_52 (by decide) rfl ?_
          refine g_iconst E gdX6_listPeople_54 ?_
          refine g_istore E [(9, iv 0), (8, iv r17), (7, iv r11), (0, .ref (ad 59)), (1, .ref (ad 10)), (2, .ref (ad 23)), (3, .long z3), (5, iv x5), (6, iv x6)] gdX6_listPeople_55 (by decide) rfl ?_
          refine g_sub E [3, 4, 5, 6, 7, 8, 1, 0] rfl ?_
          exact j57 o z3 x5 x6 r17 0 v h k0 k1
        ·
          refine g_goto E 127 gdX6_listPeople_43 (by decide) ?_
          refine g_sub E [1, 2, 3, 4, 5, 6] rfl ?_
          exact j127 o z3 x5 x6 v h k0 k1
  have j6 : ∀ (o : OO) (z3 : Int64) (x5 : Int) (x6 : Int), e_X6_listPeople_6 o z3 x5 x6 = some v → Go X 6 (wC g ad o) [(0, .ref (ad 59)), (1, .ref (ad 10)), (2, .ref (ad 23)), (3, .long z3), (5, iv x5), (6, iv x6)] [] := by
    intro o z3 x5 x6 h
    unfold e_X6_listPeople_6 at h
    obtain ⟨r, hr, h⟩ := qB_of h
    refine l6 z3 r _ hr ?_
    ·
      intro u0 u1 e
      subst e
      have h : b_X6_listPeople_133 u0 u1 = some v := h
      exact j133 u0 u1 h
  unfold s_X6_listPeople at h
  refine g_iconst E gdX6_listPeople_0 ?_
  refine g_istore E [(5, iv 0), (0, .ref (ad 59)), (1, .ref (ad 10)), (2, .ref (ad 23)), (3, .long z3)] gdX6_listPeople_1 (by decide) rfl ?_
  refine g_iconst E gdX6_listPeople_3 ?_
  refine g_istore E [(6, iv 0), (5, iv 0), (0, .ref (ad 59)), (1, .ref (ad 10)), (2, .ref (ad 23)), (3, .long z3)] gdX6_listPeople_4 (by decide) rfl ?_
  refine g_sub E [2, 3, 4, 5, 1, 0] rfl ?_
  exact j6 o z3 0 0 h
set_option maxHeartbeats 4000000 in
set_option maxRecDepth 100000 in
theorem c_X6_price (l : Launch) (g : GG) (ad : Nat → Nat) (o : OO) (x1 : Int) (x2 : Int) (v : Int) (h : s_X6_price o x1 x2 = some v) : CI l g yX6_price cX6_price 3 (some .int) 0 0 (wC g ad o) [.ref (ad 59), iv x1, iv x2] v (wC g ad o) := by
  refine met_I (by decide) (Nat.le_of_ble_eq_true rfl) ?_
  intro X E hQ
  show Go X 0 (wC g ad o) [(0, .ref (ad 59)), (1, iv x1), (2, iv x2)] []
  unfold s_X6_price at h
  refine g_aload_n E gdX6_price_0 rfl 0 rfl ?_
  refine g_get (T := TX6) E fw_X6 59 (wC_59 g ad o) rfl 2 (by decide) w_380 rfl rfl gdX6_price_1 ?_
  refine g_iload_n E gdX6_price_4 rfl 1 rfl ?_
  refine g_bipush E gdX6_price_5 (by decide) ?_
  refine g_imul E gdX6_price_7 ?_
  refine g_iload_n E gdX6_price_8 rfl 2 rfl ?_
  refine g_iadd E gdX6_price_9 ?_
  obtain ⟨hi1, h⟩ := qIn_of h
  refine g_iald E 60 (wC_60 g ad o) (by decide) hi1 gdX6_price_10 ?_
  obtain ⟨n2, e_n2, h⟩ := qNm_of h
  refine g_nmi e_n2 ?_
  exact g_iret E hQ (Option.some.inj h) rfl gdX6_price_11
set_option maxHeartbeats 4000000 in
set_option maxRecDepth 100000 in
theorem c_X6_relax (l : Launch) (g : GG) (ad : Nat → Nat) (o : OO) (x1 : Int) (v : Int × OO) (h : s_X6_relax o x1 = some v) : CI l g yX6_relax cX6_relax 6 (some .boolean) 1 22 (wC g ad o) [.ref (ad 59), iv x1] v.1 (wC g ad v.2) := by
  refine met_I (by decide) (Nat.le_of_ble_eq_true rfl) ?_
  intro X E hQ
  show Go X 0 (wC g ad o) [(0, .ref (ad 59)), (1, iv x1)] []
  have j108 : ∀ (o : OO) (x2 : Int), b_X6_relax_108 o x2 = some v → Go X 108 (wC g ad o) [(2, iv x2)] [] := by
    intro o x2 h
    unfold b_X6_relax_108 at h
    refine g_iload_n E gdX6_relax_108 rfl 0 rfl ?_
    obtain ⟨hz, h⟩ := qZ_of h
    exact g_zret E hQ hz (by rw [← Option.some.inj h]) (by rw [← Option.some.inj h]) gdX6_relax_109
  have j102 : ∀ (o : OO) (x1 : Int) (x2 : Int) (x3 : Int) (v : (OO × Int × Int) ⊕ ((OO × Int))), b_X6_relax_102 o x1 x2 x3 = some v → (∀ (o : OO) (x2 : Int) (x3 : Int), v = .inl (o, x2, x3) → Go X 4 (wC g ad o) [(0, .ref (ad 59)), (1, iv x1), (2, iv x2), (3, iv x3)] []) → (∀ (o : OO) (x2 : Int), v = .inr ((o, x2)) → Go X 108 (wC g ad o) [(2, iv x2)] []) → Go X 102 (wC g ad o) [(0, .ref (ad 59)), (1, iv x1), (2, iv x2), (3, iv x3)] [] := by
    intro o x1 x2 x3 v h k0 k1
    unfold b_X6_relax_102 at h
    refine g_iinc E [(3, iv (x3 + 1)), (0, .ref (ad 59)), (1, iv x1), (2, iv x2)] gdX6_relax_102 3 rfl (by decide) rfl ?_
    refine g_goto E 4 gdX6_relax_105 (by decide) ?_
    refine g_sub E [1, 2, 3, 0] rfl ?_
    exact k0 o x2 (x3 + 1) (Option.some.inj h).symm
  have j96 : ∀ (o : OO) (x1 : Int) (x2 : Int) (x3 : Int) (x4 : Int) (x5 : Int) (v : (OO × Int × Int) ⊕ ((OO × Int))), b_X6_relax_96 o x1 x2 x3 x4 x5 = some v → (∀ (o : OO) (x2 : Int) (x5 : Int), v = .inl (o, x2, x5) → Go X 37 (wC g ad o) [(0, .ref (ad 59)), (1, iv x1), (2, iv x2), (3, iv x3), (4, iv x4), (5, iv x5)] []) → (∀ (o : OO) (x2 : Int), v = .inr ((o, x2)) → Go X 102 (wC g ad o) [(0, .ref (ad 59)), (1, iv x1), (2, iv x2), (3, iv x3)] []) → Go X 96 (wC g ad o) [(0, .ref (ad 59)), (1, iv x1), (2, iv x2), (3, iv x3), (4, iv x4), (5, iv x5)] [] := by
    intro o x1 x2 x3 x4 x5 v h k0 k1
    unfold b_X6_relax_96 at h
    refine g_iinc E [(5, iv (x5 + 1)), (0, .ref (ad 59)), (1, iv x1), (2, iv x2), (3, iv x3), (4, iv x4)] gdX6_relax_96 5 rfl (by decide) rfl ?_
    refine g_goto E 37 gdX6_relax_99 (by decide) ?_
    refine g_sub E [1, 2, 3, 4, 5, 0] rfl ?_
    exact k0 o x2 (x5 + 1) (Option.some.inj h).symm
  have l37 : ∀ (x1 : Int) (x3 : Int) (x4 : Int) (r : (OO × Int)) (s0 : OO × Int × Int), loopW (fun s => l_X6_relax_37 x1 x3 x4 s.1 s.2.1 s.2.2) s0 = some r → (∀ (o : OO) (x2 : Int), r = ((o, x2)) → Go X 102 (wC g ad o) [(0, .ref (ad 59)), (1, iv x1), (2, iv x2), (3, iv x3)] []) → Go X 37 (wC g ad s0.1) [(0, .ref (ad 59)), (1, iv x1), (2, iv s0.2.1), (3, iv x3), (4, iv x4), (5, iv s0.2.2)] [] := by
    intro x1 x3 x4 r s0 h k1
    refine loop_rule (Head := fun s0 => Go X 37 (wC g ad s0.1) [(0, .ref (ad 59)), (1, iv x1), (2, iv s0.2.1), (3, iv x3), (4, iv x4), (5, iv s0.2.2)] []) h ?_
    intro s v h kk kx
    obtain ⟨o, x2, x5⟩ := s
    have h : l_X6_relax_37 x1 x3 x4 o x2 x5 = some v := h
    have k0 : ∀ (o : OO) (x2 : Int) (x5 : Int), v = .inl (o, x2, x5) → Go X 37 (wC g ad o) [(0, .ref (ad 59)), (1, iv x1), (2, iv x2), (3, iv x3), (4, iv x4), (5, iv x5)] [] := fun o x2 x5 e => kk (o, x2, x5) e
    have k1 : ∀ (o : OO) (x2 : Int), v = .inr ((o, x2)) → Go X 102 (wC g ad o) [(0, .ref (ad 59)), (1, iv x1), (2, iv x2), (3, iv x3)] [] := fun o x2 e => k1 o x2 (kx _ e).symm
    unfold l_X6_relax_37 at h
    refine g_iload E gdX6_relax_37 5 rfl ?_
    refine g_aload_n E gdX6_relax_39 rfl 0 rfl ?_
    refine g_get (T := TX6) E fw_X6 59 (wC_59 g ad o) rfl 8 (by decide) w_386 rfl rfl gdX6_relax_40 ?_
    refine g_icmp_gt E 102 gdX6_relax_43 (by decide) h (fun h => ?_) (fun h => ?_)
    ·
      refine g_sub E [0, 1, 2, 3] rfl ?_
      exact k1 o x2 (Option.some.inj h).symm
    ·
      refine g_iload E gdX6_relax_46 4 rfl ?_
      refine g_aload_n E gdX6_relax_48 rfl 0 rfl ?_
      refine g_iload_n E gdX6_relax_49 rfl 3 rfl ?_
      refine g_iload E gdX6_relax_50 5 rfl ?_
      obtain ⟨r1, hc2, h⟩ := qB_of h
      refine g_Vi (r := r1) (As := [iv x3, iv x5]) (rest := [iv x4]) (w := wC g ad o) E (c_X6_price l g ad o x3 x5 r1 hc2) okm_X6_price okw_X6_price w_1159 rfl (wC_59 g ad o) rfl rfl (Nat.le_of_ble_eq_true rfl) ⟨Nat.le_of_ble_eq_true rfl, Nat.le_of_ble_eq_true rfl⟩ gdX6_relax_52 ?_
      refine g_iadd E gdX6_relax_55 ?_
      refine g_aload_n E gdX6_relax_56 rfl 0 rfl ?_
      refine g_get (T := TX6) E fw_X6 59 (wC_59 g ad o) rfl 6 (by decide) w_384 rfl rfl gdX6_relax_57 ?_
      refine g_iload E gdX6_relax_60 5 rfl ?_
      obtain ⟨hi3, h⟩ := qIn_of h
      refine g_iald E 64 (wC_64 g ad o) (by decide) hi3 gdX6_relax_62 ?_
      obtain ⟨n4, e_n4, h⟩ := qNm_of h
      refine g_nmi e_n4 ?_
      refine g_icmp_lt E 69 gdX6_relax_63 (by decide) h (fun h => ?_) (fun h => ?_)
      ·
        refine g_aload_n E gdX6_relax_69 rfl 0 rfl ?_
        refine g_get (T := TX6) E fw_X6 59 (wC_59 g ad o) rfl 6 (by decide) w_384 rfl rfl gdX6_relax_70 ?_
        refine g_iload E gdX6_relax_73 5 rfl ?_
        refine g_iload E gdX6_relax_75 4 rfl ?_
        refine g_aload_n E gdX6_relax_77 rfl 0 rfl ?_
        refine g_iload_n E gdX6_relax_78 rfl 3 rfl ?_
        refine g_iload E gdX6_relax_79 5 rfl ?_
        obtain ⟨r5, hc6, h⟩ := qB_of h
        refine g_Vi (r := r5) (As := [iv x3, iv x5]) (rest := [iv x4, iv x5, .ref (ad 64)]) (w := wC g ad o) E (c_X6_price l g ad o x3 x5 r5 hc6) okm_X6_price okw_X6_price w_1159 rfl (wC_59 g ad o) rfl rfl (Nat.le_of_ble_eq_true rfl) ⟨Nat.le_of_ble_eq_true rfl, Nat.le_of_ble_eq_true rfl⟩ gdX6_relax_81 ?_
        refine g_iadd E gdX6_relax_84 ?_
        obtain ⟨hi7, h⟩ := qIn_of h
        obtain ⟨o8, e_o8, h⟩ := qNm_of h
        refine g_iast (ws' := wC g ad o8) E 64 (wC_64 g ad o) (by decide) hi7 (by rw [e_o8]; exact wC_s64 g ad o _ _) gdX6_relax_85 ?_
        refine g_aload_n E gdX6_relax_86 rfl 0 rfl ?_
        refine g_get (T := TX6) E fw_X6 59 (wC_59 g ad o8) rfl 7 (by decide) w_385 rfl rfl gdX6_relax_87 ?_
        refine g_iload E gdX6_relax_90 5 rfl ?_
        refine g_iload_n E gdX6_relax_92 rfl 3 rfl ?_
        obtain ⟨hi9, h⟩ := qIn_of h
        obtain ⟨o10, e_o10, h⟩ := qNm_of h
        refine g_iast (ws' := wC g ad o10) E 65 (wC_65 g ad o8) (by decide) hi9 (by rw [e_o10]; exact wC_s65 g ad o8 _ _) gdX6_relax_93 ?_
        refine g_iconst E gdX6_relax_94 ?_
        refine g_istore_n E [(2, iv 1), (0, .ref (ad 59)), (1, iv x1), (3, iv x3), (4, iv x4), (5, iv x5)] gdX6_relax_95 rfl (by decide) rfl ?_
        refine g_sub E [1, 2, 0, 3, 4, 5] rfl ?_
        exact j96 o10 x1 1 x3 x4 x5 v h k0 k1
      ·
        refine g_goto E 96 gdX6_relax_66 (by decide) ?_
        exact j96 o x1 x2 x3 x4 x5 v h k0 k1
  have j37 : ∀ (o : OO) (x1 : Int) (x2 : Int) (x3 : Int) (x4 : Int) (x5 : Int) (v : (OO × Int × Int) ⊕ ((OO × Int))), e_X6_relax_37 o x1 x2 x3 x4 x5 = some v → (∀ (o : OO) (x2 : Int) (x3 : Int), v = .inl (o, x2, x3) → Go X 4 (wC g ad o) [(0, .ref (ad 59)), (1, iv x1), (2, iv x2), (3, iv x3)] []) → (∀ (o : OO) (x2 : Int), v = .inr ((o, x2)) → Go X 108 (wC g ad o) [(2, iv x2)] []) → Go X 37 (wC g ad o) [(0, .ref (ad 59)), (1, iv x1), (2, iv x2), (3, iv x3), (4, iv x4), (5, iv x5)] [] := by
    intro o x1 x2 x3 x4 x5 v h k0 k1
    unfold e_X6_relax_37 at h
    obtain ⟨r, hr, h⟩ := qB_of h
    refine l37 x1 x3 x4 r _ hr ?_
    ·
      intro u0 u1 e
      subst e
      have h : b_X6_relax_102 u0 x1 u1 x3 = some v := h
      exact j102 u0 x1 u1 x3 v h k0 k1
  have l4 : ∀ (x1 : Int) (r : (OO × Int)) (s0 : OO × Int × Int), loopW (fun s => l_X6_relax_4 x1 s.1 s.2.1 s.2.2) s0 = some r → (∀ (o : OO) (x2 : Int), r = ((o, x2)) → Go X 108 (wC g ad o) [(2, iv x2)] []) → Go X 4 (wC g ad s0.1) [(0, .ref (ad 59)), (1, iv x1), (2, iv s0.2.1), (3, iv s0.2.2)] [] := by
    intro x1 r s0 h k1
    refine loop_rule (Head := fun s0 => Go X 4 (wC g ad s0.1) [(0, .ref (ad 59)), (1, iv x1), (2, iv s0.2.1), (3, iv s0.2.2)] []) h ?_
    intro s v h kk kx
    obtain ⟨o, x2, x3⟩ := s
    have h : l_X6_relax_4 x1 o x2 x3 = some v := h
    have k0 : ∀ (o : OO) (x2 : Int) (x3 : Int), v = .inl (o, x2, x3) → Go X 4 (wC g ad o) [(0, .ref (ad 59)), (1, iv x1), (2, iv x2), (3, iv x3)] [] := fun o x2 x3 e => kk (o, x2, x3) e
    have k1 : ∀ (o : OO) (x2 : Int), v = .inr ((o, x2)) → Go X 108 (wC g ad o) [(2, iv x2)] [] := fun o x2 e => k1 o x2 (kx _ e).symm
    unfold l_X6_relax_4 at h
    refine g_iload_n E gdX6_relax_4 rfl 3 rfl ?_
    refine g_iload_n E gdX6_relax_5 rfl 1 rfl ?_
    refine g_icmp_ge E 108 gdX6_relax_6 (by decide) h (fun h => ?_) (fun h => ?_)
    ·
      refine g_sub E [2] rfl ?_
      exact k1 o x2 (Option.some.inj h).symm
    ·
      refine g_aload_n E gdX6_relax_9 rfl 0 rfl ?_
      refine g_get (T := TX6) E fw_X6 59 (wC_59 g ad o) rfl 6 (by decide) w_384 rfl rfl gdX6_relax_10 ?_
      refine g_aload_n E gdX6_relax_13 rfl 0 rfl ?_
      refine g_get (T := TX6) E fw_X6 59 (wC_59 g ad o) rfl 5 (by decide) w_383 rfl rfl gdX6_relax_14 ?_
      refine g_iload_n E gdX6_relax_17 rfl 3 rfl ?_
      obtain ⟨hi11, h⟩ := qIn_of h
      refine g_iald E 63 (wC_63 g ad o) (by decide) hi11 gdX6_relax_18 ?_
      obtain ⟨n12, e_n12, h⟩ := qNm_of h
      refine g_nmi e_n12 ?_
      obtain ⟨hi13, h⟩ := qIn_of h
      refine g_iald E 64 (wC_64 g ad o) (by decide) hi13 gdX6_relax_19 ?_
      obtain ⟨n14, e_n14, h⟩ := qNm_of h
      refine g_nmi e_n14 ?_
      refine g_aload_n E gdX6_relax_20 rfl 0 rfl ?_
      refine g_iload_n E gdX6_relax_21 rfl 3 rfl ?_
      refine g_aload_n E gdX6_relax_22 rfl 0 rfl ?_
      refine g_get (T := TX6) E fw_X6 59 (wC_59 g ad o) rfl 5 (by decide) w_383 rfl rfl gdX6_relax_23 ?_
      refine g_iload_n E gdX6_relax_26 rfl 3 rfl ?_
      obtain ⟨hi15, h⟩ := qIn_of h
      refine g_iald E 63 (wC_63 g ad o) (by decide) hi15 gdX6_relax_27 ?_
      obtain ⟨n16, e_n16, h⟩ := qNm_of h
      refine g_nmi e_n16 ?_
      obtain ⟨r17, hc18, h⟩ := qB_of h
      refine g_Vi (r := r17) (As := [iv x3, iv n16]) (rest := [iv n14]) (w := wC g ad o) E (c_X6_price l g ad o x3 n16 r17 hc18) okm_X6_price okw_X6_price w_1159 rfl (wC_59 g ad o) rfl rfl (Nat.le_of_ble_eq_true rfl) ⟨Nat.le_of_ble_eq_true rfl, Nat.le_of_ble_eq_true rfl⟩ gdX6_relax_28 ?_
      refine g_isub E gdX6_relax_31 ?_
      obtain ⟨n19, e_n19, h⟩ := qNm_of h
      refine g_nmi e_n19 ?_
      refine g_istore E [(4, iv n19), (0, .ref (ad 59)), (1, iv x1), (2, iv x2), (3, iv x3)] gdX6_relax_32 (by decide) rfl ?_
      refine g_iconst E gdX6_relax_34 ?_
      refine g_istore E [(5, iv 0), (4, iv n19), (0, .ref (ad 59)), (1, iv x1), (2, iv x2), (3, iv x3)] gdX6_relax_35 (by decide) rfl ?_
      refine g_sub E [2, 3, 4, 5, 1, 0] rfl ?_
      exact j37 o x1 x2 x3 n19 0 v h k0 k1
  have j4 : ∀ (o : OO) (x1 : Int) (x2 : Int) (x3 : Int), e_X6_relax_4 o x1 x2 x3 = some v → Go X 4 (wC g ad o) [(0, .ref (ad 59)), (1, iv x1), (2, iv x2), (3, iv x3)] [] := by
    intro o x1 x2 x3 h
    unfold e_X6_relax_4 at h
    obtain ⟨r, hr, h⟩ := qB_of h
    refine l4 x1 r _ hr ?_
    ·
      intro u0 u1 e
      subst e
      have h : b_X6_relax_108 u0 u1 = some v := h
      exact j108 u0 u1 h
  unfold s_X6_relax at h
  refine g_iconst E gdX6_relax_0 ?_
  refine g_istore_n E [(2, iv 0), (0, .ref (ad 59)), (1, iv x1)] gdX6_relax_1 rfl (by decide) rfl ?_
  refine g_iconst E gdX6_relax_2 ?_
  refine g_istore_n E [(3, iv 0), (2, iv 0), (0, .ref (ad 59)), (1, iv x1)] gdX6_relax_3 rfl (by decide) rfl ?_
  refine g_sub E [2, 3, 1, 0] rfl ?_
  exact j4 o x1 0 0 h
set_option maxHeartbeats 4000000 in
set_option maxRecDepth 100000 in
theorem c_X6_cheapestWithRoom (l : Launch) (g : GG) (ad : Nat → Nat) (o : OO) (v : Int) (h : s_X6_cheapestWithRoom o = some v) : CI l g yX6_cheapestWithRoom cX6_cheapestWithRoom 3 (some .int) 0 0 (wC g ad o) [.ref (ad 59)] v (wC g ad o) := by
  refine met_I (by decide) (Nat.le_of_ble_eq_true rfl) ?_
  intro X E hQ
  show Go X 0 (wC g ad o) [(0, .ref (ad 59))] []
  have j57 : ∀ (x1 : Int), b_X6_cheapestWithRoom_57 o x1 = some v → Go X 57 (wC g ad o) [(1, iv x1)] [] := by
    intro x1 h
    unfold b_X6_cheapestWithRoom_57 at h
    refine g_iload_n E gdX6_cheapestWithRoom_57 rfl 0 rfl ?_
    exact g_iret E hQ (Option.some.inj h) rfl gdX6_cheapestWithRoom_58
  have j51 : ∀ (x1 : Int) (x2 : Int) (v : (Int × Int) ⊕ ((Int))), b_X6_cheapestWithRoom_51 o x1 x2 = some v → (∀ (x1 : Int) (x2 : Int), v = .inl (x1, x2) → Go X 7 (wC g ad o) [(0, .ref (ad 59)), (1, iv x1), (2, iv x2)] []) → (∀ (x1 : Int), v = .inr (x1) → Go X 57 (wC g ad o) [(1, iv x1)] []) → Go X 51 (wC g ad o) [(0, .ref (ad 59)), (1, iv x1), (2, iv x2)] [] := by
    intro x1 x2 v h k0 k1
    unfold b_X6_cheapestWithRoom_51 at h
    refine g_iinc E [(2, iv (x2 + 1)), (0, .ref (ad 59)), (1, iv x1)] gdX6_cheapestWithRoom_51 2 rfl (by decide) rfl ?_
    refine g_goto E 7 gdX6_cheapestWithRoom_54 (by decide) ?_
    refine g_sub E [1, 2, 0] rfl ?_
    exact k0 x1 (x2 + 1) (Option.some.inj h).symm
  have j49 : ∀ (x2 : Int) (v : (Int × Int) ⊕ ((Int))), b_X6_cheapestWithRoom_49 o x2 = some v → (∀ (x1 : Int) (x2 : Int), v = .inl (x1, x2) → Go X 7 (wC g ad o) [(0, .ref (ad 59)), (1, iv x1), (2, iv x2)] []) → (∀ (x1 : Int), v = .inr (x1) → Go X 57 (wC g ad o) [(1, iv x1)] []) → Go X 49 (wC g ad o) [(0, .ref (ad 59)), (2, iv x2)] [] := by
    intro x2 v h k0 k1
    unfold b_X6_cheapestWithRoom_49 at h
    refine g_iload_n E gdX6_cheapestWithRoom_49 rfl 1 rfl ?_
    refine g_istore_n E [(1, iv x2), (0, .ref (ad 59)), (2, iv x2)] gdX6_cheapestWithRoom_50 rfl (by decide) rfl ?_
    refine g_sub E [1, 0, 2] rfl ?_
    exact j51 x2 x2 v h k0 k1
  have l7 : ∀  (r : (Int)) (s0 : Int × Int), loopW (fun s => l_X6_cheapestWithRoom_7 o s.1 s.2) s0 = some r → (∀ (x1 : Int), r = (x1) → Go X 57 (wC g ad o) [(1, iv x1)] []) → Go X 7 (wC g ad o) [(0, .ref (ad 59)), (1, iv s0.1), (2, iv s0.2)] [] := by
    intro r s0 h k1
    refine loop_rule (Head := fun s0 => Go X 7 (wC g ad o) [(0, .ref (ad 59)), (1, iv s0.1), (2, iv s0.2)] []) h ?_
    intro s v h kk kx
    obtain ⟨x1, x2⟩ := s
    have h : l_X6_cheapestWithRoom_7 o x1 x2 = some v := h
    have k0 : ∀ (x1 : Int) (x2 : Int), v = .inl (x1, x2) → Go X 7 (wC g ad o) [(0, .ref (ad 59)), (1, iv x1), (2, iv x2)] [] := fun x1 x2 e => kk (x1, x2) e
    have k1 : ∀ (x1 : Int), v = .inr (x1) → Go X 57 (wC g ad o) [(1, iv x1)] [] := fun x1 e => k1 x1 (kx _ e).symm
    unfold l_X6_cheapestWithRoom_7 at h
    refine g_iload_n E gdX6_cheapestWithRoom_7 rfl 2 rfl ?_
    refine g_aload_n E gdX6_cheapestWithRoom_8 rfl 0 rfl ?_
    refine g_get (T := TX6) E fw_X6 59 (wC_59 g ad o) rfl 8 (by decide) w_386 rfl rfl gdX6_cheapestWithRoom_9 ?_
    refine g_icmp_ge E 57 gdX6_cheapestWithRoom_12 (by decide) h (fun h => ?_) (fun h => ?_)
    ·
      refine g_sub E [1] rfl ?_
      exact k1 x1 (Option.some.inj h).symm
    ·
      refine g_aload_n E gdX6_cheapestWithRoom_15 rfl 0 rfl ?_
      refine g_get (T := TX6) E fw_X6 59 (wC_59 g ad o) rfl 3 (by decide) w_381 rfl rfl gdX6_cheapestWithRoom_16 ?_
      refine g_iload_n E gdX6_cheapestWithRoom_19 rfl 2 rfl ?_
      obtain ⟨hi1, h⟩ := qIn_of h
      refine g_iald E 61 (wC_61 g ad o) (by decide) hi1 gdX6_cheapestWithRoom_20 ?_
      obtain ⟨n2, e_n2, h⟩ := qNm_of h
      refine g_nmi e_n2 ?_
      refine g_if_le E 51 gdX6_cheapestWithRoom_21 (by decide) h (fun h => ?_) (fun h => ?_)
      ·
        exact j51 x1 x2 v h k0 k1
      ·
        refine g_aload_n E gdX6_cheapestWithRoom_24 rfl 0 rfl ?_
        refine g_get (T := TX6) E fw_X6 59 (wC_59 g ad o) rfl 3 (by decide) w_381 rfl rfl gdX6_cheapestWithRoom_25 ?_
        refine g_iload_n E gdX6_cheapestWithRoom_28 rfl 1 rfl ?_
        obtain ⟨hi3, h⟩ := qIn_of h
        refine g_iald E 61 (wC_61 g ad o) (by decide) hi3 gdX6_cheapestWithRoom_29 ?_
        obtain ⟨n4, e_n4, h⟩ := qNm_of h
        refine g_nmi e_n4 ?_
        refine g_iconst E gdX6_cheapestWithRoom_30 ?_
        refine g_icmp_lt E 49 gdX6_cheapestWithRoom_31 (by decide) h (fun h => ?_) (fun h => ?_)
        ·
          refine g_sub E [0, 2] rfl ?_
          exact j49 x2 v h k0 k1
        ·
          refine g_aload_n E gdX6_cheapestWithRoom_34 rfl 0 rfl ?_
          refine g_get (T := TX6) E fw_X6 59 (wC_59 g ad o) rfl 6 (by decide) w_384 rfl rfl gdX6_cheapestWithRoom_35 ?_
          refine g_iload_n E gdX6_cheapestWithRoom_38 rfl 2 rfl ?_
          obtain ⟨hi5, h⟩ := qIn_of h
          refine g_iald E 64 (wC_64 g ad o) (by decide) hi5 gdX6_cheapestWithRoom_39 ?_
          obtain ⟨n6, e_n6, h⟩ := qNm_of h
          refine g_nmi e_n6 ?_
          refine g_aload_n E gdX6_cheapestWithRoom_40 rfl 0 rfl ?_
          refine g_get (T := TX6) E fw_X6 59 (wC_59 g ad o) rfl 6 (by decide) w_384 rfl rfl gdX6_cheapestWithRoom_41 ?_
          refine g_iload_n E gdX6_cheapestWithRoom_44 rfl 1 rfl ?_
          obtain ⟨hi7, h⟩ := qIn_of h
          refine g_iald E 64 (wC_64 g ad o) (by decide) hi7 gdX6_cheapestWithRoom_45 ?_
          obtain ⟨n8, e_n8, h⟩ := qNm_of h
          refine g_nmi e_n8 ?_
          refine g_icmp_ge E 51 gdX6_cheapestWithRoom_46 (by decide) h (fun h => ?_) (fun h => ?_)
          ·
            exact j51 x1 x2 v h k0 k1
          ·
            refine g_sub E [0, 2] rfl ?_
            exact j49 x2 v h k0 k1
  have j7 : ∀ (x1 : Int) (x2 : Int), e_X6_cheapestWithRoom_7 o x1 x2 = some v → Go X 7 (wC g ad o) [(0, .ref (ad 59)), (1, iv x1), (2, iv x2)] [] := by
    intro x1 x2 h
    unfold e_X6_cheapestWithRoom_7 at h
    obtain ⟨r, hr, h⟩ := qB_of h
    refine l7  r _ hr ?_
    ·
      intro u0 e
      have e := e.symm
      subst e
      have h : b_X6_cheapestWithRoom_57 o u0 = some v := h
      exact j57 u0 h
  unfold s_X6_cheapestWithRoom at h
  refine g_aload_n E gdX6_cheapestWithRoom_0 rfl 0 rfl ?_
  refine g_get (T := TX6) E fw_X6 59 (wC_59 g ad o) rfl 8 (by decide) w_386 rfl rfl gdX6_cheapestWithRoom_1 ?_
  refine g_istore_n E [(1, iv (o.1 59 8)), (0, .ref (ad 59))] gdX6_cheapestWithRoom_4 rfl (by decide) rfl ?_
  refine g_iconst E gdX6_cheapestWithRoom_5 ?_
  refine g_istore_n E [(2, iv 0), (1, iv (o.1 59 8)), (0, .ref (ad 59))] gdX6_cheapestWithRoom_6 rfl (by decide) rfl ?_
  refine g_sub E [2, 1, 0] rfl ?_
  exact j7 (o.1 59 8) 0 h
set_option maxHeartbeats 4000000 in
set_option maxRecDepth 100000 in
theorem c_X6_insert (l : Launch) (g : GG) (ad : Nat → Nat) (o : OO) (x1 : Int) (v : OO) (h : s_X6_insert o x1 = some v) : CV l g yX6_insert cX6_insert 6 2 47 (wC g ad o) [.ref (ad 59), iv x1] (wC g ad v) := by
  refine met_V (by decide) (Nat.le_of_ble_eq_true rfl) ?_
  intro X E hQ
  show Go X 0 (wC g ad o) [(0, .ref (ad 59)), (1, iv x1)] []
  have j130 : ∀ (o : OO), b_X6_insert_130 o = some v → Go X 130 (wC g ad o) [] [] := by
    intro o h
    unfold b_X6_insert_130 at h
    exact g_vret E hQ (by rw [← Option.some.inj h]) gdX6_insert_130
  have j118 : ∀ (o : OO), b_X6_insert_118 o = some v → Go X 118 (wC g ad o) [] [] := by
    intro o h
    unfold b_X6_insert_118 at h
    refine g_goto E 130 gdX6_insert_118 (by decide) ?_
    exact j130 o h
  have l79 : ∀ (x1 : Int) (r : (OO) ⊕ (OO)) (s0 : OO × Int × Int), loopW (fun s => l_X6_insert_79 x1 s.1 s.2.1 s.2.2) s0 = some r → (∀ (o : OO), r = (.inl o) → Go X 118 (wC g ad o) [] []) → (∀ (o : OO), r = (.inr o) → Go X 130 (wC g ad o) [] []) → Go X 79 (wC g ad s0.1) [(0, .ref (ad 59)), (1, iv x1), (2, iv s0.2.1), (3, iv s0.2.2)] [] := by
    intro x1 r s0 h k1 k2
    refine loop_rule (Head := fun s0 => Go X 79 (wC g ad s0.1) [(0, .ref (ad 59)), (1, iv x1), (2, iv s0.2.1), (3, iv s0.2.2)] []) h ?_
    intro s v h kk kx
    obtain ⟨o, x2, x3⟩ := s
    have h : l_X6_insert_79 x1 o x2 x3 = some v := h
    have k0 : ∀ (o : OO) (x2 : Int) (x3 : Int), v = .inl (o, x2, x3) → Go X 79 (wC g ad o) [(0, .ref (ad 59)), (1, iv x1), (2, iv x2), (3, iv x3)] [] := fun o x2 x3 e => kk (o, x2, x3) e
    have k1 : ∀ (o : OO), v = .inr (.inl o) → Go X 118 (wC g ad o) [] [] := fun o e => k1 o (kx _ e).symm
    have k2 : ∀ (o : OO), v = .inr (.inr o) → Go X 130 (wC g ad o) [] [] := fun o e => k2 o (kx _ e).symm
    unfold l_X6_insert_79 at h
    refine g_iload_n E gdX6_insert_79 rfl 3 rfl ?_
    refine g_aload_n E gdX6_insert_80 rfl 0 rfl ?_
    refine g_get (T := TX6) E fw_X6 59 (wC_59 g ad o) rfl 8 (by decide) w_386 rfl rfl gdX6_insert_81 ?_
    refine g_icmp_gt E 130 gdX6_insert_84 (by decide) h (fun h => ?_) (fun h => ?_)
    ·
      refine g_sub E [] rfl ?_
      exact k2 o (Option.some.inj h).symm
    ·
      refine g_aload_n E gdX6_insert_87 rfl 0 rfl ?_
      refine g_get (T := TX6) E fw_X6 59 (wC_59 g ad o) rfl 7 (by decide) w_385 rfl rfl gdX6_insert_88 ?_
      refine g_iload_n E gdX6_insert_91 rfl 2 rfl ?_
      obtain ⟨hi1, h⟩ := qIn_of h
      refine g_iald E 65 (wC_65 g ad o) (by decide) hi1 gdX6_insert_92 ?_
      obtain ⟨n2, e_n2, h⟩ := qNm_of h
      refine g_nmi e_n2 ?_
      refine g_istore E [(4, iv n2), (0, .ref (ad 59)), (1, iv x1), (2, iv x2), (3, iv x3)] gdX6_insert_93 (by decide) rfl ?_
      refine g_aload_n E gdX6_insert_95 rfl 1 rfl ?_
      refine g_get (T := TX6) E fw_X6 59 (wC_59 g ad o) rfl 5 (by decide) w_383 rfl rfl gdX6_insert_96 ?_
      refine g_iload E gdX6_insert_99 0 rfl ?_
      obtain ⟨hi3, h⟩ := qIn_of h
      refine g_iald E 63 (wC_63 g ad o) (by decide) hi3 gdX6_insert_101 ?_
      obtain ⟨n4, e_n4, h⟩ := qNm_of h
      refine g_nmi e_n4 ?_
      refine g_istore E [(5, iv n4), (4, iv n2), (0, .ref (ad 59)), (1, iv x1), (2, iv x2), (3, iv x3)] gdX6_insert_102 (by decide) rfl ?_
      refine g_aload_n E gdX6_insert_104 rfl 2 rfl ?_
      refine g_get (T := TX6) E fw_X6 59 (wC_59 g ad o) rfl 5 (by decide) w_383 rfl rfl gdX6_insert_105 ?_
      refine g_iload E gdX6_insert_108 1 rfl ?_
      refine g_iload_n E gdX6_insert_110 rfl 4 rfl ?_
      obtain ⟨hi5, h⟩ := qIn_of h
      obtain ⟨o6, e_o6, h⟩ := qNm_of h
      refine g_iast (ws' := wC g ad o6) E 63 (wC_63 g ad o) (by decide) hi5 (by rw [e_o6]; exact wC_s63 g ad o _ _) gdX6_insert_111 ?_
      refine g_iload E gdX6_insert_112 1 rfl ?_
      refine g_iload_n E gdX6_insert_114 rfl 3 rfl ?_
      refine g_icmp_ne E 121 gdX6_insert_115 (by decide) h (fun h => ?_) (fun h => ?_)
      ·
        refine g_iload E gdX6_insert_121 0 rfl ?_
        refine g_istore_n E [(2, iv n4), (5, iv n4), (4, iv n2), (0, .ref (ad 59)), (1, iv x1), (3, iv x3)] gdX6_insert_123 rfl (by decide) rfl ?_
        refine g_iinc E [(3, iv (x3 + 1)), (2, iv n4), (5, iv n4), (4, iv n2), (0, .ref (ad 59)), (1, iv x1)] gdX6_insert_124 5 rfl (by decide) rfl ?_
        refine g_goto E 79 gdX6_insert_127 (by decide) ?_
        refine g_sub E [4, 5, 1, 0] rfl ?_
        exact k0 o6 n4 (x3 + 1) (Option.some.inj h).symm
      ·
        refine g_sub E [] rfl ?_
        exact k1 o6 (Option.some.inj h).symm
  have j79 : ∀ (o : OO) (x1 : Int) (x2 : Int) (x3 : Int), e_X6_insert_79 o x1 x2 x3 = some v → Go X 79 (wC g ad o) [(0, .ref (ad 59)), (1, iv x1), (2, iv x2), (3, iv x3)] [] := by
    intro o x1 x2 x3 h
    unfold e_X6_insert_79 at h
    obtain ⟨r, hr, h⟩ := qB_of h
    refine l79 x1 r _ hr ?_ ?_
    ·
      intro u0 e
      subst e
      have h : b_X6_insert_118 u0 = some v := h
      exact j118 u0 h
    ·
      intro u0 e
      subst e
      have h : b_X6_insert_130 u0 = some v := h
      exact j130 u0 h
  have j62 : ∀ (o : OO) (x1 : Int), b_X6_insert_62 o x1 = some v → Go X 62 (wC g ad o) [(0, .ref (ad 59)), (1, iv x1)] [] := by
    intro o x1 h
    unfold b_X6_insert_62 at h
    refine g_aload_n E gdX6_insert_62 rfl 0 rfl ?_
    obtain ⟨r7, hc8, h⟩ := qB_of h
    refine g_Vi (r := r7) (As := []) (rest := []) (w := wC g ad o) E (c_X6_cheapestWithRoom l g ad o r7 hc8) okm_X6_cheapestWithRoom okw_X6_cheapestWithRoom w_1167 rfl (wC_59 g ad o) rfl rfl (Nat.le_of_ble_eq_true rfl) ⟨Nat.le_of_ble_eq_true rfl, Nat.le_of_ble_eq_true rfl⟩ gdX6_insert_63 ?_
    refine g_istore_n E [(2, iv r7), (0, .ref (ad 59)), (1, iv x1)] gdX6_insert_66 rfl (by decide) rfl ?_
    refine g_aload_n E gdX6_insert_67 rfl 1 rfl ?_
    refine g_get (T := TX6) E fw_X6 59 (wC_59 g ad o) rfl 3 (by decide) w_381 rfl rfl gdX6_insert_68 ?_
    refine g_iload_n E gdX6_insert_71 rfl 0 rfl ?_
    refine g_dup2 E gdX6_insert_72 rfl rfl ?_
    obtain ⟨hi9, h⟩ := qIn_of h
    refine g_iald E 61 (wC_61 g ad o) (by decide) hi9 gdX6_insert_73 ?_
    obtain ⟨n10, e_n10, h⟩ := qNm_of h
    refine g_nmi e_n10 ?_
    refine g_iconst E gdX6_insert_74 ?_
    refine g_isub E gdX6_insert_75 ?_
    obtain ⟨hi11, h⟩ := qIn_of h
    obtain ⟨o12, e_o12, h⟩ := qNm_of h
    refine g_iast (ws' := wC g ad o12) E 61 (wC_61 g ad o) (by decide) hi11 (by rw [e_o12]; exact wC_s61 g ad o _ _) gdX6_insert_76 ?_
    refine g_iconst E gdX6_insert_77 ?_
    refine g_istore_n E [(3, iv 0), (2, iv r7), (0, .ref (ad 59)), (1, iv x1)] gdX6_insert_78 rfl (by decide) rfl ?_
    refine g_sub E [2, 3, 1, 0] rfl ?_
    exact j79 o12 x1 r7 0 h
  have j53 : ∀ (o : OO) (x1 : Int), b_X6_insert_53 o x1 = some v → Go X 53 (wC g ad o) [(0, .ref (ad 59)), (1, iv x1)] [] := by
    intro o x1 h
    unfold b_X6_insert_53 at h
    refine g_goto E 62 gdX6_insert_53 (by decide) ?_
    exact j62 o x1 h
  have l37 : ∀ (x1 : Int) (r : (OO) ⊕ (OO)) (s0 : OO × Int), loopW (fun s => l_X6_insert_37 x1 s.1 s.2) s0 = some r → (∀ (o : OO), r = (.inl o) → Go X 53 (wC g ad o) [(0, .ref (ad 59)), (1, iv x1)] []) → (∀ (o : OO), r = (.inr o) → Go X 62 (wC g ad o) [(0, .ref (ad 59)), (1, iv x1)] []) → Go X 37 (wC g ad s0.1) [(0, .ref (ad 59)), (1, iv x1), (2, iv s0.2)] [] := by
    intro x1 r s0 h k1 k2
    refine loop_rule (Head := fun s0 => Go X 37 (wC g ad s0.1) [(0, .ref (ad 59)), (1, iv x1), (2, iv s0.2)] []) h ?_
    intro s v h kk kx
    obtain ⟨o, x2⟩ := s
    have h : l_X6_insert_37 x1 o x2 = some v := h
    have k0 : ∀ (o : OO) (x2 : Int), v = .inl (o, x2) → Go X 37 (wC g ad o) [(0, .ref (ad 59)), (1, iv x1), (2, iv x2)] [] := fun o x2 e => kk (o, x2) e
    have k1 : ∀ (o : OO), v = .inr (.inl o) → Go X 53 (wC g ad o) [(0, .ref (ad 59)), (1, iv x1)] [] := fun o e => k1 o (kx _ e).symm
    have k2 : ∀ (o : OO), v = .inr (.inr o) → Go X 62 (wC g ad o) [(0, .ref (ad 59)), (1, iv x1)] [] := fun o e => k2 o (kx _ e).symm
    unfold l_X6_insert_37 at h
    refine g_iload_n E gdX6_insert_37 rfl 2 rfl ?_
    refine g_aload_n E gdX6_insert_38 rfl 0 rfl ?_
    refine g_get (T := TX6) E fw_X6 59 (wC_59 g ad o) rfl 8 (by decide) w_386 rfl rfl gdX6_insert_39 ?_
    refine g_icmp_gt E 62 gdX6_insert_42 (by decide) h (fun h => ?_) (fun h => ?_)
    ·
      refine g_sub E [0, 1] rfl ?_
      exact k2 o (Option.some.inj h).symm
    ·
      refine g_aload_n E gdX6_insert_45 rfl 0 rfl ?_
      refine g_iload_n E gdX6_insert_46 rfl 1 rfl ?_
      obtain ⟨r13, o15, hc14, h⟩ := qB2_of h
      refine g_Vi (r := r13) (As := [iv x1]) (rest := []) (w := wC g ad o15) E (c_X6_relax l g ad o x1 (r13, o15) hc14) okm_X6_relax okw_X6_relax w_1163 rfl (wC_59 g ad o) rfl rfl (Nat.le_of_ble_eq_true rfl) ⟨Nat.le_of_ble_eq_true rfl, Nat.le_of_ble_eq_true rfl⟩ gdX6_insert_47 ?_
      refine g_if_ne E 56 gdX6_insert_50 (by decide) h (fun h => ?_) (fun h => ?_)
      ·
        refine g_iinc E [(2, iv (x2 + 1)), (0, .ref (ad 59)), (1, iv x1)] gdX6_insert_56 2 rfl (by decide) rfl ?_
        refine g_goto E 37 gdX6_insert_59 (by decide) ?_
        refine g_sub E [1, 2, 0] rfl ?_
        exact k0 o15 (x2 + 1) (Option.some.inj h).symm
      ·
        refine g_sub E [0, 1] rfl ?_
        exact k1 o15 (Option.some.inj h).symm
  have j37 : ∀ (o : OO) (x1 : Int) (x2 : Int), e_X6_insert_37 o x1 x2 = some v → Go X 37 (wC g ad o) [(0, .ref (ad 59)), (1, iv x1), (2, iv x2)] [] := by
    intro o x1 x2 h
    unfold e_X6_insert_37 at h
    obtain ⟨r, hr, h⟩ := qB_of h
    refine l37 x1 r _ hr ?_ ?_
    ·
      intro u0 e
      subst e
      have h : b_X6_insert_53 u0 x1 = some v := h
      exact j53 u0 x1 h
    ·
      intro u0 e
      subst e
      have h : b_X6_insert_62 u0 x1 = some v := h
      exact j62 u0 x1 h
  have j35 : ∀ (o : OO) (x1 : Int), b_X6_insert_35 o x1 = some v → Go X 35 (wC g ad o) [(0, .ref (ad 59)), (1, iv x1)] [] := by
    intro o x1 h
    unfold b_X6_insert_35 at h
    refine g_iconst E gdX6_insert_35 ?_
    refine g_istore_n E [(2, iv 0), (0, .ref (ad 59)), (1, iv x1)] gdX6_insert_36 rfl (by decide) rfl ?_
    refine g_sub E [1, 2, 0] rfl ?_
    exact j37 o x1 0 h
  have l2 : ∀ (x1 : Int) (r : (OO)) (s0 : OO × Int), loopW (fun s => l_X6_insert_2 x1 s.1 s.2) s0 = some r → (∀ (o : OO), r = (o) → Go X 35 (wC g ad o) [(0, .ref (ad 59)), (1, iv x1)] []) → Go X 2 (wC g ad s0.1) [(0, .ref (ad 59)), (1, iv x1), (2, iv s0.2)] [] := by
    intro x1 r s0 h k1
    refine loop_rule (Head := fun s0 => Go X 2 (wC g ad s0.1) [(0, .ref (ad 59)), (1, iv x1), (2, iv s0.2)] []) h ?_
    intro s v h kk kx
    obtain ⟨o, x2⟩ := s
    have h : l_X6_insert_2 x1 o x2 = some v := h
    have k0 : ∀ (o : OO) (x2 : Int), v = .inl (o, x2) → Go X 2 (wC g ad o) [(0, .ref (ad 59)), (1, iv x1), (2, iv x2)] [] := fun o x2 e => kk (o, x2) e
    have k1 : ∀ (o : OO), v = .inr (o) → Go X 35 (wC g ad o) [(0, .ref (ad 59)), (1, iv x1)] [] := fun o e => k1 o (kx _ e).symm
    unfold l_X6_insert_2 at h
    refine g_iload_n E gdX6_insert_2 rfl 2 rfl ?_
    refine g_aload_n E gdX6_insert_3 rfl 0 rfl ?_
    refine g_get (T := TX6) E fw_X6 59 (wC_59 g ad o) rfl 8 (by decide) w_386 rfl rfl gdX6_insert_4 ?_
    refine g_icmp_gt E 35 gdX6_insert_7 (by decide) h (fun h => ?_) (fun h => ?_)
    ·
      refine g_sub E [0, 1] rfl ?_
      exact k1 o (Option.some.inj h).symm
    ·
      refine g_aload_n E gdX6_insert_10 rfl 0 rfl ?_
      refine g_get (T := TX6) E fw_X6 59 (wC_59 g ad o) rfl 6 (by decide) w_384 rfl rfl gdX6_insert_11 ?_
      refine g_iload_n E gdX6_insert_14 rfl 2 rfl ?_
      refine g_aload_n E gdX6_insert_15 rfl 0 rfl ?_
      refine g_iload_n E gdX6_insert_16 rfl 1 rfl ?_
      refine g_iload_n E gdX6_insert_17 rfl 2 rfl ?_
      obtain ⟨r16, hc17, h⟩ := qB_of h
      refine g_Vi (r := r16) (As := [iv x1, iv x2]) (rest := [iv x2, .ref (ad 64)]) (w := wC g ad o) E (c_X6_price l g ad o x1 x2 r16 hc17) okm_X6_price okw_X6_price w_1159 rfl (wC_59 g ad o) rfl rfl (Nat.le_of_ble_eq_true rfl) ⟨Nat.le_of_ble_eq_true rfl, Nat.le_of_ble_eq_true rfl⟩ gdX6_insert_18 ?_
      obtain ⟨hi18, h⟩ := qIn_of h
      obtain ⟨o19, e_o19, h⟩ := qNm_of h
      refine g_iast (ws' := wC g ad o19) E 64 (wC_64 g ad o) (by decide) hi18 (by rw [e_o19]; exact wC_s64 g ad o _ _) gdX6_insert_21 ?_
      refine g_aload_n E gdX6_insert_22 rfl 0 rfl ?_
      refine g_get (T := TX6) E fw_X6 59 (wC_59 g ad o19) rfl 7 (by decide) w_385 rfl rfl gdX6_insert_23 ?_
      refine g_iload_n E gdX6_insert_26 rfl 2 rfl ?_
      refine g_iload_n E gdX6_insert_27 rfl 1 rfl ?_
      obtain ⟨hi20, h⟩ := qIn_of h
      obtain ⟨o21, e_o21, h⟩ := qNm_of h
      refine g_iast (ws' := wC g ad o21) E 65 (wC_65 g ad o19) (by decide) hi20 (by rw [e_o21]; exact wC_s65 g ad o19 _ _) gdX6_insert_28 ?_
      refine g_iinc E [(2, iv (x2 + 1)), (0, .ref (ad 59)), (1, iv x1)] gdX6_insert_29 2 rfl (by decide) rfl ?_
      refine g_goto E 2 gdX6_insert_32 (by decide) ?_
      refine g_sub E [1, 2, 0] rfl ?_
      exact k0 o21 (x2 + 1) (Option.some.inj h).symm
  have j2 : ∀ (o : OO) (x1 : Int) (x2 : Int), e_X6_insert_2 o x1 x2 = some v → Go X 2 (wC g ad o) [(0, .ref (ad 59)), (1, iv x1), (2, iv x2)] [] := by
    intro o x1 x2 h
    unfold e_X6_insert_2 at h
    obtain ⟨r, hr, h⟩ := qB_of h
    refine l2 x1 r _ hr ?_
    ·
      intro u0 e
      have e := e.symm
      subst e
      have h : b_X6_insert_35 u0 x1 = some v := h
      exact j35 u0 x1 h
  unfold s_X6_insert at h
  refine g_iconst E gdX6_insert_0 ?_
  refine g_istore_n E [(2, iv 0), (0, .ref (ad 59)), (1, iv x1)] gdX6_insert_1 rfl (by decide) rfl ?_
  refine g_sub E [1, 2, 0] rfl ?_
  exact j2 o x1 0 h
set_option maxHeartbeats 4000000 in
set_option maxRecDepth 100000 in
theorem c_X6_lead (l : Launch) (g : GG) (ad : Nat → Nat) (o : OO) (z3 : Int64) (v : OO) (h : s_X6_lead o z3 = some v) : CV l g yX6_lead cX6_lead 8 3 72 (wC g ad o) [.ref (ad 59), .ref (ad 10), .ref (ad 23), .long z3] (wC g ad v) := by
  refine met_V (by decide) (Nat.le_of_ble_eq_true rfl) ?_
  intro X E hQ
  show Go X 0 (wC g ad o) [(0, .ref (ad 59)), (1, .ref (ad 10)), (2, .ref (ad 23)), (3, .long z3)] []
  have j116 : ∀ (o : OO), b_X6_lead_116 o = some v → Go X 116 (wC g ad o) [] [] := by
    intro o h
    unfold b_X6_lead_116 at h
    exact g_vret E hQ (by rw [← Option.some.inj h]) gdX6_lead_116
  have l81 : ∀ (x6 : Int) (r : (OO)) (s0 : OO × Int), loopW (fun s => l_X6_lead_81 x6 s.1 s.2) s0 = some r → (∀ (o : OO), r = (o) → Go X 116 (wC g ad o) [] []) → Go X 81 (wC g ad s0.1) [(0, .ref (ad 59)), (6, iv x6), (7, iv s0.2)] [] := by
    intro x6 r s0 h k1
    refine loop_rule (Head := fun s0 => Go X 81 (wC g ad s0.1) [(0, .ref (ad 59)), (6, iv x6), (7, iv s0.2)] []) h ?_
    intro s v h kk kx
    obtain ⟨o, x7⟩ := s
    have h : l_X6_lead_81 x6 o x7 = some v := h
    have k0 : ∀ (o : OO) (x7 : Int), v = .inl (o, x7) → Go X 81 (wC g ad o) [(0, .ref (ad 59)), (6, iv x6), (7, iv x7)] [] := fun o x7 e => kk (o, x7) e
    have k1 : ∀ (o : OO), v = .inr (o) → Go X 116 (wC g ad o) [] [] := fun o e => k1 o (kx _ e).symm
    unfold l_X6_lead_81 at h
    refine g_iload E gdX6_lead_81 2 rfl ?_
    refine g_iload E gdX6_lead_83 1 rfl ?_
    refine g_icmp_ge E 116 gdX6_lead_85 (by decide) h (fun h => ?_) (fun h => ?_)
    ·
      refine g_sub E [] rfl ?_
      exact k1 o (Option.some.inj h).symm
    ·
      refine g_aload_n E gdX6_lead_88 rfl 0 rfl ?_
      refine g_dup E gdX6_lead_89 rfl ?_
      refine g_get (T := TX6) E fw_X6 59 (wC_59 g ad o) rfl 1 (by decide) w_378 rfl rfl gdX6_lead_90 ?_
      refine g_aload_n E gdX6_lead_93 rfl 0 rfl ?_
      refine g_iload E gdX6_lead_94 2 rfl ?_
      refine g_aload_n E gdX6_lead_96 rfl 0 rfl ?_
      refine g_get (T := TX6) E fw_X6 59 (wC_59 g ad o) rfl 5 (by decide) w_383 rfl rfl gdX6_lead_97 ?_
      refine g_iload E gdX6_lead_100 2 rfl ?_
      obtain ⟨hi1, h⟩ := qIn_of h
      refine g_iald E 63 (wC_63 g ad o) (by decide) hi1 gdX6_lead_102 ?_
      obtain ⟨n2, e_n2, h⟩ := qNm_of h
      refine g_nmi e_n2 ?_
      obtain ⟨r3, hc4, h⟩ := qB_of h
      refine g_Vi (r := r3) (As := [iv x7, iv n2]) (rest := [iv (o.1 59 1), .ref (ad 59)]) (w := wC g ad o) E (c_X6_price l g ad o x7 n2 r3 hc4) okm_X6_price okw_X6_price w_1159 rfl (wC_59 g ad o) rfl rfl (Nat.le_of_ble_eq_true rfl) ⟨Nat.le_of_ble_eq_true rfl, Nat.le_of_ble_eq_true rfl⟩ gdX6_lead_103 ?_
      refine g_iadd E gdX6_lead_106 ?_
      obtain ⟨o5, e_o5, h⟩ := qNm_of h
      refine g_puti (T := TX6) (ws' := wC g ad o5) E fw_X6 tyX6 tyX6_ok nmX6 59 (wC_59 g ad o) rfl 1 (by decide) w_378 rfl rfl (by decide +kernel) (Nat.le_of_ble_eq_true rfl) (by rw [e_o5]; exact wC_p59_1 g ad o _) gdX6_lead_107 ?_
      refine g_iinc E [(7, iv (x7 + 1)), (0, .ref (ad 59)), (6, iv x6)] gdX6_lead_110 2 rfl (by decide) rfl ?_
      refine g_goto E 81 gdX6_lead_113 (by decide) ?_
      refine g_sub E [1, 2, 0] rfl ?_
      exact k0 o5 (x7 + 1) (Option.some.inj h).symm
  have j81 : ∀ (o : OO) (x6 : Int) (x7 : Int), e_X6_lead_81 o x6 x7 = some v → Go X 81 (wC g ad o) [(0, .ref (ad 59)), (6, iv x6), (7, iv x7)] [] := by
    intro o x6 x7 h
    unfold e_X6_lead_81 at h
    obtain ⟨r, hr, h⟩ := qB_of h
    refine l81 x6 r _ hr ?_
    ·
      intro u0 e
      have e := e.symm
      subst e
      have h : b_X6_lead_116 u0 = some v := h
      exact j116 u0 h
  have j73 : ∀ (o : OO) (x6 : Int), b_X6_lead_73 o x6 = some v → Go X 73 (wC g ad o) [(0, .ref (ad 59)), (6, iv x6)] [] := by
    intro o x6 h
    unfold b_X6_lead_73 at h
    refine g_aload_n E gdX6_lead_73 rfl 0 rfl ?_
    refine g_iconst E gdX6_lead_74 ?_
    obtain ⟨o6, e_o6, h⟩ := qNm_of h
    refine g_puti (T := TX6) (ws' := wC g ad o6) E fw_X6 tyX6 tyX6_ok nmX6 59 (wC_59 g ad o) rfl 1 (by decide) w_378 rfl rfl (by decide +kernel) (Nat.le_of_ble_eq_true rfl) (by rw [e_o6]; exact wC_p59_1 g ad o _) gdX6_lead_75 ?_
    refine g_iconst E gdX6_lead_78 ?_
    refine g_istore E [(7, iv 0), (0, .ref (ad 59)), (6, iv x6)] gdX6_lead_79 (by decide) rfl ?_
    refine g_sub E [1, 2, 0] rfl ?_
    exact j81 o6 x6 0 h
  have l54 : ∀ (x6 : Int) (r : (OO)) (s0 : OO × Int), loopW (fun s => l_X6_lead_54 x6 s.1 s.2) s0 = some r → (∀ (o : OO), r = (o) → Go X 73 (wC g ad o) [(0, .ref (ad 59)), (6, iv x6)] []) → Go X 54 (wC g ad s0.1) [(0, .ref (ad 59)), (6, iv x6), (7, iv s0.2)] [] := by
    intro x6 r s0 h k1
    refine loop_rule (Head := fun s0 => Go X 54 (wC g ad s0.1) [(0, .ref (ad 59)), (6, iv x6), (7, iv s0.2)] []) h ?_
    intro s v h kk kx
    obtain ⟨o, x7⟩ := s
    have h : l_X6_lead_54 x6 o x7 = some v := h
    have k0 : ∀ (o : OO) (x7 : Int), v = .inl (o, x7) → Go X 54 (wC g ad o) [(0, .ref (ad 59)), (6, iv x6), (7, iv x7)] [] := fun o x7 e => kk (o, x7) e
    have k1 : ∀ (o : OO), v = .inr (o) → Go X 73 (wC g ad o) [(0, .ref (ad 59)), (6, iv x6)] [] := fun o e => k1 o (kx _ e).symm
    unfold l_X6_lead_54 at h
    refine g_iload E gdX6_lead_54 2 rfl ?_
    refine g_iload E gdX6_lead_56 1 rfl ?_
    refine g_icmp_ge E 73 gdX6_lead_58 (by decide) h (fun h => ?_) (fun h => ?_)
    ·
      refine g_sub E [0, 1] rfl ?_
      exact k1 o (Option.some.inj h).symm
    ·
      refine g_aload_n E gdX6_lead_61 rfl 0 rfl ?_
      refine g_iload E gdX6_lead_62 2 rfl ?_
      obtain ⟨o9, hc8, h⟩ := qB_of h
      refine g_Vv (As := [iv x7]) (rest := []) (w := wC g ad o9) E (c_X6_insert l g ad o x7 o9 hc8) okm_X6_insert okw_X6_insert w_1155 rfl (wC_59 g ad o) rfl rfl (Nat.le_of_ble_eq_true rfl) ⟨Nat.le_of_ble_eq_true rfl, Nat.le_of_ble_eq_true rfl⟩ gdX6_lead_64 ?_
      refine g_iinc E [(7, iv (x7 + 1)), (0, .ref (ad 59)), (6, iv x6)] gdX6_lead_67 2 rfl (by decide) rfl ?_
      refine g_goto E 54 gdX6_lead_70 (by decide) ?_
      refine g_sub E [1, 2, 0] rfl ?_
      exact k0 o9 (x7 + 1) (Option.some.inj h).symm
  have j54 : ∀ (o : OO) (x6 : Int) (x7 : Int), e_X6_lead_54 o x6 x7 = some v → Go X 54 (wC g ad o) [(0, .ref (ad 59)), (6, iv x6), (7, iv x7)] [] := by
    intro o x6 x7 h
    unfold e_X6_lead_54 at h
    obtain ⟨r, hr, h⟩ := qB_of h
    refine l54 x6 r _ hr ?_
    ·
      intro u0 e
      have e := e.symm
      subst e
      have h : b_X6_lead_73 u0 x6 = some v := h
      exact j73 u0 x6 h
  unfold s_X6_lead at h
  refine g_aload_n E gdX6_lead_0 rfl 0 rfl ?_
  refine g_aload_n E gdX6_lead_1 rfl 1 rfl ?_
  refine g_lload_n E gdX6_lead_2 rfl 3 rfl ?_
  obtain ⟨r10, o12, hc11, h⟩ := qB2_of h
  refine g_Vi (r := r10) (As := [.ref (ad 10), .long z3]) (rest := []) (w := wC g ad o12) E (c_X6_listHouses l g ad o z3 (r10, o12) hc11) okm_X6_listHouses okw_X6_listHouses w_1135 rfl (wC_59 g ad o) rfl rfl (Nat.le_of_ble_eq_true rfl) ⟨Nat.le_of_ble_eq_true rfl, Nat.le_of_ble_eq_true rfl⟩ gdX6_lead_3 ?_
  refine g_istore E [(5, iv r10), (0, .ref (ad 59)), (1, .ref (ad 10)), (2, .ref (ad 23)), (3, .long z3)] gdX6_lead_6 (by decide) rfl ?_
  refine g_aload_n E gdX6_lead_8 rfl 1 rfl ?_
  refine g_aload_n E gdX6_lead_9 rfl 2 rfl ?_
  refine g_aload_n E gdX6_lead_10 rfl 3 rfl ?_
  refine g_lload_n E gdX6_lead_11 rfl 4 rfl ?_
  obtain ⟨r13, o15, hc14, h⟩ := qB2_of h
  refine g_Vi (r := r13) (As := [.ref (ad 10), .ref (ad 23), .long z3]) (rest := []) (w := wC g ad o15) E (c_X6_listPeople l g ad o12 z3 (r13, o15) hc14) okm_X6_listPeople okw_X6_listPeople w_1143 rfl (wC_59 g ad o12) rfl rfl (Nat.le_of_ble_eq_true rfl) ⟨Nat.le_of_ble_eq_true rfl, Nat.le_of_ble_eq_true rfl⟩ gdX6_lead_12 ?_
  refine g_istore E [(6, iv r13), (5, iv r10), (0, .ref (ad 59)), (1, .ref (ad 10)), (2, .ref (ad 23)), (3, .long z3)] gdX6_lead_15 (by decide) rfl ?_
  refine g_aload_n E gdX6_lead_17 rfl 2 rfl ?_
  refine g_get (T := TX6) E fw_X6 59 (wC_59 g ad o15) rfl 3 (by decide) w_381 rfl rfl gdX6_lead_18 ?_
  refine g_aload_n E gdX6_lead_21 rfl 2 rfl ?_
  refine g_get (T := TX6) E fw_X6 59 (wC_59 g ad o15) rfl 8 (by decide) w_386 rfl rfl gdX6_lead_22 ?_
  refine g_iconst E gdX6_lead_25 ?_
  refine g_iload E gdX6_lead_26 0 rfl ?_
  refine g_iload E gdX6_lead_28 1 rfl ?_
  refine g_isub E gdX6_lead_30 ?_
  obtain ⟨ha16, h⟩ := qR_of h
  obtain ⟨ha17, h⟩ := qR_of h
  refine g_mmax E ha16 ha17 w_1154 w_949 w_91 w_950 (Nat.le_of_ble_eq_true rfl) (Nat.le_of_ble_eq_true rfl) gdX6_lead_31 ?_
  obtain ⟨hi18, h⟩ := qIn_of h
  obtain ⟨o19, e_o19, h⟩ := qNm_of h
  refine g_iast (ws' := wC g ad o19) E 61 (wC_61 g ad o15) (by decide) hi18 (by rw [e_o19]; exact wC_s61 g ad o15 _ _) gdX6_lead_34 ?_
  refine g_aload_n E gdX6_lead_35 rfl 2 rfl ?_
  refine g_iload E gdX6_lead_36 0 rfl ?_
  refine g_aload_n E gdX6_lead_38 rfl 2 rfl ?_
  refine g_get (T := TX6) E fw_X6 59 (wC_59 g ad o19) rfl 3 (by decide) w_381 rfl rfl gdX6_lead_39 ?_
  refine g_aload_n E gdX6_lead_42 rfl 2 rfl ?_
  refine g_get (T := TX6) E fw_X6 59 (wC_59 g ad o19) rfl 8 (by decide) w_386 rfl rfl gdX6_lead_43 ?_
  obtain ⟨hi20, h⟩ := qIn_of h
  refine g_iald E 61 (wC_61 g ad o19) (by decide) hi20 gdX6_lead_46 ?_
  obtain ⟨n21, e_n21, h⟩ := qNm_of h
  refine g_nmi e_n21 ?_
  refine g_isub E gdX6_lead_47 ?_
  obtain ⟨o22, e_o22, h⟩ := qNm_of h
  refine g_puti (T := TX6) (ws' := wC g ad o22) E fw_X6 tyX6 tyX6_ok nmX6 59 (wC_59 g ad o19) rfl 0 (by decide) w_376 rfl rfl (by decide +kernel) (Nat.le_of_ble_eq_true rfl) (by rw [e_o22]; exact wC_p59_0 g ad o19 _) gdX6_lead_48 ?_
  refine g_iconst E gdX6_lead_51 ?_
  refine g_istore E [(7, iv 0), (6, iv r13), (5, iv r10), (0, .ref (ad 59)), (1, .ref (ad 10)), (2, .ref (ad 23)), (3, .long z3)] gdX6_lead_52 (by decide) rfl ?_
  refine g_sub E [3, 1, 0] rfl ?_
  exact j54 o22 r13 0 h
set_option maxHeartbeats 4000000 in
set_option maxRecDepth 100000 in
theorem c_X11_whither (l : Launch) (g : GG) (ad : Nat → Nat) (o : OO) (x1 : Int) (v : Int × OO) (h : s_X11_whither o x1 = some v) : CI l g yX11_whither cX11_whither 2 (some .int) 4 99 (wC g ad o) [.ref (ad 0), iv x1] v.1 (wC g ad v.2) := by
  refine met_I (by decide) (Nat.le_of_ble_eq_true rfl) ?_
  intro X E hQ
  show Go X 0 (wC g ad o) [(0, .ref (ad 0)), (1, iv x1)] []
  unfold s_X11_whither at h
  refine g_aload_n E gdX11_whither_0 rfl 0 rfl ?_
  refine g_get (T := TX11) E fw_X11 0 (wC_0 g ad o) rfl 6 (by decide) w_464 rfl rfl gdX11_whither_1 ?_
  refine g_iload_n E gdX11_whither_4 rfl 1 rfl ?_
  obtain ⟨r1, hc2, h⟩ := qB_of h
  refine g_Vi (r := r1) (As := [iv x1]) (rest := []) (w := wC g ad o) E (c_X4_exists l g ad o x1 r1 hc2) okm_X4_exists okw_X4_exists w_882 rfl (wC_32 g ad o) rfl rfl (Nat.le_of_ble_eq_true rfl) ⟨Nat.le_of_ble_eq_true rfl, Nat.le_of_ble_eq_true rfl⟩ gdX11_whither_5 ?_
  refine g_if_ne E 13 gdX11_whither_8 (by decide) h (fun h => ?_) (fun h => ?_)
  ·
    refine g_aload_n E gdX11_whither_13 rfl 0 rfl ?_
    refine g_get (T := TX11) E fw_X11 0 (wC_0 g ad o) rfl 6 (by decide) w_464 rfl rfl gdX11_whither_14 ?_
    refine g_iload_n E gdX11_whither_17 rfl 1 rfl ?_
    refine g_iconst E gdX11_whither_18 ?_
    obtain ⟨r3, hc4, h⟩ := qB_of h
    refine g_Vi (r := r3) (As := [iv x1, iv 1]) (rest := []) (w := wC g ad o) E (c_X4_isOf l g ad o x1 1 r3 hc4) okm_X4_isOf okw_X4_isOf w_886 rfl (wC_32 g ad o) rfl rfl (Nat.le_of_ble_eq_true rfl) ⟨Nat.le_of_ble_eq_true rfl, Nat.le_of_ble_eq_true rfl⟩ gdX11_whither_19 ?_
    refine g_if_ne E 31 gdX11_whither_22 (by decide) h (fun h => ?_) (fun h => ?_)
    ·
      refine g_aload_n E gdX11_whither_31 rfl 0 rfl ?_
      refine g_get (T := TX11) E fw_X11 0 (wC_0 g ad o) rfl 9 (by decide) w_467 rfl rfl gdX11_whither_32 ?_
      refine g_aload_n E gdX11_whither_35 rfl 0 rfl ?_
      refine g_get (T := TX11) E fw_X11 0 (wC_0 g ad o) rfl 3 (by decide) w_461 rfl rfl gdX11_whither_36 ?_
      refine g_aload_n E gdX11_whither_39 rfl 0 rfl ?_
      refine g_get (T := TX11) E fw_X11 0 (wC_0 g ad o) rfl 4 (by decide) w_462 rfl rfl gdX11_whither_40 ?_
      refine g_aload_n E gdX11_whither_43 rfl 0 rfl ?_
      refine g_get (T := TX11) E fw_X11 0 (wC_0 g ad o) rfl 6 (by decide) w_464 rfl rfl gdX11_whither_44 ?_
      refine g_iload_n E gdX11_whither_47 rfl 1 rfl ?_
      obtain ⟨p5, hc6, h⟩ := qB_of h
      refine g_Vl (r := p5) (As := [iv x1]) (rest := [.ref (ad 23), .ref (ad 10), .ref (ad 59)]) (w := wC g ad o) E (c_X4_cells l g ad o x1 p5 hc6) okm_X4_cells okw_X4_cells w_890 rfl (wC_32 g ad o) rfl rfl (Nat.le_of_ble_eq_true rfl) ⟨Nat.le_of_ble_eq_true rfl, Nat.le_of_ble_eq_true rfl⟩ gdX11_whither_48 ?_
      obtain ⟨o9, hc8, h⟩ := qB_of h
      refine g_Vv (As := [.ref (ad 10), .ref (ad 23), .long p5]) (rest := []) (w := wC g ad o9) E (c_X6_lead l g ad o p5 o9 hc8) okm_X6_lead okw_X6_lead w_1131 rfl (wC_59 g ad o) rfl rfl (Nat.le_of_ble_eq_true rfl) ⟨Nat.le_of_ble_eq_true rfl, Nat.le_of_ble_eq_true rfl⟩ gdX11_whither_51 ?_
      refine g_aload_n E gdX11_whither_54 rfl 0 rfl ?_
      refine g_aload_n E gdX11_whither_55 rfl 0 rfl ?_
      refine g_get (T := TX11) E fw_X11 0 (wC_0 g ad o9) rfl 9 (by decide) w_467 rfl rfl gdX11_whither_56 ?_
      refine g_get (T := TX6) E fw_X6 59 (wC_59 g ad o9) rfl 1 (by decide) w_379 rfl rfl gdX11_whither_59 ?_
      obtain ⟨r10, o12, hc11, h⟩ := qB2_of h
      refine g_Vi (r := r10) (As := [iv (o9.1 59 1)]) (rest := []) (w := wC g ad o12) E (c_X11_tell l g ad o9 (o9.1 59 1) (r10, o12) hc11) okm_X11_tell okw_X11_tell w_551 rfl (wC_0 g ad o9) rfl rfl (Nat.le_of_ble_eq_true rfl) ⟨Nat.le_of_ble_eq_true rfl, Nat.le_of_ble_eq_true rfl⟩ gdX11_whither_62 ?_
      refine g_pop E gdX11_whither_65 rfl ?_
      refine g_aload_n E gdX11_whither_66 rfl 0 rfl ?_
      refine g_get (T := TX11) E fw_X11 0 (wC_0 g ad o12) rfl 9 (by decide) w_467 rfl rfl gdX11_whither_67 ?_
      refine g_get (T := TX6) E fw_X6 59 (wC_59 g ad o12) rfl 0 (by decide) w_377 rfl rfl gdX11_whither_70 ?_
      exact g_iret E hQ (by rw [← Option.some.inj h]) (by rw [← Option.some.inj h]) gdX11_whither_73
    ·
      refine g_aload_n E gdX11_whither_25 rfl 0 rfl ?_
      refine g_iconst E gdX11_whither_26 ?_
      obtain ⟨r13, o15, hc14, h⟩ := qB2_of h
      refine g_Vi (r := r13) (As := [iv 3]) (rest := []) (w := wC g ad o15) E (c_X11_found l g ad o 3 (r13, o15) hc14) okm_X11_found okw_X11_found w_521 rfl (wC_0 g ad o) rfl rfl (Nat.le_of_ble_eq_true rfl) ⟨Nat.le_of_ble_eq_true rfl, Nat.le_of_ble_eq_true rfl⟩ gdX11_whither_27 ?_
      exact g_iret E hQ (by rw [← Option.some.inj h]) (by rw [← Option.some.inj h]) gdX11_whither_30
  ·
    refine g_iconst E gdX11_whither_11 ?_
    exact g_iret E hQ (by rw [← Option.some.inj h]) (by rw [← Option.some.inj h]) gdX11_whither_12
set_option maxHeartbeats 4000000 in
set_option maxRecDepth 100000 in
theorem c_X11_who (l : Launch) (g : GG) (ad : Nat → Nat) (o : OO) (x1 : Int) (x2 : Int) (v : Int × OO) (h : s_X11_who o x1 x2 = some v) : CI l g yX11_who cX11_who 3 (some .int) 1 22 (wC g ad o) [.ref (ad 0), iv x1, iv x2] v.1 (wC g ad v.2) := by
  refine met_I (by decide) (Nat.le_of_ble_eq_true rfl) ?_
  intro X E hQ
  show Go X 0 (wC g ad o) [(0, .ref (ad 0)), (1, iv x1), (2, iv x2)] []
  have j20 : ∀ (o : OO), b_X11_who_20 o = some v → Go X 20 (wC g ad o) [] [] := by
    intro o h
    unfold b_X11_who_20 at h
    refine g_iconst E gdX11_who_20 ?_
    exact g_iret E hQ (by rw [← Option.some.inj h]) (by rw [← Option.some.inj h]) gdX11_who_21
  unfold s_X11_who at h
  refine g_aload_n E gdX11_who_0 rfl 0 rfl ?_
  refine g_get (T := TX11) E fw_X11 0 (wC_0 g ad o) rfl 4 (by decide) w_462 rfl rfl gdX11_who_1 ?_
  refine g_iload_n E gdX11_who_4 rfl 1 rfl ?_
  obtain ⟨r1, hc2, h⟩ := qB_of h
  refine g_Vi (r := r1) (As := [iv x1]) (rest := []) (w := wC g ad o) E (c_X5_exists l g ad o x1 r1 hc2) okm_X5_exists okw_X5_exists w_735 rfl (wC_23 g ad o) rfl rfl (Nat.le_of_ble_eq_true rfl) ⟨Nat.le_of_ble_eq_true rfl, Nat.le_of_ble_eq_true rfl⟩ gdX11_who_5 ?_
  refine g_if_eq E 20 gdX11_who_8 (by decide) h (fun h => ?_) (fun h => ?_)
  ·
    refine g_sub E [] rfl ?_
    exact j20 o h
  ·
    refine g_iload_n E gdX11_who_11 rfl 2 rfl ?_
    refine g_if_lt E 20 gdX11_who_12 (by decide) h (fun h => ?_) (fun h => ?_)
    ·
      refine g_sub E [] rfl ?_
      exact j20 o h
    ·
      refine g_iload_n E gdX11_who_15 rfl 2 rfl ?_
      refine g_iconst E gdX11_who_16 ?_
      refine g_icmp_le E 22 gdX11_who_17 (by decide) h (fun h => ?_) (fun h => ?_)
      ·
        refine g_aload_n E gdX11_who_22 rfl 0 rfl ?_
        refine g_aload_n E gdX11_who_23 rfl 0 rfl ?_
        refine g_get (T := TX11) E fw_X11 0 (wC_0 g ad o) rfl 4 (by decide) w_462 rfl rfl gdX11_who_24 ?_
        refine g_iload_n E gdX11_who_27 rfl 1 rfl ?_
        refine g_iload_n E gdX11_who_28 rfl 2 rfl ?_
        obtain ⟨r3, hc4, h⟩ := qB_of h
        refine g_Vi (r := r3) (As := [iv x1, iv x2]) (rest := [.ref (ad 0)]) (w := wC g ad o) E (c_X5_trait l g ad o x1 x2 r3 hc4) okm_X5_trait okw_X5_trait w_739 rfl (wC_23 g ad o) rfl rfl (Nat.le_of_ble_eq_true rfl) ⟨Nat.le_of_ble_eq_true rfl, Nat.le_of_ble_eq_true rfl⟩ gdX11_who_29 ?_
        obtain ⟨r5, o7, hc6, h⟩ := qB2_of h
        refine g_Vi (r := r5) (As := [iv r3]) (rest := []) (w := wC g ad o7) E (c_X11_tell l g ad o r3 (r5, o7) hc6) okm_X11_tell okw_X11_tell w_551 rfl (wC_0 g ad o) rfl rfl (Nat.le_of_ble_eq_true rfl) ⟨Nat.le_of_ble_eq_true rfl, Nat.le_of_ble_eq_true rfl⟩ gdX11_who_32 ?_
        exact g_iret E hQ (by rw [← Option.some.inj h]) (by rw [← Option.some.inj h]) gdX11_who_35
      ·
        refine g_sub E [] rfl ?_
        exact j20 o h
set_option maxHeartbeats 4000000 in
set_option maxRecDepth 100000 in
theorem c_X11_why (l : Launch) (g : GG) (ad : Nat → Nat) (o : OO) (x1 : Int) (x2 : Int) (x3 : Int) (v : Int) (h : s_X11_why o x1 x2 x3 = some v) : CI l g yX11_why cX11_why 4 (some .int) 1 25 (wC g ad o) [.ref (ad 0), iv x1, iv x2, iv x3] v (wC g ad o) := by
  refine met_I (by decide) (Nat.le_of_ble_eq_true rfl) ?_
  intro X E hQ
  show Go X 0 (wC g ad o) [(0, .ref (ad 0)), (1, iv x1), (2, iv x2), (3, iv x3)] []
  have j21 : b_X11_why_21 o = some v → Go X 21 (wC g ad o) [] [] := by
    intro h
    unfold b_X11_why_21 at h
    refine g_iconst E gdX11_why_21 ?_
    exact g_iret E hQ (Option.some.inj h) rfl gdX11_why_22
  unfold s_X11_why at h
  refine g_iload_n E gdX11_why_0 rfl 1 rfl ?_
  obtain ⟨r1, hc2, h⟩ := qB_of h
  refine g_Si (r := r1) (As := [iv x1]) (rest := []) (w := wC g ad o) E (c_X7_isLetter l g (wC g ad o) x1 r1 hc2) okm_X7_isLetter w_769 w_768 rfl rfl (Nat.le_of_ble_eq_true rfl) ⟨Nat.le_of_ble_eq_true rfl, Nat.le_of_ble_eq_true rfl⟩ gdX11_why_1 ?_
  refine g_if_eq E 21 gdX11_why_4 (by decide) h (fun h => ?_) (fun h => ?_)
  ·
    refine g_sub E [] rfl ?_
    exact j21  h
  ·
    refine g_iload_n E gdX11_why_7 rfl 2 rfl ?_
    obtain ⟨r3, hc4, h⟩ := qB_of h
    refine g_Si (r := r3) (As := [iv x2]) (rest := []) (w := wC g ad o) E (c_X11_isDay l g (wC g ad o) x2 r3 hc4) okm_X11_isDay w_685 w_684 rfl rfl (Nat.le_of_ble_eq_true rfl) ⟨Nat.le_of_ble_eq_true rfl, Nat.le_of_ble_eq_true rfl⟩ gdX11_why_8 ?_
    refine g_if_eq E 21 gdX11_why_11 (by decide) h (fun h => ?_) (fun h => ?_)
    ·
      refine g_sub E [] rfl ?_
      exact j21  h
    ·
      refine g_iload_n E gdX11_why_14 rfl 3 rfl ?_
      obtain ⟨r5, hc6, h⟩ := qB_of h
      refine g_Si (r := r5) (As := [iv x3]) (rest := []) (w := wC g ad o) E (c_X11_isDay l g (wC g ad o) x3 r5 hc6) okm_X11_isDay w_685 w_684 rfl rfl (Nat.le_of_ble_eq_true rfl) ⟨Nat.le_of_ble_eq_true rfl, Nat.le_of_ble_eq_true rfl⟩ gdX11_why_15 ?_
      refine g_if_ne E 23 gdX11_why_18 (by decide) h (fun h => ?_) (fun h => ?_)
      ·
        refine g_aload_n E gdX11_why_23 rfl 0 rfl ?_
        refine g_get (T := TX11) E fw_X11 0 (wC_0 g ad o) rfl 5 (by decide) w_463 rfl rfl gdX11_why_24 ?_
        refine g_iload_n E gdX11_why_27 rfl 1 rfl ?_
        refine g_iload_n E gdX11_why_28 rfl 2 rfl ?_
        refine g_iload_n E gdX11_why_29 rfl 3 rfl ?_
        obtain ⟨r7, hc8, h⟩ := qB_of h
        refine g_Vi (r := r7) (As := [iv x1, iv x2, iv x3]) (rest := []) (w := wC g ad o) E (c_X7_deciding l g ad o x1 x2 x3 r7 hc8) okm_X7_deciding okw_X7_deciding w_785 rfl (wC_28 g ad o) rfl rfl (Nat.le_of_ble_eq_true rfl) ⟨Nat.le_of_ble_eq_true rfl, Nat.le_of_ble_eq_true rfl⟩ gdX11_why_30 ?_
        exact g_iret E hQ (Option.some.inj h) rfl gdX11_why_33
      ·
        refine g_sub E [] rfl ?_
        exact j21  h
set_option maxHeartbeats 4000000 in
set_option maxRecDepth 100000 in
theorem c_X11_worth (l : Launch) (g : GG) (ad : Nat → Nat) (o : OO) (x1 : Int) (x2 : Int) (v : Int × OO) (h : s_X11_worth o x1 x2 = some v) : CI l g yX11_worth cX11_worth 4 (some .int) 1 23 (wC g ad o) [.ref (ad 0), iv x1, iv x2] v.1 (wC g ad v.2) := by
  refine met_I (by decide) (Nat.le_of_ble_eq_true rfl) ?_
  intro X E hQ
  show Go X 0 (wC g ad o) [(0, .ref (ad 0)), (1, iv x1), (2, iv x2)] []
  have j18 : ∀ (o : OO), b_X11_worth_18 o = some v → Go X 18 (wC g ad o) [] [] := by
    intro o h
    unfold b_X11_worth_18 at h
    refine g_iconst E gdX11_worth_18 ?_
    exact g_iret E hQ (by rw [← Option.some.inj h]) (by rw [← Option.some.inj h]) gdX11_worth_19
  unfold s_X11_worth at h
  refine g_aload_n E gdX11_worth_0 rfl 0 rfl ?_
  refine g_get (T := TX11) E fw_X11 0 (wC_0 g ad o) rfl 3 (by decide) w_461 rfl rfl gdX11_worth_1 ?_
  refine g_iload_n E gdX11_worth_4 rfl 1 rfl ?_
  obtain ⟨r1, hc2, h⟩ := qB_of h
  refine g_Vi (r := r1) (As := [iv x1]) (rest := []) (w := wC g ad o) E (c_X1_exists l g ad o x1 r1 hc2) okm_X1_exists okw_X1_exists w_667 rfl (wC_10 g ad o) rfl rfl (Nat.le_of_ble_eq_true rfl) ⟨Nat.le_of_ble_eq_true rfl, Nat.le_of_ble_eq_true rfl⟩ gdX11_worth_5 ?_
  refine g_if_eq E 18 gdX11_worth_8 (by decide) h (fun h => ?_) (fun h => ?_)
  ·
    refine g_sub E [] rfl ?_
    exact j18 o h
  ·
    refine g_iload_n E gdX11_worth_11 rfl 2 rfl ?_
    obtain ⟨r3, hc4, h⟩ := qB_of h
    refine g_Si (r := r3) (As := [iv x2]) (rest := []) (w := wC g ad o) E (c_X1_isWorth l g (wC g ad o) x2 r3 hc4) okm_X1_isWorth w_640 w_639 rfl rfl (Nat.le_of_ble_eq_true rfl) ⟨Nat.le_of_ble_eq_true rfl, Nat.le_of_ble_eq_true rfl⟩ gdX11_worth_12 ?_
    refine g_if_ne E 20 gdX11_worth_15 (by decide) h (fun h => ?_) (fun h => ?_)
    ·
      refine g_aload_n E gdX11_worth_20 rfl 0 rfl ?_
      refine g_get (T := TX11) E fw_X11 0 (wC_0 g ad o) rfl 3 (by decide) w_461 rfl rfl gdX11_worth_21 ?_
      refine g_iload_n E gdX11_worth_24 rfl 1 rfl ?_
      obtain ⟨r5, hc6, h⟩ := qB_of h
      refine g_Vi (r := r5) (As := [iv x1]) (rest := []) (w := wC g ad o) E (c_X1_isTaken l g ad o x1 r5 hc6) okm_X1_isTaken okw_X1_isTaken w_671 rfl (wC_10 g ad o) rfl rfl (Nat.le_of_ble_eq_true rfl) ⟨Nat.le_of_ble_eq_true rfl, Nat.le_of_ble_eq_true rfl⟩ gdX11_worth_25 ?_
      refine g_if_eq E 34 gdX11_worth_28 (by decide) h (fun h => ?_) (fun h => ?_)
      ·
        refine g_aload_n E gdX11_worth_34 rfl 0 rfl ?_
        refine g_get (T := TX11) E fw_X11 0 (wC_0 g ad o) rfl 3 (by decide) w_461 rfl rfl gdX11_worth_35 ?_
        obtain ⟨r7, hc8, h⟩ := qB_of h
        refine g_Vi (r := r7) (As := []) (rest := []) (w := wC g ad o) E (c_X1_tellingsLeft l g ad o r7 hc8) okm_X1_tellingsLeft okw_X1_tellingsLeft w_647 rfl (wC_10 g ad o) rfl rfl (Nat.le_of_ble_eq_true rfl) ⟨Nat.le_of_ble_eq_true rfl, Nat.le_of_ble_eq_true rfl⟩ gdX11_worth_38 ?_
        refine g_iconst E gdX11_worth_41 ?_
        refine g_icmp_ge E 48 gdX11_worth_42 (by decide) h (fun h => ?_) (fun h => ?_)
        ·
          refine g_aload_n E gdX11_worth_48 rfl 0 rfl ?_
          refine g_get (T := TX11) E fw_X11 0 (wC_0 g ad o) rfl 3 (by decide) w_461 rfl rfl gdX11_worth_49 ?_
          refine g_iload_n E gdX11_worth_52 rfl 1 rfl ?_
          obtain ⟨r9, hc10, h⟩ := qB_of h
          refine g_Vi (r := r9) (As := [iv x1]) (rest := []) (w := wC g ad o) E (c_X1_latestWorth l g ad o x1 r9 hc10) okm_X1_latestWorth okw_X1_latestWorth w_675 rfl (wC_10 g ad o) rfl rfl (Nat.le_of_ble_eq_true rfl) ⟨Nat.le_of_ble_eq_true rfl, Nat.le_of_ble_eq_true rfl⟩ gdX11_worth_53 ?_
          refine g_istore_n E [(3, iv r9), (0, .ref (ad 0)), (1, iv x1), (2, iv x2)] gdX11_worth_56 rfl (by decide) rfl ?_
          refine g_aload_n E gdX11_worth_57 rfl 1 rfl ?_
          refine g_get (T := TX11) E fw_X11 0 (wC_0 g ad o) rfl 3 (by decide) w_461 rfl rfl gdX11_worth_58 ?_
          refine g_iload_n E gdX11_worth_61 rfl 2 rfl ?_
          refine g_iload_n E gdX11_worth_62 rfl 3 rfl ?_
          refine g_aload_n E gdX11_worth_63 rfl 1 rfl ?_
          refine g_get (T := TX11) E fw_X11 0 (wC_0 g ad o) rfl 13 (by decide) w_471 rfl rfl gdX11_worth_64 ?_
          obtain ⟨o13, hc12, h⟩ := qB_of h
          refine g_Vv (As := [iv x1, iv x2, iv (o.1 0 13)]) (rest := []) (w := wC g ad o13) E (c_X1_assess l g ad o x1 x2 (o.1 0 13) o13 hc12) okm_X1_assess okw_X1_assess w_679 rfl (wC_10 g ad o) rfl rfl (Nat.le_of_ble_eq_true rfl) ⟨Nat.le_of_ble_eq_true rfl, Nat.le_of_ble_eq_true rfl⟩ gdX11_worth_67 ?_
          refine g_iload_n E gdX11_worth_70 rfl 0 rfl ?_
          exact g_iret E hQ (by rw [← Option.some.inj h]) (by rw [← Option.some.inj h]) gdX11_worth_71
        ·
          refine g_bipush E gdX11_worth_45 (by decide) ?_
          exact g_iret E hQ (by rw [← Option.some.inj h]) (by rw [← Option.some.inj h]) gdX11_worth_47
      ·
        refine g_bipush E gdX11_worth_31 (by decide) ?_
        exact g_iret E hQ (by rw [← Option.some.inj h]) (by rw [← Option.some.inj h]) gdX11_worth_33
    ·
      refine g_sub E [] rfl ?_
      exact j18 o h
