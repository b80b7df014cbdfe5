set_option maxRecDepth 200000 in
theorem w_1327 : Cond.methodLink "CityRoad$Stopper" 30 yX3_onward ∈ tb := tb_mem 1327 (by decide +kernel) rfl
set_option maxRecDepth 200000 in
theorem w_439 : Cond.fieldLink "CityRoad$Stopper" 11 "CityRoad$Stopper" "open" "[J" ∈ tb := tb_mem 439 (by decide +kernel) rfl
set_option maxRecDepth 200000 in
theorem w_1328 : Cond.methodLink "CityRoad$Stopper" 34 yX3_bit ∈ tb := tb_mem 1328 (by decide +kernel) rfl
set_option maxRecDepth 200000 in
theorem w_1334 : Cond.methodLink "CityRoad$Stopper" 40 yX3_has ∈ tb := tb_mem 1334 (by decide +kernel) rfl
set_option maxRecDepth 200000 in
theorem w_1333 : Cond.constantLong "CityRoad$Stopper" 38 (-1) ∈ tb := tb_mem 1333 (by decide +kernel) rfl
set_option maxRecDepth 200000 in
theorem w_440 : Cond.fieldLink "CityRoad$Stopper" 17 "CityRoad$Stopper" "before" "[I" ∈ tb := tb_mem 440 (by decide +kernel) rfl
set_option maxRecDepth 200000 in
theorem w_441 : Cond.fieldLink "CityRoad$Stopper" 21 "CityRoad$Stopper" "queue" "[I" ∈ tb := tb_mem 441 (by decide +kernel) rfl
set_option maxRecDepth 200000 in
theorem w_444 : Cond.fieldLink "CityRoad$Stopper" 58 "CityRoad$Stopper" "queued" "I" ∈ tb := tb_mem 444 (by decide +kernel) rfl
set_option maxRecDepth 200000 in
theorem w_442 : Cond.fieldLink "CityRoad$Stopper" 24 "CityRoad$Stopper" "through" "[I" ∈ tb := tb_mem 442 (by decide +kernel) rfl
set_option maxRecDepth 200000 in
theorem w_1349 : Cond.code yX9_visit cX9_visit 3 none ∈ tb := tb_mem 1349 (by rfl) rfl
set_option maxRecDepth 200000 in
theorem w_102 : Cond.initialized "CityRoad$Stopper" ∈ tb := tb_mem 102 (by decide +kernel) rfl
set_option maxRecDepth 200000 in
theorem w_1348 : Cond.instanceMethod yX9_visit ∈ tb := tb_mem 1348 (by decide +kernel) rfl
set_option maxRecDepth 200000 in
theorem w_31 : Cond.selects "CityRoad$Stopper" yX9_visit yX9_visit ∈ tb := tb_mem 31 (by decide +kernel) rfl
set_option maxRecDepth 200000 in
theorem w_1346 : Cond.methodLink "CityRoad$Stopper" 62 yX9_visit ∈ tb := tb_mem 1346 (by decide +kernel) rfl
set_option maxRecDepth 200000 in
theorem w_1354 : Cond.methodLink "CityRoad$Stopper" 72 yX3_beside ∈ tb := tb_mem 1354 (by decide +kernel) rfl
set_option maxRecDepth 200000 in
theorem w_443 : Cond.fieldLink "CityRoad$Stopper" 27 "CityRoad$Stopper" "along" "[I" ∈ tb := tb_mem 443 (by decide +kernel) rfl
set_option maxRecDepth 200000 in
theorem w_1361 : Cond.code yX3_back cX3_back 1 (some .int) ∈ tb := tb_mem 1361 (by rfl) rfl
set_option maxRecDepth 200000 in
theorem w_1360 : Cond.static yX3_back ∈ tb := tb_mem 1360 (by decide +kernel) rfl
set_option maxRecDepth 200000 in
theorem w_1359 : Cond.methodLink "CityRoad$Stopper" 76 yX3_back ∈ tb := tb_mem 1359 (by decide +kernel) rfl
set_option maxRecDepth 200000 in
theorem w_1358 : Cond.code yX9_enter cX9_enter 5 none ∈ tb := tb_mem 1358 (by rfl) rfl
set_option maxRecDepth 200000 in
theorem w_1357 : Cond.instanceMethod yX9_enter ∈ tb := tb_mem 1357 (by decide +kernel) rfl
set_option maxRecDepth 200000 in
theorem w_33 : Cond.selects "CityRoad$Stopper" yX9_enter yX9_enter ∈ tb := tb_mem 33 (by decide +kernel) rfl
set_option maxRecDepth 200000 in
theorem w_1355 : Cond.methodLink "CityRoad$Stopper" 69 yX9_enter ∈ tb := tb_mem 1355 (by decide +kernel) rfl
set_option maxRecDepth 200000 in
theorem w_1353 : Cond.code yX9_leave cX9_leave 3 none ∈ tb := tb_mem 1353 (by rfl) rfl
set_option maxRecDepth 200000 in
theorem w_1352 : Cond.instanceMethod yX9_leave ∈ tb := tb_mem 1352 (by decide +kernel) rfl
set_option maxRecDepth 200000 in
theorem w_32 : Cond.selects "CityRoad$Stopper" yX9_leave yX9_leave ∈ tb := tb_mem 32 (by decide +kernel) rfl
set_option maxRecDepth 200000 in
theorem w_1350 : Cond.methodLink "CityRoad$Stopper" 65 yX9_leave ∈ tb := tb_mem 1350 (by decide +kernel) rfl
set_option maxRecDepth 200000 in
theorem w_1341 : Cond.methodLink "CityRoad$Stopper" 44 yJ7_fill_53178 ∈ tb := tb_mem 1341 (by decide +kernel) rfl
set_option maxRecDepth 200000 in
theorem w_1368 : Cond.code yX3_wayTo cX3_wayTo 2 (some .int) ∈ tb := tb_mem 1368 (by rfl) rfl
set_option maxRecDepth 200000 in
theorem w_1367 : Cond.static yX3_wayTo ∈ tb := tb_mem 1367 (by decide +kernel) rfl
set_option maxRecDepth 200000 in
theorem w_1366 : Cond.methodLink "CityRoad$Stopper" 80 yX3_wayTo ∈ tb := tb_mem 1366 (by decide +kernel) rfl
set_option maxRecDepth 200000 in
theorem w_1345 : Cond.code yX9_search cX9_search 7 (some .boolean) ∈ tb := tb_mem 1345 (by rfl) rfl
set_option maxRecDepth 200000 in
theorem w_1344 : Cond.instanceMethod yX9_search ∈ tb := tb_mem 1344 (by decide +kernel) rfl
set_option maxRecDepth 200000 in
theorem w_30 : Cond.selects "CityRoad$Stopper" yX9_search yX9_search ∈ tb := tb_mem 30 (by decide +kernel) rfl
set_option maxRecDepth 200000 in
theorem w_1342 : Cond.methodLink "CityRoad$Stopper" 50 yX9_search ∈ tb := tb_mem 1342 (by decide +kernel) rfl
set_option maxRecDepth 200000 in
theorem w_1365 : Cond.code yX9_push cX9_push 9 none ∈ tb := tb_mem 1365 (by rfl) rfl
set_option maxRecDepth 200000 in
theorem w_1364 : Cond.instanceMethod yX9_push ∈ tb := tb_mem 1364 (by decide +kernel) rfl
set_option maxRecDepth 200000 in
theorem w_34 : Cond.selects "CityRoad$Stopper" yX9_push yX9_push ∈ tb := tb_mem 34 (by decide +kernel) rfl
set_option maxRecDepth 200000 in
theorem w_1362 : Cond.methodLink "CityRoad$Stopper" 54 yX9_push ∈ tb := tb_mem 1362 (by decide +kernel) rfl
set_option maxRecDepth 200000 in
theorem w_469 : Cond.fieldLink "CityRoad" 87 "CityRoad" "stopper" "LCityRoad$Stopper;" ∈ tb := tb_mem 469 (by decide +kernel) rfl
set_option maxRecDepth 200000 in
theorem w_1326 : Cond.code yX9_survey cX9_survey 5 none ∈ tb := tb_mem 1326 (by rfl) rfl
set_option maxRecDepth 200000 in
theorem w_1324 : Cond.instanceMethod yX9_survey ∈ tb := tb_mem 1324 (by decide +kernel) rfl
set_option maxRecDepth 200000 in
theorem w_1325 : Cond.selects "CityRoad$Stopper" yX9_survey yX9_survey ∈ tb := tb_mem 1325 (by decide +kernel) rfl
set_option maxRecDepth 200000 in
theorem w_1323 : Cond.methodLink "CityRoad" 441 yX9_survey ∈ tb := tb_mem 1323 (by decide +kernel) rfl
set_option maxRecDepth 200000 in
theorem w_1332 : Cond.code yX9_connects cX9_connects 10 (some .boolean) ∈ tb := tb_mem 1332 (by rfl) rfl
set_option maxRecDepth 200000 in
theorem w_1330 : Cond.instanceMethod yX9_connects ∈ tb := tb_mem 1330 (by decide +kernel) rfl
set_option maxRecDepth 200000 in
theorem w_1331 : Cond.selects "CityRoad$Stopper" yX9_connects yX9_connects ∈ tb := tb_mem 1331 (by decide +kernel) rfl
set_option maxRecDepth 200000 in
theorem w_1329 : Cond.methodLink "CityRoad" 445 yX9_connects ∈ tb := tb_mem 1329 (by decide +kernel) rfl
set_option maxRecDepth 200000 in
theorem w_1335 : Cond.methodLink "CityRoad" 449 yX1_standingCells ∈ tb := tb_mem 1335 (by decide +kernel) rfl
set_option maxRecDepth 200000 in
theorem w_1336 : Cond.methodLink "CityRoad" 452 yX3_bit ∈ tb := tb_mem 1336 (by decide +kernel) rfl
set_option maxRecDepth 200000 in
theorem w_1340 : Cond.code yX9_nearestCut cX9_nearestCut 8 (some .long) ∈ tb := tb_mem 1340 (by rfl) rfl
set_option maxRecDepth 200000 in
theorem w_1338 : Cond.instanceMethod yX9_nearestCut ∈ tb := tb_mem 1338 (by decide +kernel) rfl
set_option maxRecDepth 200000 in
theorem w_1339 : Cond.selects "CityRoad$Stopper" yX9_nearestCut yX9_nearestCut ∈ tb := tb_mem 1339 (by decide +kernel) rfl
set_option maxRecDepth 200000 in
theorem w_1337 : Cond.methodLink "CityRoad" 455 yX9_nearestCut ∈ tb := tb_mem 1337 (by decide +kernel) rfl
set_option maxRecDepth 200000 in
theorem w_966 : Cond.code yX5_turnOut cX5_turnOut 5 (some .long) ∈ tb := tb_mem 966 (by rfl) rfl
set_option maxRecDepth 200000 in
theorem w_964 : Cond.instanceMethod yX5_turnOut ∈ tb := tb_mem 964 (by decide +kernel) rfl
set_option maxRecDepth 200000 in
theorem w_965 : Cond.selects "CityRoad$Persons" yX5_turnOut yX5_turnOut ∈ tb := tb_mem 965 (by decide +kernel) rfl
set_option maxRecDepth 200000 in
theorem w_963 : Cond.methodLink "CityRoad" 294 yX5_turnOut ∈ tb := tb_mem 963 (by decide +kernel) rfl
set_option maxRecDepth 200000 in
theorem w_970 : Cond.code yX4_setTaking cX4_setTaking 5 none ∈ tb := tb_mem 970 (by rfl) rfl
set_option maxRecDepth 200000 in
theorem w_968 : Cond.instanceMethod yX4_setTaking ∈ tb := tb_mem 968 (by decide +kernel) rfl
set_option maxRecDepth 200000 in
theorem w_969 : Cond.selects "CityRoad$Marks" yX4_setTaking yX4_setTaking ∈ tb := tb_mem 969 (by decide +kernel) rfl
set_option maxRecDepth 200000 in
theorem w_967 : Cond.methodLink "CityRoad" 297 yX4_setTaking ∈ tb := tb_mem 967 (by decide +kernel) rfl
set_option maxRecDepth 200000 in
theorem w_974 : Cond.code yX1_remove cX1_remove 2 none ∈ tb := tb_mem 974 (by rfl) rfl
set_option maxRecDepth 200000 in
theorem w_972 : Cond.instanceMethod yX1_remove ∈ tb := tb_mem 972 (by decide +kernel) rfl
set_option maxRecDepth 200000 in
theorem w_973 : Cond.selects "CityRoad$Buildings" yX1_remove yX1_remove ∈ tb := tb_mem 973 (by decide +kernel) rfl
set_option maxRecDepth 200000 in
theorem w_971 : Cond.methodLink "CityRoad" 301 yX1_remove ∈ tb := tb_mem 971 (by decide +kernel) rfl
set_option maxRecDepth 200000 in
theorem w_690 : Cond.code yX1_worthBy cX1_worthBy 5 (some .int) ∈ tb := tb_mem 690 (by rfl) rfl
set_option maxRecDepth 200000 in
theorem w_688 : Cond.instanceMethod yX1_worthBy ∈ tb := tb_mem 688 (by decide +kernel) rfl
set_option maxRecDepth 200000 in
theorem w_689 : Cond.selects "CityRoad$Buildings" yX1_worthBy yX1_worthBy ∈ tb := tb_mem 689 (by decide +kernel) rfl
set_option maxRecDepth 200000 in
theorem w_687 : Cond.methodLink "CityRoad" 183 yX1_worthBy ∈ tb := tb_mem 687 (by decide +kernel) rfl
set_option maxRecDepth 200000 in
theorem w_962 : Cond.code yX1_firstWorth cX1_firstWorth 3 (some .int) ∈ tb := tb_mem 962 (by rfl) rfl
set_option maxRecDepth 200000 in
theorem w_960 : Cond.instanceMethod yX1_firstWorth ∈ tb := tb_mem 960 (by decide +kernel) rfl
set_option maxRecDepth 200000 in
theorem w_961 : Cond.selects "CityRoad$Buildings" yX1_firstWorth yX1_firstWorth ∈ tb := tb_mem 961 (by decide +kernel) rfl
set_option maxRecDepth 200000 in
theorem w_959 : Cond.methodLink "CityRoad" 291 yX1_firstWorth ∈ tb := tb_mem 959 (by decide +kernel) rfl
set_option maxRecDepth 200000 in
theorem w_562 : Cond.code yX8_remove cX8_remove 2 none ∈ tb := tb_mem 562 (by rfl) rfl
set_option maxRecDepth 200000 in
theorem w_560 : Cond.instanceMethod yX8_remove ∈ tb := tb_mem 560 (by decide +kernel) rfl
set_option maxRecDepth 200000 in
theorem w_561 : Cond.selects "CityRoad$Shelf" yX8_remove yX8_remove ∈ tb := tb_mem 561 (by decide +kernel) rfl
set_option maxRecDepth 200000 in
theorem w_559 : Cond.methodLink "CityRoad" 120 yX8_remove ∈ tb := tb_mem 559 (by decide +kernel) rfl
set_option maxRecDepth 200000 in
theorem w_1015 : Cond.methodLink "CityRoad" 321 yX4_trait ∈ tb := tb_mem 1015 (by decide +kernel) rfl
set_option maxRecDepth 200000 in
theorem w_1139 : Cond.methodLink "CityRoad$Rehousing" 65 yX1_number ∈ tb := tb_mem 1139 (by decide +kernel) rfl
set_option maxRecDepth 200000 in
theorem w_1140 : Cond.methodLink "CityRoad$Rehousing" 69 yX1_roomsLeft ∈ tb := tb_mem 1140 (by decide +kernel) rfl
set_option maxRecDepth 200000 in
theorem w_1141 : Cond.methodLink "CityRoad$Rehousing" 73 yX1_cellOfOne ∈ tb := tb_mem 1141 (by decide +kernel) rfl
set_option maxRecDepth 200000 in
theorem w_1142 : Cond.methodLink "CityRoad$Rehousing" 76 yX3_has ∈ tb := tb_mem 1142 (by decide +kernel) rfl
set_option maxRecDepth 200000 in
theorem w_381 : Cond.fieldLink "CityRoad$Rehousing" 19 "CityRoad$Rehousing" "left" "[I" ∈ tb := tb_mem 381 (by decide +kernel) rfl
set_option maxRecDepth 200000 in
theorem w_386 : Cond.fieldLink "CityRoad$Rehousing" 42 "CityRoad$Rehousing" "nowhere" "I" ∈ tb := tb_mem 386 (by decide +kernel) rfl
set_option maxRecDepth 200000 in
theorem w_382 : Cond.fieldLink "CityRoad$Rehousing" 22 "CityRoad$Rehousing" "cells" "[I" ∈ tb := tb_mem 382 (by decide +kernel) rfl
theorem gdX11_shown_0 : decode cX11_shown 0 = .ok (.aload_n 0, 1) := by decide +kernel
theorem gdX11_shown_1 : decode cX11_shown 1 = .ok (.getfield 52, 3) := by decide +kernel
theorem gdX11_shown_4 : decode cX11_shown 4 = .ok (.iload_n 1, 1) := by decide +kernel
theorem gdX11_shown_5 : decode cX11_shown 5 = .ok (.invokevirtual 250, 3) := by decide +kernel
theorem gdX11_shown_8 : decode cX11_shown 8 = .ok (.ifCond .ne 5, 3) := by decide +kernel
theorem gdX11_shown_13 : decode cX11_shown 13 = .ok (.aload_n 0, 1) := by decide +kernel
theorem gdX11_shown_14 : decode cX11_shown 14 = .ok (.getfield 52, 3) := by decide +kernel
theorem gdX11_shown_17 : decode cX11_shown 17 = .ok (.iload_n 1, 1) := by decide +kernel
theorem gdX11_shown_18 : decode cX11_shown 18 = .ok (.iconst 1, 1) := by decide +kernel
theorem gdX11_shown_19 : decode cX11_shown 19 = .ok (.invokevirtual 251, 3) := by decide +kernel
theorem gdX11_shown_22 : decode cX11_shown 22 = .ok (.ifCond .ne 9, 3) := by decide +kernel
theorem gdX11_shown_31 : decode cX11_shown 31 = .ok (.aload_n 0, 1) := by decide +kernel
theorem gdX11_shown_32 : decode cX11_shown 32 = .ok (.getfield 52, 3) := by decide +kernel
theorem gdX11_shown_35 : decode cX11_shown 35 = .ok (.iload_n 1, 1) := by decide +kernel
theorem gdX11_shown_36 : decode cX11_shown 36 = .ok (.invokevirtual 272, 3) := by decide +kernel
theorem gdX11_shown_39 : decode cX11_shown 39 = .ok (.ireturn, 1) := by decide +kernel
theorem gdX11_shown_25 : decode cX11_shown 25 = .ok (.aload_n 0, 1) := by decide +kernel
theorem gdX11_shown_26 : decode cX11_shown 26 = .ok (.iconst 3, 1) := by decide +kernel
theorem gdX11_shown_27 : decode cX11_shown 27 = .ok (.invokevirtual 99, 3) := by decide +kernel
theorem gdX11_shown_30 : decode cX11_shown 30 = .ok (.ireturn, 1) := by decide +kernel
theorem gdX11_shown_11 : decode cX11_shown 11 = .ok (.iconst (-1), 1) := by decide +kernel
theorem gdX11_shown_12 : decode cX11_shown 12 = .ok (.ireturn, 1) := by decide +kernel
theorem gdX9_survey_63 : decode cX9_survey 63 = .ok (.return_, 1) := by decide +kernel
theorem gdX9_survey_57 : decode cX9_survey 57 = .ok (.iinc 3 1, 3) := by decide +kernel
theorem gdX9_survey_60 : decode cX9_survey 60 = .ok (.goto (-58), 3) := by decide +kernel
theorem gdX9_survey_51 : decode cX9_survey 51 = .ok (.iinc 4 1, 3) := by decide +kernel
theorem gdX9_survey_54 : decode cX9_survey 54 = .ok (.goto (-37), 3) := by decide +kernel
theorem gdX9_survey_17 : decode cX9_survey 17 = .ok (.iload 4, 2) := by decide +kernel
theorem gdX9_survey_19 : decode cX9_survey 19 = .ok (.bipush 64, 2) := by decide +kernel
theorem gdX9_survey_21 : decode cX9_survey 21 = .ok (.if_icmp .ge 36, 3) := by decide +kernel
theorem gdX9_survey_24 : decode cX9_survey 24 = .ok (.aload_n 1, 1) := by decide +kernel
theorem gdX9_survey_25 : decode cX9_survey 25 = .ok (.iload 4, 2) := by decide +kernel
theorem gdX9_survey_27 : decode cX9_survey 27 = .ok (.iload_n 3, 1) := by decide +kernel
theorem gdX9_survey_28 : decode cX9_survey 28 = .ok (.iload_n 2, 1) := by decide +kernel
theorem gdX9_survey_29 : decode cX9_survey 29 = .ok (.invokevirtual 30, 3) := by decide +kernel
theorem gdX9_survey_32 : decode cX9_survey 32 = .ok (.bipush (-9), 2) := by decide +kernel
theorem gdX9_survey_34 : decode cX9_survey 34 = .ok (.if_icmp .eq 17, 3) := by decide +kernel
theorem gdX9_survey_37 : decode cX9_survey 37 = .ok (.aload_n 0, 1) := by decide +kernel
theorem gdX9_survey_38 : decode cX9_survey 38 = .ok (.getfield 11, 3) := by decide +kernel
theorem gdX9_survey_41 : decode cX9_survey 41 = .ok (.iload_n 3, 1) := by decide +kernel
theorem gdX9_survey_42 : decode cX9_survey 42 = .ok (.dup2, 1) := by decide +kernel
theorem gdX9_survey_43 : decode cX9_survey 43 = .ok (.laload, 1) := by decide +kernel
theorem gdX9_survey_44 : decode cX9_survey 44 = .ok (.iload 4, 2) := by decide +kernel
theorem gdX9_survey_46 : decode cX9_survey 46 = .ok (.invokestatic 34, 3) := by decide +kernel
theorem gdX9_survey_49 : decode cX9_survey 49 = .ok (.lor, 1) := by decide +kernel
theorem gdX9_survey_50 : decode cX9_survey 50 = .ok (.lastore, 1) := by decide +kernel
theorem gdX9_survey_2 : decode cX9_survey 2 = .ok (.iload_n 3, 1) := by decide +kernel
theorem gdX9_survey_3 : decode cX9_survey 3 = .ok (.iconst 4, 1) := by decide +kernel
theorem gdX9_survey_4 : decode cX9_survey 4 = .ok (.if_icmp .ge 59, 3) := by decide +kernel
theorem gdX9_survey_7 : decode cX9_survey 7 = .ok (.aload_n 0, 1) := by decide +kernel
theorem gdX9_survey_8 : decode cX9_survey 8 = .ok (.getfield 11, 3) := by decide +kernel
theorem gdX9_survey_11 : decode cX9_survey 11 = .ok (.iload_n 3, 1) := by decide +kernel
theorem gdX9_survey_12 : decode cX9_survey 12 = .ok (.lconst 0, 1) := by decide +kernel
theorem gdX9_survey_13 : decode cX9_survey 13 = .ok (.lastore, 1) := by decide +kernel
theorem gdX9_survey_14 : decode cX9_survey 14 = .ok (.iconst 0, 1) := by decide +kernel
theorem gdX9_survey_15 : decode cX9_survey 15 = .ok (.istore 4, 2) := by decide +kernel
theorem gdX9_survey_0 : decode cX9_survey 0 = .ok (.iconst 0, 1) := by decide +kernel
theorem gdX9_survey_1 : decode cX9_survey 1 = .ok (.istore_n 3, 1) := by decide +kernel
theorem gdX9_connects_97 : decode cX9_connects 97 = .ok (.lload 8, 2) := by decide +kernel
theorem gdX9_connects_99 : decode cX9_connects 99 = .ok (.iload_n 2, 1) := by decide +kernel
theorem gdX9_connects_100 : decode cX9_connects 100 = .ok (.invokestatic 40, 3) := by decide +kernel
theorem gdX9_connects_103 : decode cX9_connects 103 = .ok (.ireturn, 1) := by decide +kernel
theorem gdX9_connects_114 : decode cX9_connects 114 = .ok (.iconst 0, 1) := by decide +kernel
theorem gdX9_connects_115 : decode cX9_connects 115 = .ok (.ireturn, 1) := by decide +kernel
theorem gdX9_connects_9 : decode cX9_connects 9 = .ok (.iload 7, 2) := by decide +kernel
theorem gdX9_connects_11 : decode cX9_connects 11 = .ok (.bipush 64, 2) := by decide +kernel
theorem gdX9_connects_13 : decode cX9_connects 13 = .ok (.if_icmp .ge 101, 3) := by decide +kernel
theorem gdX9_connects_16 : decode cX9_connects 16 = .ok (.lload 5, 2) := by decide +kernel
theorem gdX9_connects_18 : decode cX9_connects 18 = .ok (.lload 5, 2) := by decide +kernel
theorem gdX9_connects_20 : decode cX9_connects 20 = .ok (.aload_n 0, 1) := by decide +kernel
theorem gdX9_connects_21 : decode cX9_connects 21 = .ok (.getfield 11, 3) := by decide +kernel
theorem gdX9_connects_24 : decode cX9_connects 24 = .ok (.iconst 0, 1) := by decide +kernel
theorem gdX9_connects_25 : decode cX9_connects 25 = .ok (.laload, 1) := by decide +kernel
theorem gdX9_connects_26 : decode cX9_connects 26 = .ok (.land, 1) := by decide +kernel
theorem gdX9_connects_27 : decode cX9_connects 27 = .ok (.bipush 8, 2) := by decide +kernel
theorem gdX9_connects_29 : decode cX9_connects 29 = .ok (.lushr, 1) := by decide +kernel
theorem gdX9_connects_30 : decode cX9_connects 30 = .ok (.lor, 1) := by decide +kernel
theorem gdX9_connects_31 : decode cX9_connects 31 = .ok (.lload 5, 2) := by decide +kernel
theorem gdX9_connects_33 : decode cX9_connects 33 = .ok (.aload_n 0, 1) := by decide +kernel
theorem gdX9_connects_34 : decode cX9_connects 34 = .ok (.getfield 11, 3) := by decide +kernel
theorem gdX9_connects_37 : decode cX9_connects 37 = .ok (.iconst 1, 1) := by decide +kernel
theorem gdX9_connects_38 : decode cX9_connects 38 = .ok (.laload, 1) := by decide +kernel
theorem gdX9_connects_39 : decode cX9_connects 39 = .ok (.land, 1) := by decide +kernel
theorem gdX9_connects_40 : decode cX9_connects 40 = .ok (.iconst 1, 1) := by decide +kernel
theorem gdX9_connects_41 : decode cX9_connects 41 = .ok (.lushr, 1) := by decide +kernel
theorem gdX9_connects_42 : decode cX9_connects 42 = .ok (.lor, 1) := by decide +kernel
theorem gdX9_connects_43 : decode cX9_connects 43 = .ok (.lload 5, 2) := by decide +kernel
theorem gdX9_connects_45 : decode cX9_connects 45 = .ok (.aload_n 0, 1) := by decide +kernel
theorem gdX9_connects_46 : decode cX9_connects 46 = .ok (.getfield 11, 3) := by decide +kernel
theorem gdX9_connects_49 : decode cX9_connects 49 = .ok (.iconst 2, 1) := by decide +kernel
theorem gdX9_connects_50 : decode cX9_connects 50 = .ok (.laload, 1) := by decide +kernel
theorem gdX9_connects_51 : decode cX9_connects 51 = .ok (.land, 1) := by decide +kernel
theorem gdX9_connects_52 : decode cX9_connects 52 = .ok (.iconst 1, 1) := by decide +kernel
theorem gdX9_connects_53 : decode cX9_connects 53 = .ok (.lshl, 1) := by decide +kernel
theorem gdX9_connects_54 : decode cX9_connects 54 = .ok (.lor, 1) := by decide +kernel
theorem gdX9_connects_55 : decode cX9_connects 55 = .ok (.lload 5, 2) := by decide +kernel
theorem gdX9_connects_57 : decode cX9_connects 57 = .ok (.aload_n 0, 1) := by decide +kernel
theorem gdX9_connects_58 : decode cX9_connects 58 = .ok (.getfield 11, 3) := by decide +kernel
theorem gdX9_connects_61 : decode cX9_connects 61 = .ok (.iconst 3, 1) := by decide +kernel
theorem gdX9_connects_62 : decode cX9_connects 62 = .ok (.laload, 1) := by decide +kernel
theorem gdX9_connects_63 : decode cX9_connects 63 = .ok (.land, 1) := by decide +kernel
theorem gdX9_connects_64 : decode cX9_connects 64 = .ok (.bipush 8, 2) := by decide +kernel
theorem gdX9_connects_66 : decode cX9_connects 66 = .ok (.lshl, 1) := by decide +kernel
theorem gdX9_connects_67 : decode cX9_connects 67 = .ok (.lor, 1) := by decide +kernel
theorem gdX9_connects_68 : decode cX9_connects 68 = .ok (.lstore 8, 2) := by decide +kernel
theorem gdX9_connects_70 : decode cX9_connects 70 = .ok (.lload 8, 2) := by decide +kernel
theorem gdX9_connects_72 : decode cX9_connects 72 = .ok (.lload_n 3, 1) := by decide +kernel
theorem gdX9_connects_73 : decode cX9_connects 73 = .ok (.ldc2_w 38, 3) := by decide +kernel
theorem gdX9_connects_76 : decode cX9_connects 76 = .ok (.lxor, 1) := by decide +kernel
theorem gdX9_connects_77 : decode cX9_connects 77 = .ok (.land, 1) := by decide +kernel
theorem gdX9_connects_78 : decode cX9_connects 78 = .ok (.lstore 8, 2) := by decide +kernel
theorem gdX9_connects_80 : decode cX9_connects 80 = .ok (.lload 8, 2) := by decide +kernel
theorem gdX9_connects_82 : decode cX9_connects 82 = .ok (.lload 5, 2) := by decide +kernel
theorem gdX9_connects_84 : decode cX9_connects 84 = .ok (.lcmp, 1) := by decide +kernel
theorem gdX9_connects_85 : decode cX9_connects 85 = .ok (.ifCond .eq 12, 3) := by decide +kernel
theorem gdX9_connects_88 : decode cX9_connects 88 = .ok (.lload 8, 2) := by decide +kernel
theorem gdX9_connects_90 : decode cX9_connects 90 = .ok (.iload_n 2, 1) := by decide +kernel
theorem gdX9_connects_91 : decode cX9_connects 91 = .ok (.invokestatic 40, 3) := by decide +kernel
theorem gdX9_connects_94 : decode cX9_connects 94 = .ok (.ifCond .eq 10, 3) := by decide +kernel
theorem gdX9_connects_104 : decode cX9_connects 104 = .ok (.lload 8, 2) := by decide +kernel
theorem gdX9_connects_106 : decode cX9_connects 106 = .ok (.lstore 5, 2) := by decide +kernel
theorem gdX9_connects_108 : decode cX9_connects 108 = .ok (.iinc 7 1, 3) := by decide +kernel
theorem gdX9_connects_111 : decode cX9_connects 111 = .ok (.goto (-102), 3) := by decide +kernel
theorem gdX9_connects_0 : decode cX9_connects 0 = .ok (.iload_n 1, 1) := by decide +kernel
theorem gdX9_connects_1 : decode cX9_connects 1 = .ok (.invokestatic 34, 3) := by decide +kernel
theorem gdX9_connects_4 : decode cX9_connects 4 = .ok (.lstore 5, 2) := by decide +kernel
theorem gdX9_connects_6 : decode cX9_connects 6 = .ok (.iconst 0, 1) := by decide +kernel
theorem gdX9_connects_7 : decode cX9_connects 7 = .ok (.istore 7, 2) := by decide +kernel
theorem gdX9_visit_0 : decode cX9_visit 0 = .ok (.aload_n 0, 1) := by decide +kernel
theorem gdX9_visit_1 : decode cX9_visit 1 = .ok (.getfield 17, 3) := by decide +kernel
theorem gdX9_visit_4 : decode cX9_visit 4 = .ok (.iload_n 1, 1) := by decide +kernel
theorem gdX9_visit_5 : decode cX9_visit 5 = .ok (.iaload, 1) := by decide +kernel
theorem gdX9_visit_6 : decode cX9_visit 6 = .ok (.bipush (-9), 2) := by decide +kernel
theorem gdX9_visit_8 : decode cX9_visit 8 = .ok (.if_icmp .eq 4, 3) := by decide +kernel
theorem gdX9_visit_12 : decode cX9_visit 12 = .ok (.aload_n 0, 1) := by decide +kernel
theorem gdX9_visit_13 : decode cX9_visit 13 = .ok (.getfield 17, 3) := by decide +kernel
theorem gdX9_visit_16 : decode cX9_visit 16 = .ok (.iload_n 1, 1) := by decide +kernel
theorem gdX9_visit_17 : decode cX9_visit 17 = .ok (.iload_n 2, 1) := by decide +kernel
theorem gdX9_visit_18 : decode cX9_visit 18 = .ok (.iastore, 1) := by decide +kernel
theorem gdX9_visit_19 : decode cX9_visit 19 = .ok (.aload_n 0, 1) := by decide +kernel
theorem gdX9_visit_20 : decode cX9_visit 20 = .ok (.getfield 21, 3) := by decide +kernel
theorem gdX9_visit_23 : decode cX9_visit 23 = .ok (.aload_n 0, 1) := by decide +kernel
theorem gdX9_visit_24 : decode cX9_visit 24 = .ok (.getfield 58, 3) := by decide +kernel
theorem gdX9_visit_27 : decode cX9_visit 27 = .ok (.iload_n 1, 1) := by decide +kernel
theorem gdX9_visit_28 : decode cX9_visit 28 = .ok (.iastore, 1) := by decide +kernel
theorem gdX9_visit_29 : decode cX9_visit 29 = .ok (.aload_n 0, 1) := by decide +kernel
theorem gdX9_visit_30 : decode cX9_visit 30 = .ok (.dup, 1) := by decide +kernel
theorem gdX9_visit_31 : decode cX9_visit 31 = .ok (.getfield 58, 3) := by decide +kernel
theorem gdX9_visit_34 : decode cX9_visit 34 = .ok (.iconst 1, 1) := by decide +kernel
theorem gdX9_visit_35 : decode cX9_visit 35 = .ok (.iadd, 1) := by decide +kernel
theorem gdX9_visit_36 : decode cX9_visit 36 = .ok (.putfield 58, 3) := by decide +kernel
theorem gdX9_visit_39 : decode cX9_visit 39 = .ok (.return_, 1) := by decide +kernel
theorem gdX9_visit_11 : decode cX9_visit 11 = .ok (.return_, 1) := by decide +kernel
theorem gdX9_leave_57 : decode cX9_leave 57 = .ok (.return_, 1) := by decide +kernel
theorem gdX9_leave_39 : decode cX9_leave 39 = .ok (.aload_n 0, 1) := by decide +kernel
theorem gdX9_leave_40 : decode cX9_leave 40 = .ok (.getfield 24, 3) := by decide +kernel
theorem gdX9_leave_43 : decode cX9_leave 43 = .ok (.iload_n 1, 1) := by decide +kernel
theorem gdX9_leave_44 : decode cX9_leave 44 = .ok (.iaload, 1) := by decide +kernel
theorem gdX9_leave_45 : decode cX9_leave 45 = .ok (.ifCond .le 12, 3) := by decide +kernel
theorem gdX9_leave_48 : decode cX9_leave 48 = .ok (.aload_n 0, 1) := by decide +kernel
theorem gdX9_leave_49 : decode cX9_leave 49 = .ok (.iload_n 1, 1) := by decide +kernel
theorem gdX9_leave_50 : decode cX9_leave 50 = .ok (.bipush 64, 2) := by decide +kernel
theorem gdX9_leave_52 : decode cX9_leave 52 = .ok (.iload_n 1, 1) := by decide +kernel
theorem gdX9_leave_53 : decode cX9_leave 53 = .ok (.iadd, 1) := by decide +kernel
theorem gdX9_leave_54 : decode cX9_leave 54 = .ok (.invokevirtual 62, 3) := by decide +kernel
theorem gdX9_leave_33 : decode cX9_leave 33 = .ok (.iinc 2 1, 3) := by decide +kernel
theorem gdX9_leave_36 : decode cX9_leave 36 = .ok (.goto (-34), 3) := by decide +kernel
theorem gdX9_leave_2 : decode cX9_leave 2 = .ok (.iload_n 2, 1) := by decide +kernel
theorem gdX9_leave_3 : decode cX9_leave 3 = .ok (.iconst 4, 1) := by decide +kernel
theorem gdX9_leave_4 : decode cX9_leave 4 = .ok (.if_icmp .ge 35, 3) := by decide +kernel
theorem gdX9_leave_7 : decode cX9_leave 7 = .ok (.aload_n 0, 1) := by decide +kernel
theorem gdX9_leave_8 : decode cX9_leave 8 = .ok (.getfield 11, 3) := by decide +kernel
theorem gdX9_leave_11 : decode cX9_leave 11 = .ok (.iload_n 2, 1) := by decide +kernel
theorem gdX9_leave_12 : decode cX9_leave 12 = .ok (.laload, 1) := by decide +kernel
theorem gdX9_leave_13 : decode cX9_leave 13 = .ok (.iload_n 1, 1) := by decide +kernel
theorem gdX9_leave_14 : decode cX9_leave 14 = .ok (.invokestatic 40, 3) := by decide +kernel
theorem gdX9_leave_17 : decode cX9_leave 17 = .ok (.ifCond .eq 16, 3) := by decide +kernel
theorem gdX9_leave_20 : decode cX9_leave 20 = .ok (.aload_n 0, 1) := by decide +kernel
theorem gdX9_leave_21 : decode cX9_leave 21 = .ok (.iload_n 1, 1) := by decide +kernel
theorem gdX9_leave_22 : decode cX9_leave 22 = .ok (.iload_n 2, 1) := by decide +kernel
theorem gdX9_leave_23 : decode cX9_leave 23 = .ok (.invokestatic 72, 3) := by decide +kernel
theorem gdX9_leave_26 : decode cX9_leave 26 = .ok (.bipush 64, 2) := by decide +kernel
theorem gdX9_leave_28 : decode cX9_leave 28 = .ok (.iload_n 1, 1) := by decide +kernel
theorem gdX9_leave_29 : decode cX9_leave 29 = .ok (.iadd, 1) := by decide +kernel
theorem gdX9_leave_30 : decode cX9_leave 30 = .ok (.invokevirtual 62, 3) := by decide +kernel
theorem gdX9_leave_0 : decode cX9_leave 0 = .ok (.iconst 0, 1) := by decide +kernel
theorem gdX9_leave_1 : decode cX9_leave 1 = .ok (.istore_n 2, 1) := by decide +kernel
theorem gdX3_back_0 : decode cX3_back 0 = .ok (.iconst 3, 1) := by decide +kernel
theorem gdX3_back_1 : decode cX3_back 1 = .ok (.iload_n 0, 1) := by decide +kernel
theorem gdX3_back_2 : decode cX3_back 2 = .ok (.isub, 1) := by decide +kernel
theorem gdX3_back_3 : decode cX3_back 3 = .ok (.ireturn, 1) := by decide +kernel
theorem gdX9_enter_73 : decode cX9_enter 73 = .ok (.return_, 1) := by decide +kernel
theorem gdX9_enter_67 : decode cX9_enter 67 = .ok (.iinc 3 1, 3) := by decide +kernel
theorem gdX9_enter_70 : decode cX9_enter 70 = .ok (.goto (-49), 3) := by decide +kernel
theorem gdX9_enter_21 : decode cX9_enter 21 = .ok (.iload_n 3, 1) := by decide +kernel
theorem gdX9_enter_22 : decode cX9_enter 22 = .ok (.iconst 4, 1) := by decide +kernel
theorem gdX9_enter_23 : decode cX9_enter 23 = .ok (.if_icmp .ge 50, 3) := by decide +kernel
theorem gdX9_enter_26 : decode cX9_enter 26 = .ok (.iload_n 1, 1) := by decide +kernel
theorem gdX9_enter_27 : decode cX9_enter 27 = .ok (.iload_n 3, 1) := by decide +kernel
theorem gdX9_enter_28 : decode cX9_enter 28 = .ok (.invokestatic 72, 3) := by decide +kernel
theorem gdX9_enter_31 : decode cX9_enter 31 = .ok (.istore 4, 2) := by decide +kernel
theorem gdX9_enter_33 : decode cX9_enter 33 = .ok (.iload 4, 2) := by decide +kernel
theorem gdX9_enter_35 : decode cX9_enter 35 = .ok (.bipush (-9), 2) := by decide +kernel
theorem gdX9_enter_37 : decode cX9_enter 37 = .ok (.if_icmp .eq 30, 3) := by decide +kernel
theorem gdX9_enter_40 : decode cX9_enter 40 = .ok (.aload_n 0, 1) := by decide +kernel
theorem gdX9_enter_41 : decode cX9_enter 41 = .ok (.getfield 27, 3) := by decide +kernel
theorem gdX9_enter_44 : decode cX9_enter 44 = .ok (.iload 4, 2) := by decide +kernel
theorem gdX9_enter_46 : decode cX9_enter 46 = .ok (.iconst 4, 1) := by decide +kernel
theorem gdX9_enter_47 : decode cX9_enter 47 = .ok (.imul, 1) := by decide +kernel
theorem gdX9_enter_48 : decode cX9_enter 48 = .ok (.iload_n 3, 1) := by decide +kernel
theorem gdX9_enter_49 : decode cX9_enter 49 = .ok (.invokestatic 76, 3) := by decide +kernel
theorem gdX9_enter_52 : decode cX9_enter 52 = .ok (.iadd, 1) := by decide +kernel
theorem gdX9_enter_53 : decode cX9_enter 53 = .ok (.iaload, 1) := by decide +kernel
theorem gdX9_enter_54 : decode cX9_enter 54 = .ok (.ifCond .le 13, 3) := by decide +kernel
theorem gdX9_enter_57 : decode cX9_enter 57 = .ok (.aload_n 0, 1) := by decide +kernel
theorem gdX9_enter_58 : decode cX9_enter 58 = .ok (.bipush 64, 2) := by decide +kernel
theorem gdX9_enter_60 : decode cX9_enter 60 = .ok (.iload 4, 2) := by decide +kernel
theorem gdX9_enter_62 : decode cX9_enter 62 = .ok (.iadd, 1) := by decide +kernel
theorem gdX9_enter_63 : decode cX9_enter 63 = .ok (.iload_n 1, 1) := by decide +kernel
theorem gdX9_enter_64 : decode cX9_enter 64 = .ok (.invokevirtual 62, 3) := by decide +kernel
theorem gdX9_enter_19 : decode cX9_enter 19 = .ok (.iconst 0, 1) := by decide +kernel
theorem gdX9_enter_20 : decode cX9_enter 20 = .ok (.istore_n 3, 1) := by decide +kernel
theorem gdX9_enter_0 : decode cX9_enter 0 = .ok (.aload_n 0, 1) := by decide +kernel
theorem gdX9_enter_1 : decode cX9_enter 1 = .ok (.getfield 24, 3) := by decide +kernel
theorem gdX9_enter_4 : decode cX9_enter 4 = .ok (.iload_n 1, 1) := by decide +kernel
theorem gdX9_enter_5 : decode cX9_enter 5 = .ok (.iaload, 1) := by decide +kernel
theorem gdX9_enter_6 : decode cX9_enter 6 = .ok (.iload_n 2, 1) := by decide +kernel
theorem gdX9_enter_7 : decode cX9_enter 7 = .ok (.if_icmp .ge 12, 3) := by decide +kernel
theorem gdX9_enter_10 : decode cX9_enter 10 = .ok (.aload_n 0, 1) := by decide +kernel
theorem gdX9_enter_11 : decode cX9_enter 11 = .ok (.bipush 64, 2) := by decide +kernel
theorem gdX9_enter_13 : decode cX9_enter 13 = .ok (.iload_n 1, 1) := by decide +kernel
theorem gdX9_enter_14 : decode cX9_enter 14 = .ok (.iadd, 1) := by decide +kernel
theorem gdX9_enter_15 : decode cX9_enter 15 = .ok (.iload_n 1, 1) := by decide +kernel
theorem gdX9_enter_16 : decode cX9_enter 16 = .ok (.invokevirtual 62, 3) := by decide +kernel
theorem gdX9_search_129 : decode cX9_search 129 = .ok (.ireturn, 1) := by decide +kernel
theorem gdX9_search_113 : decode cX9_search 113 = .ok (.aload_n 0, 1) := by decide +kernel
theorem gdX9_search_114 : decode cX9_search 114 = .ok (.getfield 17, 3) := by decide +kernel
theorem gdX9_search_117 : decode cX9_search 117 = .ok (.iload_n 2, 1) := by decide +kernel
theorem gdX9_search_118 : decode cX9_search 118 = .ok (.iaload, 1) := by decide +kernel
theorem gdX9_search_119 : decode cX9_search 119 = .ok (.bipush (-9), 2) := by decide +kernel
theorem gdX9_search_121 : decode cX9_search 121 = .ok (.if_icmp .eq 7, 3) := by decide +kernel
theorem gdX9_search_128 : decode cX9_search 128 = .ok (.iconst 0, 1) := by decide +kernel
theorem gdX9_search_124 : decode cX9_search 124 = .ok (.iconst 1, 1) := by decide +kernel
theorem gdX9_search_125 : decode cX9_search 125 = .ok (.goto 4, 3) := by decide +kernel
theorem gdX9_search_107 : decode cX9_search 107 = .ok (.iinc 5 1, 3) := by decide +kernel
theorem gdX9_search_110 : decode cX9_search 110 = .ok (.goto (-81), 3) := by decide +kernel
theorem gdX9_search_104 : decode cX9_search 104 = .ok (.invokevirtual 69, 3) := by decide +kernel
theorem gdX9_search_29 : decode cX9_search 29 = .ok (.iload 5, 2) := by decide +kernel
theorem gdX9_search_31 : decode cX9_search 31 = .ok (.sipush 128, 3) := by decide +kernel
theorem gdX9_search_34 : decode cX9_search 34 = .ok (.if_icmp .ge 79, 3) := by decide +kernel
theorem gdX9_search_37 : decode cX9_search 37 = .ok (.iload 5, 2) := by decide +kernel
theorem gdX9_search_39 : decode cX9_search 39 = .ok (.aload_n 0, 1) := by decide +kernel
theorem gdX9_search_40 : decode cX9_search 40 = .ok (.getfield 58, 3) := by decide +kernel
theorem gdX9_search_43 : decode cX9_search 43 = .ok (.if_icmp .ge 70, 3) := by decide +kernel
theorem gdX9_search_46 : decode cX9_search 46 = .ok (.aload_n 0, 1) := by decide +kernel
theorem gdX9_search_47 : decode cX9_search 47 = .ok (.getfield 17, 3) := by decide +kernel
theorem gdX9_search_50 : decode cX9_search 50 = .ok (.iload_n 2, 1) := by decide +kernel
theorem gdX9_search_51 : decode cX9_search 51 = .ok (.iaload, 1) := by decide +kernel
theorem gdX9_search_52 : decode cX9_search 52 = .ok (.bipush (-9), 2) := by decide +kernel
theorem gdX9_search_54 : decode cX9_search 54 = .ok (.if_icmp .ne 59, 3) := by decide +kernel
theorem gdX9_search_57 : decode cX9_search 57 = .ok (.aload_n 0, 1) := by decide +kernel
theorem gdX9_search_58 : decode cX9_search 58 = .ok (.getfield 21, 3) := by decide +kernel
theorem gdX9_search_61 : decode cX9_search 61 = .ok (.iload 5, 2) := by decide +kernel
theorem gdX9_search_63 : decode cX9_search 63 = .ok (.iaload, 1) := by decide +kernel
theorem gdX9_search_64 : decode cX9_search 64 = .ok (.istore 6, 2) := by decide +kernel
theorem gdX9_search_66 : decode cX9_search 66 = .ok (.iload 6, 2) := by decide +kernel
theorem gdX9_search_68 : decode cX9_search 68 = .ok (.bipush 64, 2) := by decide +kernel
theorem gdX9_search_70 : decode cX9_search 70 = .ok (.if_icmp .lt 15, 3) := by decide +kernel
theorem gdX9_search_85 : decode cX9_search 85 = .ok (.aload_n 0, 1) := by decide +kernel
theorem gdX9_search_86 : decode cX9_search 86 = .ok (.iload 6, 2) := by decide +kernel
theorem gdX9_search_88 : decode cX9_search 88 = .ok (.lload_n 3, 1) := by decide +kernel
theorem gdX9_search_89 : decode cX9_search 89 = .ok (.iload 6, 2) := by decide +kernel
theorem gdX9_search_91 : decode cX9_search 91 = .ok (.invokestatic 40, 3) := by decide +kernel
theorem gdX9_search_94 : decode cX9_search 94 = .ok (.ifCond .eq 7, 3) := by decide +kernel
theorem gdX9_search_101 : decode cX9_search 101 = .ok (.sipush 1000, 3) := by decide +kernel
theorem gdX9_search_97 : decode cX9_search 97 = .ok (.iconst 1, 1) := by decide +kernel
theorem gdX9_search_98 : decode cX9_search 98 = .ok (.goto 6, 3) := by decide +kernel
theorem gdX9_search_73 : decode cX9_search 73 = .ok (.aload_n 0, 1) := by decide +kernel
theorem gdX9_search_74 : decode cX9_search 74 = .ok (.iload 6, 2) := by decide +kernel
theorem gdX9_search_76 : decode cX9_search 76 = .ok (.bipush 64, 2) := by decide +kernel
theorem gdX9_search_78 : decode cX9_search 78 = .ok (.isub, 1) := by decide +kernel
theorem gdX9_search_79 : decode cX9_search 79 = .ok (.invokevirtual 65, 3) := by decide +kernel
theorem gdX9_search_82 : decode cX9_search 82 = .ok (.goto 25, 3) := by decide +kernel
theorem gdX9_search_0 : decode cX9_search 0 = .ok (.aload_n 0, 1) := by decide +kernel
theorem gdX9_search_1 : decode cX9_search 1 = .ok (.getfield 17, 3) := by decide +kernel
theorem gdX9_search_4 : decode cX9_search 4 = .ok (.bipush (-9), 2) := by decide +kernel
theorem gdX9_search_6 : decode cX9_search 6 = .ok (.invokestatic 44, 3) := by decide +kernel
theorem gdX9_search_9 : decode cX9_search 9 = .ok (.aload_n 0, 1) := by decide +kernel
theorem gdX9_search_10 : decode cX9_search 10 = .ok (.iconst 0, 1) := by decide +kernel
theorem gdX9_search_11 : decode cX9_search 11 = .ok (.putfield 58, 3) := by decide +kernel
theorem gdX9_search_14 : decode cX9_search 14 = .ok (.aload_n 0, 1) := by decide +kernel
theorem gdX9_search_15 : decode cX9_search 15 = .ok (.bipush 64, 2) := by decide +kernel
theorem gdX9_search_17 : decode cX9_search 17 = .ok (.iload_n 1, 1) := by decide +kernel
theorem gdX9_search_18 : decode cX9_search 18 = .ok (.iadd, 1) := by decide +kernel
theorem gdX9_search_19 : decode cX9_search 19 = .ok (.bipush 64, 2) := by decide +kernel
theorem gdX9_search_21 : decode cX9_search 21 = .ok (.iload_n 1, 1) := by decide +kernel
theorem gdX9_search_22 : decode cX9_search 22 = .ok (.iadd, 1) := by decide +kernel
theorem gdX9_search_23 : decode cX9_search 23 = .ok (.invokevirtual 62, 3) := by decide +kernel
theorem gdX9_search_26 : decode cX9_search 26 = .ok (.iconst 0, 1) := by decide +kernel
theorem gdX9_search_27 : decode cX9_search 27 = .ok (.istore 5, 2) := by decide +kernel
theorem gdX3_wayTo_31 : decode cX3_wayTo 31 = .ok (.ireturn, 1) := by decide +kernel
theorem gdX3_wayTo_0 : decode cX3_wayTo 0 = .ok (.iload_n 1, 1) := by decide +kernel
theorem gdX3_wayTo_1 : decode cX3_wayTo 1 = .ok (.iload_n 0, 1) := by decide +kernel
theorem gdX3_wayTo_2 : decode cX3_wayTo 2 = .ok (.bipush 8, 2) := by decide +kernel
theorem gdX3_wayTo_4 : decode cX3_wayTo 4 = .ok (.isub, 1) := by decide +kernel
theorem gdX3_wayTo_5 : decode cX3_wayTo 5 = .ok (.if_icmp .ne 5, 3) := by decide +kernel
theorem gdX3_wayTo_10 : decode cX3_wayTo 10 = .ok (.iload_n 1, 1) := by decide +kernel
theorem gdX3_wayTo_11 : decode cX3_wayTo 11 = .ok (.iload_n 0, 1) := by decide +kernel
theorem gdX3_wayTo_12 : decode cX3_wayTo 12 = .ok (.iconst 1, 1) := by decide +kernel
theorem gdX3_wayTo_13 : decode cX3_wayTo 13 = .ok (.isub, 1) := by decide +kernel
theorem gdX3_wayTo_14 : decode cX3_wayTo 14 = .ok (.if_icmp .ne 5, 3) := by decide +kernel
theorem gdX3_wayTo_19 : decode cX3_wayTo 19 = .ok (.iload_n 1, 1) := by decide +kernel
theorem gdX3_wayTo_20 : decode cX3_wayTo 20 = .ok (.iload_n 0, 1) := by decide +kernel
theorem gdX3_wayTo_21 : decode cX3_wayTo 21 = .ok (.iconst 1, 1) := by decide +kernel
theorem gdX3_wayTo_22 : decode cX3_wayTo 22 = .ok (.iadd, 1) := by decide +kernel
theorem gdX3_wayTo_23 : decode cX3_wayTo 23 = .ok (.if_icmp .ne 7, 3) := by decide +kernel
theorem gdX3_wayTo_30 : decode cX3_wayTo 30 = .ok (.iconst 3, 1) := by decide +kernel
theorem gdX3_wayTo_26 : decode cX3_wayTo 26 = .ok (.iconst 2, 1) := by decide +kernel
theorem gdX3_wayTo_27 : decode cX3_wayTo 27 = .ok (.goto 4, 3) := by decide +kernel
theorem gdX3_wayTo_17 : decode cX3_wayTo 17 = .ok (.iconst 1, 1) := by decide +kernel
theorem gdX3_wayTo_18 : decode cX3_wayTo 18 = .ok (.ireturn, 1) := by decide +kernel
theorem gdX3_wayTo_8 : decode cX3_wayTo 8 = .ok (.iconst 0, 1) := by decide +kernel
theorem gdX3_wayTo_9 : decode cX3_wayTo 9 = .ok (.ireturn, 1) := by decide +kernel
theorem gdX9_push_36 : decode cX9_push 36 = .ok (.return_, 1) := by decide +kernel
theorem gdX9_push_152 : decode cX9_push 152 = .ok (.return_, 1) := by decide +kernel
theorem gdX9_push_143 : decode cX9_push 143 = .ok (.iload 5, 2) := by decide +kernel
theorem gdX9_push_145 : decode cX9_push 145 = .ok (.istore_n 3, 1) := by decide +kernel
theorem gdX9_push_146 : decode cX9_push 146 = .ok (.iinc 4 1, 3) := by decide +kernel
theorem gdX9_push_149 : decode cX9_push 149 = .ok (.goto (-144), 3) := by decide +kernel
theorem gdX9_push_88 : decode cX9_push 88 = .ok (.iadd, 1) := by decide +kernel
theorem gdX9_push_89 : decode cX9_push 89 = .ok (.iastore, 1) := by decide +kernel
theorem gdX9_push_90 : decode cX9_push 90 = .ok (.goto 53, 3) := by decide +kernel
theorem gdX9_push_61 : decode cX9_push 61 = .ok (.istore 8, 2) := by decide +kernel
theorem gdX9_push_63 : decode cX9_push 63 = .ok (.iload 6, 2) := by decide +kernel
theorem gdX9_push_65 : decode cX9_push 65 = .ok (.iload 7, 2) := by decide +kernel
theorem gdX9_push_67 : decode cX9_push 67 = .ok (.if_icmp .ne 26, 3) := by decide +kernel
theorem gdX9_push_93 : decode cX9_push 93 = .ok (.iload 8, 2) := by decide +kernel
theorem gdX9_push_95 : decode cX9_push 95 = .ok (.ifCond .eq 27, 3) := by decide +kernel
theorem gdX9_push_122 : decode cX9_push 122 = .ok (.aload_n 0, 1) := by decide +kernel
theorem gdX9_push_123 : decode cX9_push 123 = .ok (.getfield 27, 3) := by decide +kernel
theorem gdX9_push_126 : decode cX9_push 126 = .ok (.iload 6, 2) := by decide +kernel
theorem gdX9_push_128 : decode cX9_push 128 = .ok (.iconst 4, 1) := by decide +kernel
theorem gdX9_push_129 : decode cX9_push 129 = .ok (.imul, 1) := by decide +kernel
theorem gdX9_push_130 : decode cX9_push 130 = .ok (.iload 6, 2) := by decide +kernel
theorem gdX9_push_132 : decode cX9_push 132 = .ok (.iload 7, 2) := by decide +kernel
theorem gdX9_push_134 : decode cX9_push 134 = .ok (.invokestatic 80, 3) := by decide +kernel
theorem gdX9_push_137 : decode cX9_push 137 = .ok (.iadd, 1) := by decide +kernel
theorem gdX9_push_138 : decode cX9_push 138 = .ok (.dup2, 1) := by decide +kernel
theorem gdX9_push_139 : decode cX9_push 139 = .ok (.iaload, 1) := by decide +kernel
theorem gdX9_push_140 : decode cX9_push 140 = .ok (.iconst 1, 1) := by decide +kernel
theorem gdX9_push_141 : decode cX9_push 141 = .ok (.isub, 1) := by decide +kernel
theorem gdX9_push_142 : decode cX9_push 142 = .ok (.iastore, 1) := by decide +kernel
theorem gdX9_push_98 : decode cX9_push 98 = .ok (.aload_n 0, 1) := by decide +kernel
theorem gdX9_push_99 : decode cX9_push 99 = .ok (.getfield 27, 3) := by decide +kernel
theorem gdX9_push_102 : decode cX9_push 102 = .ok (.iload 7, 2) := by decide +kernel
theorem gdX9_push_104 : decode cX9_push 104 = .ok (.iconst 4, 1) := by decide +kernel
theorem gdX9_push_105 : decode cX9_push 105 = .ok (.imul, 1) := by decide +kernel
theorem gdX9_push_106 : decode cX9_push 106 = .ok (.iload 7, 2) := by decide +kernel
theorem gdX9_push_108 : decode cX9_push 108 = .ok (.iload 6, 2) := by decide +kernel
theorem gdX9_push_110 : decode cX9_push 110 = .ok (.invokestatic 80, 3) := by decide +kernel
theorem gdX9_push_113 : decode cX9_push 113 = .ok (.iadd, 1) := by decide +kernel
theorem gdX9_push_114 : decode cX9_push 114 = .ok (.dup2, 1) := by decide +kernel
theorem gdX9_push_115 : decode cX9_push 115 = .ok (.iaload, 1) := by decide +kernel
theorem gdX9_push_116 : decode cX9_push 116 = .ok (.iconst 1, 1) := by decide +kernel
theorem gdX9_push_117 : decode cX9_push 117 = .ok (.iadd, 1) := by decide +kernel
theorem gdX9_push_118 : decode cX9_push 118 = .ok (.iastore, 1) := by decide +kernel
theorem gdX9_push_119 : decode cX9_push 119 = .ok (.goto 24, 3) := by decide +kernel
theorem gdX9_push_70 : decode cX9_push 70 = .ok (.aload_n 0, 1) := by decide +kernel
theorem gdX9_push_71 : decode cX9_push 71 = .ok (.getfield 24, 3) := by decide +kernel
theorem gdX9_push_74 : decode cX9_push 74 = .ok (.iload 6, 2) := by decide +kernel
theorem gdX9_push_76 : decode cX9_push 76 = .ok (.dup2, 1) := by decide +kernel
theorem gdX9_push_77 : decode cX9_push 77 = .ok (.iaload, 1) := by decide +kernel
theorem gdX9_push_78 : decode cX9_push 78 = .ok (.iload 8, 2) := by decide +kernel
theorem gdX9_push_80 : decode cX9_push 80 = .ok (.ifCond .eq 7, 3) := by decide +kernel
theorem gdX9_push_87 : decode cX9_push 87 = .ok (.iconst 1, 1) := by decide +kernel
theorem gdX9_push_83 : decode cX9_push 83 = .ok (.iconst (-1), 1) := by decide +kernel
theorem gdX9_push_84 : decode cX9_push 84 = .ok (.goto 4, 3) := by decide +kernel
theorem gdX9_push_5 : decode cX9_push 5 = .ok (.iload 4, 2) := by decide +kernel
theorem gdX9_push_7 : decode cX9_push 7 = .ok (.sipush 128, 3) := by decide +kernel
theorem gdX9_push_10 : decode cX9_push 10 = .ok (.if_icmp .ge 142, 3) := by decide +kernel
theorem gdX9_push_13 : decode cX9_push 13 = .ok (.iload_n 3, 1) := by decide +kernel
theorem gdX9_push_14 : decode cX9_push 14 = .ok (.bipush 64, 2) := by decide +kernel
theorem gdX9_push_16 : decode cX9_push 16 = .ok (.iload_n 1, 1) := by decide +kernel
theorem gdX9_push_17 : decode cX9_push 17 = .ok (.iadd, 1) := by decide +kernel
theorem gdX9_push_18 : decode cX9_push 18 = .ok (.if_icmp .eq 134, 3) := by decide +kernel
theorem gdX9_push_21 : decode cX9_push 21 = .ok (.aload_n 0, 1) := by decide +kernel
theorem gdX9_push_22 : decode cX9_push 22 = .ok (.getfield 17, 3) := by decide +kernel
theorem gdX9_push_25 : decode cX9_push 25 = .ok (.iload_n 3, 1) := by decide +kernel
theorem gdX9_push_26 : decode cX9_push 26 = .ok (.iaload, 1) := by decide +kernel
theorem gdX9_push_27 : decode cX9_push 27 = .ok (.istore 5, 2) := by decide +kernel
theorem gdX9_push_29 : decode cX9_push 29 = .ok (.iload 5, 2) := by decide +kernel
theorem gdX9_push_31 : decode cX9_push 31 = .ok (.bipush (-9), 2) := by decide +kernel
theorem gdX9_push_33 : decode cX9_push 33 = .ok (.if_icmp .ne 4, 3) := by decide +kernel
theorem gdX9_push_37 : decode cX9_push 37 = .ok (.iload_n 3, 1) := by decide +kernel
theorem gdX9_push_38 : decode cX9_push 38 = .ok (.bipush 64, 2) := by decide +kernel
theorem gdX9_push_40 : decode cX9_push 40 = .ok (.irem, 1) := by decide +kernel
theorem gdX9_push_41 : decode cX9_push 41 = .ok (.istore 6, 2) := by decide +kernel
theorem gdX9_push_43 : decode cX9_push 43 = .ok (.iload 5, 2) := by decide +kernel
theorem gdX9_push_45 : decode cX9_push 45 = .ok (.bipush 64, 2) := by decide +kernel
theorem gdX9_push_47 : decode cX9_push 47 = .ok (.irem, 1) := by decide +kernel
theorem gdX9_push_48 : decode cX9_push 48 = .ok (.istore 7, 2) := by decide +kernel
theorem gdX9_push_50 : decode cX9_push 50 = .ok (.iload_n 3, 1) := by decide +kernel
theorem gdX9_push_51 : decode cX9_push 51 = .ok (.bipush 64, 2) := by decide +kernel
theorem gdX9_push_53 : decode cX9_push 53 = .ok (.if_icmp .ge 7, 3) := by decide +kernel
theorem gdX9_push_60 : decode cX9_push 60 = .ok (.iconst 0, 1) := by decide +kernel
theorem gdX9_push_56 : decode cX9_push 56 = .ok (.iconst 1, 1) := by decide +kernel
theorem gdX9_push_57 : decode cX9_push 57 = .ok (.goto 4, 3) := by decide +kernel
theorem gdX9_push_0 : decode cX9_push 0 = .ok (.iload_n 2, 1) := by decide +kernel
theorem gdX9_push_1 : decode cX9_push 1 = .ok (.istore_n 3, 1) := by decide +kernel
theorem gdX9_push_2 : decode cX9_push 2 = .ok (.iconst 0, 1) := by decide +kernel
theorem gdX9_push_3 : decode cX9_push 3 = .ok (.istore 4, 2) := by decide +kernel
theorem gdX9_nearestCut_116 : decode cX9_nearestCut 116 = .ok (.lload 5, 2) := by decide +kernel
theorem gdX9_nearestCut_118 : decode cX9_nearestCut 118 = .ok (.lreturn, 1) := by decide +kernel
theorem gdX9_nearestCut_110 : decode cX9_nearestCut 110 = .ok (.iinc 7 1, 3) := by decide +kernel
theorem gdX9_nearestCut_113 : decode cX9_nearestCut 113 = .ok (.goto (-56), 3) := by decide +kernel
theorem gdX9_nearestCut_57 : decode cX9_nearestCut 57 = .ok (.iload 7, 2) := by decide +kernel
theorem gdX9_nearestCut_59 : decode cX9_nearestCut 59 = .ok (.bipush 64, 2) := by decide +kernel
theorem gdX9_nearestCut_61 : decode cX9_nearestCut 61 = .ok (.if_icmp .ge 55, 3) := by decide +kernel
theorem gdX9_nearestCut_64 : decode cX9_nearestCut 64 = .ok (.aload_n 0, 1) := by decide +kernel
theorem gdX9_nearestCut_65 : decode cX9_nearestCut 65 = .ok (.getfield 17, 3) := by decide +kernel
theorem gdX9_nearestCut_68 : decode cX9_nearestCut 68 = .ok (.iload 7, 2) := by decide +kernel
theorem gdX9_nearestCut_70 : decode cX9_nearestCut 70 = .ok (.iaload, 1) := by decide +kernel
theorem gdX9_nearestCut_71 : decode cX9_nearestCut 71 = .ok (.bipush (-9), 2) := by decide +kernel
theorem gdX9_nearestCut_73 : decode cX9_nearestCut 73 = .ok (.if_icmp .eq 37, 3) := by decide +kernel
theorem gdX9_nearestCut_76 : decode cX9_nearestCut 76 = .ok (.aload_n 0, 1) := by decide +kernel
theorem gdX9_nearestCut_77 : decode cX9_nearestCut 77 = .ok (.getfield 17, 3) := by decide +kernel
theorem gdX9_nearestCut_80 : decode cX9_nearestCut 80 = .ok (.bipush 64, 2) := by decide +kernel
theorem gdX9_nearestCut_82 : decode cX9_nearestCut 82 = .ok (.iload 7, 2) := by decide +kernel
theorem gdX9_nearestCut_84 : decode cX9_nearestCut 84 = .ok (.iadd, 1) := by decide +kernel
theorem gdX9_nearestCut_85 : decode cX9_nearestCut 85 = .ok (.iaload, 1) := by decide +kernel
theorem gdX9_nearestCut_86 : decode cX9_nearestCut 86 = .ok (.bipush (-9), 2) := by decide +kernel
theorem gdX9_nearestCut_88 : decode cX9_nearestCut 88 = .ok (.if_icmp .ne 22, 3) := by decide +kernel
theorem gdX9_nearestCut_91 : decode cX9_nearestCut 91 = .ok (.lload_n 3, 1) := by decide +kernel
theorem gdX9_nearestCut_92 : decode cX9_nearestCut 92 = .ok (.iload 7, 2) := by decide +kernel
theorem gdX9_nearestCut_94 : decode cX9_nearestCut 94 = .ok (.invokestatic 40, 3) := by decide +kernel
theorem gdX9_nearestCut_97 : decode cX9_nearestCut 97 = .ok (.ifCond .eq 13, 3) := by decide +kernel
theorem gdX9_nearestCut_100 : decode cX9_nearestCut 100 = .ok (.lload 5, 2) := by decide +kernel
theorem gdX9_nearestCut_102 : decode cX9_nearestCut 102 = .ok (.iload 7, 2) := by decide +kernel
theorem gdX9_nearestCut_104 : decode cX9_nearestCut 104 = .ok (.invokestatic 34, 3) := by decide +kernel
theorem gdX9_nearestCut_107 : decode cX9_nearestCut 107 = .ok (.lor, 1) := by decide +kernel
theorem gdX9_nearestCut_108 : decode cX9_nearestCut 108 = .ok (.lstore 5, 2) := by decide +kernel
theorem gdX9_nearestCut_51 : decode cX9_nearestCut 51 = .ok (.lconst 0, 1) := by decide +kernel
theorem gdX9_nearestCut_52 : decode cX9_nearestCut 52 = .ok (.lstore 5, 2) := by decide +kernel
theorem gdX9_nearestCut_54 : decode cX9_nearestCut 54 = .ok (.iconst 0, 1) := by decide +kernel
theorem gdX9_nearestCut_55 : decode cX9_nearestCut 55 = .ok (.istore 7, 2) := by decide +kernel
theorem gdX9_nearestCut_36 : decode cX9_nearestCut 36 = .ok (.goto 15, 3) := by decide +kernel
theorem gdX9_nearestCut_19 : decode cX9_nearestCut 19 = .ok (.iload 5, 2) := by decide +kernel
theorem gdX9_nearestCut_21 : decode cX9_nearestCut 21 = .ok (.bipush 64, 2) := by decide +kernel
theorem gdX9_nearestCut_23 : decode cX9_nearestCut 23 = .ok (.if_icmp .ge 28, 3) := by decide +kernel
theorem gdX9_nearestCut_26 : decode cX9_nearestCut 26 = .ok (.aload_n 0, 1) := by decide +kernel
theorem gdX9_nearestCut_27 : decode cX9_nearestCut 27 = .ok (.iload_n 1, 1) := by decide +kernel
theorem gdX9_nearestCut_28 : decode cX9_nearestCut 28 = .ok (.iload_n 2, 1) := by decide +kernel
theorem gdX9_nearestCut_29 : decode cX9_nearestCut 29 = .ok (.lload_n 3, 1) := by decide +kernel
theorem gdX9_nearestCut_30 : decode cX9_nearestCut 30 = .ok (.invokevirtual 50, 3) := by decide +kernel
theorem gdX9_nearestCut_33 : decode cX9_nearestCut 33 = .ok (.ifCond .ne 6, 3) := by decide +kernel
theorem gdX9_nearestCut_39 : decode cX9_nearestCut 39 = .ok (.aload_n 0, 1) := by decide +kernel
theorem gdX9_nearestCut_40 : decode cX9_nearestCut 40 = .ok (.iload_n 1, 1) := by decide +kernel
theorem gdX9_nearestCut_41 : decode cX9_nearestCut 41 = .ok (.iload_n 2, 1) := by decide +kernel
theorem gdX9_nearestCut_42 : decode cX9_nearestCut 42 = .ok (.invokevirtual 54, 3) := by decide +kernel
theorem gdX9_nearestCut_45 : decode cX9_nearestCut 45 = .ok (.iinc 5 1, 3) := by decide +kernel
theorem gdX9_nearestCut_48 : decode cX9_nearestCut 48 = .ok (.goto (-29), 3) := by decide +kernel
theorem gdX9_nearestCut_0 : decode cX9_nearestCut 0 = .ok (.aload_n 0, 1) := by decide +kernel
theorem gdX9_nearestCut_1 : decode cX9_nearestCut 1 = .ok (.getfield 24, 3) := by decide +kernel
theorem gdX9_nearestCut_4 : decode cX9_nearestCut 4 = .ok (.iconst 0, 1) := by decide +kernel
theorem gdX9_nearestCut_5 : decode cX9_nearestCut 5 = .ok (.invokestatic 44, 3) := by decide +kernel
theorem gdX9_nearestCut_8 : decode cX9_nearestCut 8 = .ok (.aload_n 0, 1) := by decide +kernel
theorem gdX9_nearestCut_9 : decode cX9_nearestCut 9 = .ok (.getfield 27, 3) := by decide +kernel
theorem gdX9_nearestCut_12 : decode cX9_nearestCut 12 = .ok (.iconst 0, 1) := by decide +kernel
theorem gdX9_nearestCut_13 : decode cX9_nearestCut 13 = .ok (.invokestatic 44, 3) := by decide +kernel
theorem gdX9_nearestCut_16 : decode cX9_nearestCut 16 = .ok (.iconst 0, 1) := by decide +kernel
theorem gdX9_nearestCut_17 : decode cX9_nearestCut 17 = .ok (.istore 5, 2) := by decide +kernel
theorem gdX11_stop_19 : decode cX11_stop 19 = .ok (.iconst (-1), 1) := by decide +kernel
theorem gdX11_stop_20 : decode cX11_stop 20 = .ok (.ireturn, 1) := by decide +kernel
theorem gdX11_stop_43 : decode cX11_stop 43 = .ok (.bipush (-4), 2) := by decide +kernel
theorem gdX11_stop_45 : decode cX11_stop 45 = .ok (.ireturn, 1) := by decide +kernel
theorem gdX11_stop_0 : decode cX11_stop 0 = .ok (.iload_n 1, 1) := by decide +kernel
theorem gdX11_stop_1 : decode cX11_stop 1 = .ok (.invokestatic 140, 3) := by decide +kernel
theorem gdX11_stop_4 : decode cX11_stop 4 = .ok (.ifCond .eq 15, 3) := by decide +kernel
theorem gdX11_stop_7 : decode cX11_stop 7 = .ok (.iload_n 2, 1) := by decide +kernel
theorem gdX11_stop_8 : decode cX11_stop 8 = .ok (.invokestatic 140, 3) := by decide +kernel
theorem gdX11_stop_11 : decode cX11_stop 11 = .ok (.ifCond .eq 8, 3) := by decide +kernel
theorem gdX11_stop_14 : decode cX11_stop 14 = .ok (.iload_n 1, 1) := by decide +kernel
theorem gdX11_stop_15 : decode cX11_stop 15 = .ok (.iload_n 2, 1) := by decide +kernel
theorem gdX11_stop_16 : decode cX11_stop 16 = .ok (.if_icmp .ne 5, 3) := by decide +kernel
theorem gdX11_stop_21 : decode cX11_stop 21 = .ok (.aload_n 0, 1) := by decide +kernel
theorem gdX11_stop_22 : decode cX11_stop 22 = .ok (.getfield 26, 3) := by decide +kernel
theorem gdX11_stop_25 : decode cX11_stop 25 = .ok (.iload_n 1, 1) := by decide +kernel
theorem gdX11_stop_26 : decode cX11_stop 26 = .ok (.invokevirtual 163, 3) := by decide +kernel
theorem gdX11_stop_29 : decode cX11_stop 29 = .ok (.ifCond .ne 14, 3) := by decide +kernel
theorem gdX11_stop_32 : decode cX11_stop 32 = .ok (.aload_n 0, 1) := by decide +kernel
theorem gdX11_stop_33 : decode cX11_stop 33 = .ok (.getfield 26, 3) := by decide +kernel
theorem gdX11_stop_36 : decode cX11_stop 36 = .ok (.iload_n 2, 1) := by decide +kernel
theorem gdX11_stop_37 : decode cX11_stop 37 = .ok (.invokevirtual 163, 3) := by decide +kernel
theorem gdX11_stop_40 : decode cX11_stop 40 = .ok (.ifCond .eq 6, 3) := by decide +kernel
theorem gdX11_stop_46 : decode cX11_stop 46 = .ok (.aload_n 0, 1) := by decide +kernel
theorem gdX11_stop_47 : decode cX11_stop 47 = .ok (.getfield 87, 3) := by decide +kernel
theorem gdX11_stop_50 : decode cX11_stop 50 = .ok (.aload_n 0, 1) := by decide +kernel
theorem gdX11_stop_51 : decode cX11_stop 51 = .ok (.getfield 26, 3) := by decide +kernel
theorem gdX11_stop_54 : decode cX11_stop 54 = .ok (.aload_n 0, 1) := by decide +kernel
theorem gdX11_stop_55 : decode cX11_stop 55 = .ok (.iconst 0, 1) := by decide +kernel
theorem gdX11_stop_56 : decode cX11_stop 56 = .ok (.invokevirtual 228, 3) := by decide +kernel
theorem gdX11_stop_59 : decode cX11_stop 59 = .ok (.invokevirtual 441, 3) := by decide +kernel
theorem gdX11_stop_62 : decode cX11_stop 62 = .ok (.aload_n 0, 1) := by decide +kernel
theorem gdX11_stop_63 : decode cX11_stop 63 = .ok (.getfield 87, 3) := by decide +kernel
theorem gdX11_stop_66 : decode cX11_stop 66 = .ok (.iload_n 1, 1) := by decide +kernel
theorem gdX11_stop_67 : decode cX11_stop 67 = .ok (.iload_n 2, 1) := by decide +kernel
theorem gdX11_stop_68 : decode cX11_stop 68 = .ok (.lconst 0, 1) := by decide +kernel
theorem gdX11_stop_69 : decode cX11_stop 69 = .ok (.invokevirtual 445, 3) := by decide +kernel
theorem gdX11_stop_72 : decode cX11_stop 72 = .ok (.ifCond .ne 9, 3) := by decide +kernel
theorem gdX11_stop_81 : decode cX11_stop 81 = .ok (.aload_n 0, 1) := by decide +kernel
theorem gdX11_stop_82 : decode cX11_stop 82 = .ok (.getfield 33, 3) := by decide +kernel
theorem gdX11_stop_85 : decode cX11_stop 85 = .ok (.invokevirtual 449, 3) := by decide +kernel
theorem gdX11_stop_88 : decode cX11_stop 88 = .ok (.iload_n 1, 1) := by decide +kernel
theorem gdX11_stop_89 : decode cX11_stop 89 = .ok (.invokestatic 452, 3) := by decide +kernel
theorem gdX11_stop_92 : decode cX11_stop 92 = .ok (.iload_n 2, 1) := by decide +kernel
theorem gdX11_stop_93 : decode cX11_stop 93 = .ok (.invokestatic 452, 3) := by decide +kernel
theorem gdX11_stop_96 : decode cX11_stop 96 = .ok (.lor, 1) := by decide +kernel
theorem gdX11_stop_97 : decode cX11_stop 97 = .ok (.ldc2_w 387, 3) := by decide +kernel
theorem gdX11_stop_100 : decode cX11_stop 100 = .ok (.lxor, 1) := by decide +kernel
theorem gdX11_stop_101 : decode cX11_stop 101 = .ok (.land, 1) := by decide +kernel
theorem gdX11_stop_102 : decode cX11_stop 102 = .ok (.lstore_n 3, 1) := by decide +kernel
theorem gdX11_stop_103 : decode cX11_stop 103 = .ok (.aload_n 0, 1) := by decide +kernel
theorem gdX11_stop_104 : decode cX11_stop 104 = .ok (.getfield 87, 3) := by decide +kernel
theorem gdX11_stop_107 : decode cX11_stop 107 = .ok (.iload_n 1, 1) := by decide +kernel
theorem gdX11_stop_108 : decode cX11_stop 108 = .ok (.iload_n 2, 1) := by decide +kernel
theorem gdX11_stop_109 : decode cX11_stop 109 = .ok (.lload_n 3, 1) := by decide +kernel
theorem gdX11_stop_110 : decode cX11_stop 110 = .ok (.invokevirtual 445, 3) := by decide +kernel
theorem gdX11_stop_113 : decode cX11_stop 113 = .ok (.ifCond .eq 6, 3) := by decide +kernel
theorem gdX11_stop_119 : decode cX11_stop 119 = .ok (.aload_n 0, 1) := by decide +kernel
theorem gdX11_stop_120 : decode cX11_stop 120 = .ok (.aload_n 0, 1) := by decide +kernel
theorem gdX11_stop_121 : decode cX11_stop 121 = .ok (.getfield 87, 3) := by decide +kernel
theorem gdX11_stop_124 : decode cX11_stop 124 = .ok (.iload_n 1, 1) := by decide +kernel
theorem gdX11_stop_125 : decode cX11_stop 125 = .ok (.iload_n 2, 1) := by decide +kernel
theorem gdX11_stop_126 : decode cX11_stop 126 = .ok (.lload_n 3, 1) := by decide +kernel
theorem gdX11_stop_127 : decode cX11_stop 127 = .ok (.invokevirtual 455, 3) := by decide +kernel
theorem gdX11_stop_130 : decode cX11_stop 130 = .ok (.putfield 337, 3) := by decide +kernel
theorem gdX11_stop_133 : decode cX11_stop 133 = .ok (.aload_n 0, 1) := by decide +kernel
theorem gdX11_stop_134 : decode cX11_stop 134 = .ok (.getfield 337, 3) := by decide +kernel
theorem gdX11_stop_137 : decode cX11_stop 137 = .ok (.invokestatic 393, 3) := by decide +kernel
theorem gdX11_stop_140 : decode cX11_stop 140 = .ok (.ireturn, 1) := by decide +kernel
theorem gdX11_stop_116 : decode cX11_stop 116 = .ok (.bipush (-9), 2) := by decide +kernel
theorem gdX11_stop_118 : decode cX11_stop 118 = .ok (.ireturn, 1) := by decide +kernel
theorem gdX11_stop_75 : decode cX11_stop 75 = .ok (.aload_n 0, 1) := by decide +kernel
theorem gdX11_stop_76 : decode cX11_stop 76 = .ok (.iconst 1, 1) := by decide +kernel
theorem gdX11_stop_77 : decode cX11_stop 77 = .ok (.invokevirtual 99, 3) := by decide +kernel
theorem gdX11_stop_80 : decode cX11_stop 80 = .ok (.ireturn, 1) := by decide +kernel
theorem gdX1_worthBy_51 : decode cX1_worthBy 51 = .ok (.iload_n 3, 1) := by decide +kernel
theorem gdX1_worthBy_52 : decode cX1_worthBy 52 = .ok (.ireturn, 1) := by decide +kernel
theorem gdX1_worthBy_45 : decode cX1_worthBy 45 = .ok (.iinc 4 1, 3) := by decide +kernel
theorem gdX1_worthBy_48 : decode cX1_worthBy 48 = .ok (.goto (-42), 3) := by decide +kernel
theorem gdX1_worthBy_6 : decode cX1_worthBy 6 = .ok (.iload 4, 2) := by decide +kernel
theorem gdX1_worthBy_8 : decode cX1_worthBy 8 = .ok (.aload_n 0, 1) := by decide +kernel
theorem gdX1_worthBy_9 : decode cX1_worthBy 9 = .ok (.getfield 62, 3) := by decide +kernel
theorem gdX1_worthBy_12 : decode cX1_worthBy 12 = .ok (.if_icmp .ge 39, 3) := by decide +kernel
theorem gdX1_worthBy_15 : decode cX1_worthBy 15 = .ok (.aload_n 0, 1) := by decide +kernel
theorem gdX1_worthBy_16 : decode cX1_worthBy 16 = .ok (.getfield 42, 3) := by decide +kernel
theorem gdX1_worthBy_19 : decode cX1_worthBy 19 = .ok (.iload 4, 2) := by decide +kernel
theorem gdX1_worthBy_21 : decode cX1_worthBy 21 = .ok (.iaload, 1) := by decide +kernel
theorem gdX1_worthBy_22 : decode cX1_worthBy 22 = .ok (.iload_n 2, 1) := by decide +kernel
theorem gdX1_worthBy_23 : decode cX1_worthBy 23 = .ok (.if_icmp .gt 28, 3) := by decide +kernel
theorem gdX1_worthBy_26 : decode cX1_worthBy 26 = .ok (.aload_n 0, 1) := by decide +kernel
theorem gdX1_worthBy_27 : decode cX1_worthBy 27 = .ok (.getfield 39, 3) := by decide +kernel
theorem gdX1_worthBy_30 : decode cX1_worthBy 30 = .ok (.iload 4, 2) := by decide +kernel
theorem gdX1_worthBy_32 : decode cX1_worthBy 32 = .ok (.iaload, 1) := by decide +kernel
theorem gdX1_worthBy_33 : decode cX1_worthBy 33 = .ok (.iload_n 1, 1) := by decide +kernel
theorem gdX1_worthBy_34 : decode cX1_worthBy 34 = .ok (.if_icmp .ne 11, 3) := by decide +kernel
theorem gdX1_worthBy_37 : decode cX1_worthBy 37 = .ok (.aload_n 0, 1) := by decide +kernel
theorem gdX1_worthBy_38 : decode cX1_worthBy 38 = .ok (.getfield 45, 3) := by decide +kernel
theorem gdX1_worthBy_41 : decode cX1_worthBy 41 = .ok (.iload 4, 2) := by decide +kernel
theorem gdX1_worthBy_43 : decode cX1_worthBy 43 = .ok (.iaload, 1) := by decide +kernel
theorem gdX1_worthBy_44 : decode cX1_worthBy 44 = .ok (.istore_n 3, 1) := by decide +kernel
theorem gdX1_worthBy_0 : decode cX1_worthBy 0 = .ok (.bipush (-9), 2) := by decide +kernel
theorem gdX1_worthBy_2 : decode cX1_worthBy 2 = .ok (.istore_n 3, 1) := by decide +kernel
theorem gdX1_worthBy_3 : decode cX1_worthBy 3 = .ok (.iconst 0, 1) := by decide +kernel
theorem gdX1_worthBy_4 : decode cX1_worthBy 4 = .ok (.istore 4, 2) := by decide +kernel
theorem gdX1_firstWorth_20 : decode cX1_firstWorth 20 = .ok (.aload_n 0, 1) := by decide +kernel
theorem gdX1_firstWorth_21 : decode cX1_firstWorth 21 = .ok (.getfield 45, 3) := by decide +kernel
theorem gdX1_firstWorth_24 : decode cX1_firstWorth 24 = .ok (.iload_n 2, 1) := by decide +kernel
theorem gdX1_firstWorth_25 : decode cX1_firstWorth 25 = .ok (.iaload, 1) := by decide +kernel
theorem gdX1_firstWorth_26 : decode cX1_firstWorth 26 = .ok (.ireturn, 1) := by decide +kernel
theorem gdX1_firstWorth_33 : decode cX1_firstWorth 33 = .ok (.bipush (-9), 2) := by decide +kernel
theorem gdX1_firstWorth_35 : decode cX1_firstWorth 35 = .ok (.ireturn, 1) := by decide +kernel
theorem gdX1_firstWorth_2 : decode cX1_firstWorth 2 = .ok (.iload_n 2, 1) := by decide +kernel
theorem gdX1_firstWorth_3 : decode cX1_firstWorth 3 = .ok (.aload_n 0, 1) := by decide +kernel
theorem gdX1_firstWorth_4 : decode cX1_firstWorth 4 = .ok (.getfield 62, 3) := by decide +kernel
theorem gdX1_firstWorth_7 : decode cX1_firstWorth 7 = .ok (.if_icmp .ge 26, 3) := by decide +kernel
theorem gdX1_firstWorth_10 : decode cX1_firstWorth 10 = .ok (.aload_n 0, 1) := by decide +kernel
theorem gdX1_firstWorth_11 : decode cX1_firstWorth 11 = .ok (.getfield 39, 3) := by decide +kernel
theorem gdX1_firstWorth_14 : decode cX1_firstWorth 14 = .ok (.iload_n 2, 1) := by decide +kernel
theorem gdX1_firstWorth_15 : decode cX1_firstWorth 15 = .ok (.iaload, 1) := by decide +kernel
theorem gdX1_firstWorth_16 : decode cX1_firstWorth 16 = .ok (.iload_n 1, 1) := by decide +kernel
theorem gdX1_firstWorth_17 : decode cX1_firstWorth 17 = .ok (.if_icmp .ne 10, 3) := by decide +kernel
theorem gdX1_firstWorth_27 : decode cX1_firstWorth 27 = .ok (.iinc 2 1, 3) := by decide +kernel
theorem gdX1_firstWorth_30 : decode cX1_firstWorth 30 = .ok (.goto (-28), 3) := by decide +kernel
theorem gdX1_firstWorth_0 : decode cX1_firstWorth 0 = .ok (.iconst 0, 1) := by decide +kernel
theorem gdX1_firstWorth_1 : decode cX1_firstWorth 1 = .ok (.istore_n 2, 1) := by decide +kernel
theorem gdX5_turnOut_50 : decode cX5_turnOut 50 = .ok (.lload_n 2, 1) := by decide +kernel
theorem gdX5_turnOut_51 : decode cX5_turnOut 51 = .ok (.lreturn, 1) := by decide +kernel
theorem gdX5_turnOut_44 : decode cX5_turnOut 44 = .ok (.iinc 4 1, 3) := by decide +kernel
theorem gdX5_turnOut_47 : decode cX5_turnOut 47 = .ok (.goto (-42), 3) := by decide +kernel
theorem gdX5_turnOut_5 : decode cX5_turnOut 5 = .ok (.iload 4, 2) := by decide +kernel
theorem gdX5_turnOut_7 : decode cX5_turnOut 7 = .ok (.aload_n 0, 1) := by decide +kernel
theorem gdX5_turnOut_8 : decode cX5_turnOut 8 = .ok (.getfield 25, 3) := by decide +kernel
theorem gdX5_turnOut_11 : decode cX5_turnOut 11 = .ok (.if_icmp .ge 39, 3) := by decide +kernel
theorem gdX5_turnOut_14 : decode cX5_turnOut 14 = .ok (.aload_n 0, 1) := by decide +kernel
theorem gdX5_turnOut_15 : decode cX5_turnOut 15 = .ok (.getfield 11, 3) := by decide +kernel
theorem gdX5_turnOut_18 : decode cX5_turnOut 18 = .ok (.iload 4, 2) := by decide +kernel
theorem gdX5_turnOut_20 : decode cX5_turnOut 20 = .ok (.iaload, 1) := by decide +kernel
theorem gdX5_turnOut_21 : decode cX5_turnOut 21 = .ok (.iload_n 1, 1) := by decide +kernel
theorem gdX5_turnOut_22 : decode cX5_turnOut 22 = .ok (.if_icmp .eq 6, 3) := by decide +kernel
theorem gdX5_turnOut_28 : decode cX5_turnOut 28 = .ok (.aload_n 0, 1) := by decide +kernel
theorem gdX5_turnOut_29 : decode cX5_turnOut 29 = .ok (.getfield 11, 3) := by decide +kernel
theorem gdX5_turnOut_32 : decode cX5_turnOut 32 = .ok (.iload 4, 2) := by decide +kernel
theorem gdX5_turnOut_34 : decode cX5_turnOut 34 = .ok (.bipush (-9), 2) := by decide +kernel
theorem gdX5_turnOut_36 : decode cX5_turnOut 36 = .ok (.iastore, 1) := by decide +kernel
theorem gdX5_turnOut_37 : decode cX5_turnOut 37 = .ok (.lload_n 2, 1) := by decide +kernel
theorem gdX5_turnOut_38 : decode cX5_turnOut 38 = .ok (.lconst 1, 1) := by decide +kernel
theorem gdX5_turnOut_39 : decode cX5_turnOut 39 = .ok (.iload 4, 2) := by decide +kernel
theorem gdX5_turnOut_41 : decode cX5_turnOut 41 = .ok (.lshl, 1) := by decide +kernel
theorem gdX5_turnOut_42 : decode cX5_turnOut 42 = .ok (.lor, 1) := by decide +kernel
theorem gdX5_turnOut_43 : decode cX5_turnOut 43 = .ok (.lstore_n 2, 1) := by decide +kernel
theorem gdX5_turnOut_25 : decode cX5_turnOut 25 = .ok (.goto 19, 3) := by decide +kernel
theorem gdX5_turnOut_0 : decode cX5_turnOut 0 = .ok (.lconst 0, 1) := by decide +kernel
theorem gdX5_turnOut_1 : decode cX5_turnOut 1 = .ok (.lstore_n 2, 1) := by decide +kernel
theorem gdX5_turnOut_2 : decode cX5_turnOut 2 = .ok (.iconst 0, 1) := by decide +kernel
theorem gdX5_turnOut_3 : decode cX5_turnOut 3 = .ok (.istore 4, 2) := by decide +kernel
theorem gdX4_setTaking_0 : decode cX4_setTaking 0 = .ok (.aload_n 0, 1) := by decide +kernel
theorem gdX4_setTaking_1 : decode cX4_setTaking 1 = .ok (.getfield 39, 3) := by decide +kernel
theorem gdX4_setTaking_4 : decode cX4_setTaking 4 = .ok (.iload_n 1, 1) := by decide +kernel
theorem gdX4_setTaking_5 : decode cX4_setTaking 5 = .ok (.iload_n 2, 1) := by decide +kernel
theorem gdX4_setTaking_6 : decode cX4_setTaking 6 = .ok (.iastore, 1) := by decide +kernel
theorem gdX4_setTaking_7 : decode cX4_setTaking 7 = .ok (.aload_n 0, 1) := by decide +kernel
theorem gdX4_setTaking_8 : decode cX4_setTaking 8 = .ok (.getfield 51, 3) := by decide +kernel
theorem gdX4_setTaking_11 : decode cX4_setTaking 11 = .ok (.iload_n 1, 1) := by decide +kernel
theorem gdX4_setTaking_12 : decode cX4_setTaking 12 = .ok (.lload_n 3, 1) := by decide +kernel
theorem gdX4_setTaking_13 : decode cX4_setTaking 13 = .ok (.lastore, 1) := by decide +kernel
theorem gdX4_setTaking_14 : decode cX4_setTaking 14 = .ok (.return_, 1) := by decide +kernel
theorem gdX1_remove_0 : decode cX1_remove 0 = .ok (.aload_n 0, 1) := by decide +kernel
theorem gdX1_remove_1 : decode cX1_remove 1 = .ok (.getfield 30, 3) := by decide +kernel
theorem gdX1_remove_4 : decode cX1_remove 4 = .ok (.iload_n 1, 1) := by decide +kernel
theorem gdX1_remove_5 : decode cX1_remove 5 = .ok (.iconst 1, 1) := by decide +kernel
theorem gdX1_remove_6 : decode cX1_remove 6 = .ok (.bastore, 1) := by decide +kernel
theorem gdX1_remove_7 : decode cX1_remove 7 = .ok (.aload_n 0, 1) := by decide +kernel
theorem gdX1_remove_8 : decode cX1_remove 8 = .ok (.getfield 21, 3) := by decide +kernel
theorem gdX1_remove_11 : decode cX1_remove 11 = .ok (.iload_n 1, 1) := by decide +kernel
theorem gdX1_remove_12 : decode cX1_remove 12 = .ok (.iconst 0, 1) := by decide +kernel
theorem gdX1_remove_13 : decode cX1_remove 13 = .ok (.iastore, 1) := by decide +kernel
theorem gdX1_remove_14 : decode cX1_remove 14 = .ok (.aload_n 0, 1) := by decide +kernel
theorem gdX1_remove_15 : decode cX1_remove 15 = .ok (.getfield 36, 3) := by decide +kernel
theorem gdX1_remove_18 : decode cX1_remove 18 = .ok (.aload_n 0, 1) := by decide +kernel
theorem gdX1_remove_19 : decode cX1_remove 19 = .ok (.getfield 11, 3) := by decide +kernel
theorem gdX1_remove_22 : decode cX1_remove 22 = .ok (.iload_n 1, 1) := by decide +kernel
theorem gdX1_remove_23 : decode cX1_remove 23 = .ok (.iaload, 1) := by decide +kernel
theorem gdX1_remove_24 : decode cX1_remove 24 = .ok (.bipush (-9), 2) := by decide +kernel
theorem gdX1_remove_26 : decode cX1_remove 26 = .ok (.iastore, 1) := by decide +kernel
theorem gdX1_remove_27 : decode cX1_remove 27 = .ok (.return_, 1) := by decide +kernel
theorem gdX11_take_22 : decode cX11_take 22 = .ok (.iconst (-1), 1) := by decide +kernel
theorem gdX11_take_23 : decode cX11_take 23 = .ok (.ireturn, 1) := by decide +kernel
theorem gdX11_take_105 : decode cX11_take 105 = .ok (.bipush (-4), 2) := by decide +kernel
theorem gdX11_take_107 : decode cX11_take 107 = .ok (.ireturn, 1) := by decide +kernel
theorem gdX11_take_138 : decode cX11_take 138 = .ok (.iload 4, 2) := by decide +kernel
theorem gdX11_take_140 : decode cX11_take 140 = .ok (.aload_n 0, 1) := by decide +kernel
theorem gdX11_take_141 : decode cX11_take 141 = .ok (.iconst 2, 1) := by decide +kernel
theorem gdX11_take_142 : decode cX11_take 142 = .ok (.invokevirtual 228, 3) := by decide +kernel
theorem gdX11_take_145 : decode cX11_take 145 = .ok (.imul, 1) := by decide +kernel
theorem gdX11_take_146 : decode cX11_take 146 = .ok (.bipush 100, 2) := by decide +kernel
theorem gdX11_take_148 : decode cX11_take 148 = .ok (.idiv, 1) := by decide +kernel
theorem gdX11_take_149 : decode cX11_take 149 = .ok (.istore 5, 2) := by decide +kernel
theorem gdX11_take_151 : decode cX11_take 151 = .ok (.aload_n 0, 1) := by decide +kernel
theorem gdX11_take_152 : decode cX11_take 152 = .ok (.getfield 52, 3) := by decide +kernel
theorem gdX11_take_155 : decode cX11_take 155 = .ok (.iconst 3, 1) := by decide +kernel
theorem gdX11_take_156 : decode cX11_take 156 = .ok (.aload_n 0, 1) := by decide +kernel
theorem gdX11_take_157 : decode cX11_take 157 = .ok (.getfield 136, 3) := by decide +kernel
theorem gdX11_take_160 : decode cX11_take 160 = .ok (.iload_n 2, 1) := by decide +kernel
theorem gdX11_take_161 : decode cX11_take 161 = .ok (.invokevirtual 235, 3) := by decide +kernel
theorem gdX11_take_164 : decode cX11_take 164 = .ok (.istore 6, 2) := by decide +kernel
theorem gdX11_take_166 : decode cX11_take 166 = .ok (.aload_n 0, 1) := by decide +kernel
theorem gdX11_take_167 : decode cX11_take 167 = .ok (.getfield 52, 3) := by decide +kernel
theorem gdX11_take_170 : decode cX11_take 170 = .ok (.iload 6, 2) := by decide +kernel
theorem gdX11_take_172 : decode cX11_take 172 = .ok (.iload 5, 2) := by decide +kernel
theorem gdX11_take_174 : decode cX11_take 174 = .ok (.aload_n 0, 1) := by decide +kernel
theorem gdX11_take_175 : decode cX11_take 175 = .ok (.getfield 40, 3) := by decide +kernel
theorem gdX11_take_178 : decode cX11_take 178 = .ok (.iload_n 1, 1) := by decide +kernel
theorem gdX11_take_179 : decode cX11_take 179 = .ok (.invokevirtual 294, 3) := by decide +kernel
theorem gdX11_take_182 : decode cX11_take 182 = .ok (.invokevirtual 297, 3) := by decide +kernel
theorem gdX11_take_185 : decode cX11_take 185 = .ok (.aload_n 0, 1) := by decide +kernel
theorem gdX11_take_186 : decode cX11_take 186 = .ok (.getfield 33, 3) := by decide +kernel
theorem gdX11_take_189 : decode cX11_take 189 = .ok (.iload_n 1, 1) := by decide +kernel
theorem gdX11_take_190 : decode cX11_take 190 = .ok (.invokevirtual 301, 3) := by decide +kernel
theorem gdX11_take_193 : decode cX11_take 193 = .ok (.aload_n 0, 1) := by decide +kernel
theorem gdX11_take_194 : decode cX11_take 194 = .ok (.iload 5, 2) := by decide +kernel
theorem gdX11_take_196 : decode cX11_take 196 = .ok (.invokevirtual 117, 3) := by decide +kernel
theorem gdX11_take_199 : decode cX11_take 199 = .ok (.pop, 1) := by decide +kernel
theorem gdX11_take_200 : decode cX11_take 200 = .ok (.iload 6, 2) := by decide +kernel
theorem gdX11_take_202 : decode cX11_take 202 = .ok (.ireturn, 1) := by decide +kernel
theorem gdX11_take_0 : decode cX11_take 0 = .ok (.aload_n 0, 1) := by decide +kernel
theorem gdX11_take_1 : decode cX11_take 1 = .ok (.getfield 33, 3) := by decide +kernel
theorem gdX11_take_4 : decode cX11_take 4 = .ok (.iload_n 1, 1) := by decide +kernel
theorem gdX11_take_5 : decode cX11_take 5 = .ok (.invokevirtual 170, 3) := by decide +kernel
theorem gdX11_take_8 : decode cX11_take 8 = .ok (.ifCond .eq 14, 3) := by decide +kernel
theorem gdX11_take_11 : decode cX11_take 11 = .ok (.aload_n 0, 1) := by decide +kernel
theorem gdX11_take_12 : decode cX11_take 12 = .ok (.getfield 52, 3) := by decide +kernel
theorem gdX11_take_15 : decode cX11_take 15 = .ok (.iload_n 2, 1) := by decide +kernel
theorem gdX11_take_16 : decode cX11_take 16 = .ok (.invokevirtual 250, 3) := by decide +kernel
theorem gdX11_take_19 : decode cX11_take 19 = .ok (.ifCond .ne 5, 3) := by decide +kernel
theorem gdX11_take_24 : decode cX11_take 24 = .ok (.aload_n 0, 1) := by decide +kernel
theorem gdX11_take_25 : decode cX11_take 25 = .ok (.getfield 52, 3) := by decide +kernel
theorem gdX11_take_28 : decode cX11_take 28 = .ok (.invokevirtual 218, 3) := by decide +kernel
theorem gdX11_take_31 : decode cX11_take 31 = .ok (.bipush 24, 2) := by decide +kernel
theorem gdX11_take_33 : decode cX11_take 33 = .ok (.if_icmp .lt 6, 3) := by decide +kernel
theorem gdX11_take_39 : decode cX11_take 39 = .ok (.aload_n 0, 1) := by decide +kernel
theorem gdX11_take_40 : decode cX11_take 40 = .ok (.getfield 52, 3) := by decide +kernel
theorem gdX11_take_43 : decode cX11_take 43 = .ok (.iload_n 2, 1) := by decide +kernel
theorem gdX11_take_44 : decode cX11_take 44 = .ok (.iconst 1, 1) := by decide +kernel
theorem gdX11_take_45 : decode cX11_take 45 = .ok (.invokevirtual 251, 3) := by decide +kernel
theorem gdX11_take_48 : decode cX11_take 48 = .ok (.ifCond .ne 9, 3) := by decide +kernel
theorem gdX11_take_57 : decode cX11_take 57 = .ok (.aload_n 0, 1) := by decide +kernel
theorem gdX11_take_58 : decode cX11_take 58 = .ok (.getfield 52, 3) := by decide +kernel
theorem gdX11_take_61 : decode cX11_take 61 = .ok (.iload_n 2, 1) := by decide +kernel
theorem gdX11_take_62 : decode cX11_take 62 = .ok (.invokevirtual 272, 3) := by decide +kernel
theorem gdX11_take_65 : decode cX11_take 65 = .ok (.istore_n 3, 1) := by decide +kernel
theorem gdX11_take_66 : decode cX11_take 66 = .ok (.iload_n 3, 1) := by decide +kernel
theorem gdX11_take_67 : decode cX11_take 67 = .ok (.bipush (-9), 2) := by decide +kernel
theorem gdX11_take_69 : decode cX11_take 69 = .ok (.if_icmp .eq 36, 3) := by decide +kernel
theorem gdX11_take_72 : decode cX11_take 72 = .ok (.aload_n 0, 1) := by decide +kernel
theorem gdX11_take_73 : decode cX11_take 73 = .ok (.getfield 33, 3) := by decide +kernel
theorem gdX11_take_76 : decode cX11_take 76 = .ok (.iload_n 1, 1) := by decide +kernel
theorem gdX11_take_77 : decode cX11_take 77 = .ok (.invokevirtual 171, 3) := by decide +kernel
theorem gdX11_take_80 : decode cX11_take 80 = .ok (.ifCond .ne 25, 3) := by decide +kernel
theorem gdX11_take_83 : decode cX11_take 83 = .ok (.aload_n 0, 1) := by decide +kernel
theorem gdX11_take_84 : decode cX11_take 84 = .ok (.getfield 52, 3) := by decide +kernel
theorem gdX11_take_87 : decode cX11_take 87 = .ok (.iload_n 2, 1) := by decide +kernel
theorem gdX11_take_88 : decode cX11_take 88 = .ok (.invokevirtual 254, 3) := by decide +kernel
theorem gdX11_take_91 : decode cX11_take 91 = .ok (.aload_n 0, 1) := by decide +kernel
theorem gdX11_take_92 : decode cX11_take 92 = .ok (.getfield 33, 3) := by decide +kernel
theorem gdX11_take_95 : decode cX11_take 95 = .ok (.iload_n 1, 1) := by decide +kernel
theorem gdX11_take_96 : decode cX11_take 96 = .ok (.invokevirtual 282, 3) := by decide +kernel
theorem gdX11_take_99 : decode cX11_take 99 = .ok (.invokestatic 262, 3) := by decide +kernel
theorem gdX11_take_102 : decode cX11_take 102 = .ok (.ifCond .ne 6, 3) := by decide +kernel
theorem gdX11_take_108 : decode cX11_take 108 = .ok (.aload_n 0, 1) := by decide +kernel
theorem gdX11_take_109 : decode cX11_take 109 = .ok (.getfield 33, 3) := by decide +kernel
theorem gdX11_take_112 : decode cX11_take 112 = .ok (.iload_n 1, 1) := by decide +kernel
theorem gdX11_take_113 : decode cX11_take 113 = .ok (.iload_n 3, 1) := by decide +kernel
theorem gdX11_take_114 : decode cX11_take 114 = .ok (.iconst 1, 1) := by decide +kernel
theorem gdX11_take_115 : decode cX11_take 115 = .ok (.isub, 1) := by decide +kernel
theorem gdX11_take_116 : decode cX11_take 116 = .ok (.invokevirtual 183, 3) := by decide +kernel
theorem gdX11_take_119 : decode cX11_take 119 = .ok (.istore 4, 2) := by decide +kernel
theorem gdX11_take_121 : decode cX11_take 121 = .ok (.iload 4, 2) := by decide +kernel
theorem gdX11_take_123 : decode cX11_take 123 = .ok (.bipush (-9), 2) := by decide +kernel
theorem gdX11_take_125 : decode cX11_take 125 = .ok (.if_icmp .ne 13, 3) := by decide +kernel
theorem gdX11_take_128 : decode cX11_take 128 = .ok (.aload_n 0, 1) := by decide +kernel
theorem gdX11_take_129 : decode cX11_take 129 = .ok (.getfield 33, 3) := by decide +kernel
theorem gdX11_take_132 : decode cX11_take 132 = .ok (.iload_n 1, 1) := by decide +kernel
theorem gdX11_take_133 : decode cX11_take 133 = .ok (.invokevirtual 291, 3) := by decide +kernel
theorem gdX11_take_136 : decode cX11_take 136 = .ok (.istore 4, 2) := by decide +kernel
theorem gdX11_take_51 : decode cX11_take 51 = .ok (.aload_n 0, 1) := by decide +kernel
theorem gdX11_take_52 : decode cX11_take 52 = .ok (.iconst 3, 1) := by decide +kernel
theorem gdX11_take_53 : decode cX11_take 53 = .ok (.invokevirtual 99, 3) := by decide +kernel
theorem gdX11_take_56 : decode cX11_take 56 = .ok (.ireturn, 1) := by decide +kernel
theorem gdX11_take_36 : decode cX11_take 36 = .ok (.bipush (-2), 2) := by decide +kernel
theorem gdX11_take_38 : decode cX11_take 38 = .ok (.ireturn, 1) := by decide +kernel
theorem gdX8_remove_0 : decode cX8_remove 0 = .ok (.aload_n 0, 1) := by decide +kernel
theorem gdX8_remove_1 : decode cX8_remove 1 = .ok (.getfield 9, 3) := by decide +kernel
theorem gdX8_remove_4 : decode cX8_remove 4 = .ok (.iload_n 1, 1) := by decide +kernel
theorem gdX8_remove_5 : decode cX8_remove 5 = .ok (.iconst (-1), 1) := by decide +kernel
theorem gdX8_remove_6 : decode cX8_remove 6 = .ok (.iastore, 1) := by decide +kernel
theorem gdX8_remove_7 : decode cX8_remove 7 = .ok (.return_, 1) := by decide +kernel
theorem gdX11_tear_0 : decode cX11_tear 0 = .ok (.aload_n 0, 1) := by decide +kernel
theorem gdX11_tear_1 : decode cX11_tear 1 = .ok (.getfield 12, 3) := by decide +kernel
theorem gdX11_tear_4 : decode cX11_tear 4 = .ok (.iload_n 1, 1) := by decide +kernel
theorem gdX11_tear_5 : decode cX11_tear 5 = .ok (.invokevirtual 95, 3) := by decide +kernel
theorem gdX11_tear_8 : decode cX11_tear 8 = .ok (.ifCond .ne 5, 3) := by decide +kernel
theorem gdX11_tear_13 : decode cX11_tear 13 = .ok (.aload_n 0, 1) := by decide +kernel
theorem gdX11_tear_14 : decode cX11_tear 14 = .ok (.getfield 12, 3) := by decide +kernel
theorem gdX11_tear_17 : decode cX11_tear 17 = .ok (.iload_n 1, 1) := by decide +kernel
theorem gdX11_tear_18 : decode cX11_tear 18 = .ok (.invokevirtual 106, 3) := by decide +kernel
theorem gdX11_tear_21 : decode cX11_tear 21 = .ok (.ifCond .ne 9, 3) := by decide +kernel
theorem gdX11_tear_30 : decode cX11_tear 30 = .ok (.aload_n 0, 1) := by decide +kernel
theorem gdX11_tear_31 : decode cX11_tear 31 = .ok (.getfield 12, 3) := by decide +kernel
theorem gdX11_tear_34 : decode cX11_tear 34 = .ok (.iload_n 1, 1) := by decide +kernel
theorem gdX11_tear_35 : decode cX11_tear 35 = .ok (.invokevirtual 120, 3) := by decide +kernel
theorem gdX11_tear_38 : decode cX11_tear 38 = .ok (.iconst 1, 1) := by decide +kernel
theorem gdX11_tear_39 : decode cX11_tear 39 = .ok (.ireturn, 1) := by decide +kernel
theorem gdX11_tear_24 : decode cX11_tear 24 = .ok (.aload_n 0, 1) := by decide +kernel
theorem gdX11_tear_25 : decode cX11_tear 25 = .ok (.iconst 1, 1) := by decide +kernel
theorem gdX11_tear_26 : decode cX11_tear 26 = .ok (.invokevirtual 99, 3) := by decide +kernel
theorem gdX11_tear_29 : decode cX11_tear 29 = .ok (.ireturn, 1) := by decide +kernel
theorem gdX11_tear_11 : decode cX11_tear 11 = .ok (.iconst (-1), 1) := by decide +kernel
theorem gdX11_tear_12 : decode cX11_tear 12 = .ok (.ireturn, 1) := by decide +kernel
theorem gdX11_text_17 : decode cX11_text 17 = .ok (.iconst (-1), 1) := by decide +kernel
theorem gdX11_text_18 : decode cX11_text 18 = .ok (.ireturn, 1) := by decide +kernel
theorem gdX11_text_0 : decode cX11_text 0 = .ok (.aload_n 0, 1) := by decide +kernel
theorem gdX11_text_1 : decode cX11_text 1 = .ok (.getfield 20, 3) := by decide +kernel
theorem gdX11_text_4 : decode cX11_text 4 = .ok (.iload_n 1, 1) := by decide +kernel
theorem gdX11_text_5 : decode cX11_text 5 = .ok (.invokevirtual 95, 3) := by decide +kernel
theorem gdX11_text_8 : decode cX11_text 8 = .ok (.ifCond .eq 9, 3) := by decide +kernel
theorem gdX11_text_11 : decode cX11_text 11 = .ok (.iload_n 2, 1) := by decide +kernel
theorem gdX11_text_12 : decode cX11_text 12 = .ok (.bipush 40, 2) := by decide +kernel
theorem gdX11_text_14 : decode cX11_text 14 = .ok (.if_icmp .le 5, 3) := by decide +kernel
theorem gdX11_text_19 : decode cX11_text 19 = .ok (.iload_n 2, 1) := by decide +kernel
theorem gdX11_text_20 : decode cX11_text 20 = .ok (.ifCond .ge 9, 3) := by decide +kernel
theorem gdX11_text_29 : decode cX11_text 29 = .ok (.aload_n 0, 1) := by decide +kernel
theorem gdX11_text_30 : decode cX11_text 30 = .ok (.getfield 20, 3) := by decide +kernel
theorem gdX11_text_33 : decode cX11_text 33 = .ok (.iload_n 1, 1) := by decide +kernel
theorem gdX11_text_34 : decode cX11_text 34 = .ok (.iload_n 2, 1) := by decide +kernel
theorem gdX11_text_35 : decode cX11_text 35 = .ok (.invokevirtual 103, 3) := by decide +kernel
theorem gdX11_text_38 : decode cX11_text 38 = .ok (.iload_n 2, 1) := by decide +kernel
theorem gdX11_text_39 : decode cX11_text 39 = .ok (.ireturn, 1) := by decide +kernel
theorem gdX11_text_23 : decode cX11_text 23 = .ok (.aload_n 0, 1) := by decide +kernel
theorem gdX11_text_24 : decode cX11_text 24 = .ok (.iconst 5, 1) := by decide +kernel
theorem gdX11_text_25 : decode cX11_text 25 = .ok (.invokevirtual 99, 3) := by decide +kernel
theorem gdX11_text_28 : decode cX11_text 28 = .ok (.ireturn, 1) := by decide +kernel
theorem gdX11_told_20 : decode cX11_told 20 = .ok (.iconst (-1), 1) := by decide +kernel
theorem gdX11_told_21 : decode cX11_told 21 = .ok (.ireturn, 1) := by decide +kernel
theorem gdX11_told_0 : decode cX11_told 0 = .ok (.aload_n 0, 1) := by decide +kernel
theorem gdX11_told_1 : decode cX11_told 1 = .ok (.getfield 52, 3) := by decide +kernel
theorem gdX11_told_4 : decode cX11_told 4 = .ok (.iload_n 1, 1) := by decide +kernel
theorem gdX11_told_5 : decode cX11_told 5 = .ok (.invokevirtual 250, 3) := by decide +kernel
theorem gdX11_told_8 : decode cX11_told 8 = .ok (.ifCond .eq 12, 3) := by decide +kernel
theorem gdX11_told_11 : decode cX11_told 11 = .ok (.iload_n 2, 1) := by decide +kernel
theorem gdX11_told_12 : decode cX11_told 12 = .ok (.ifCond .lt 8, 3) := by decide +kernel
theorem gdX11_told_15 : decode cX11_told 15 = .ok (.iload_n 2, 1) := by decide +kernel
theorem gdX11_told_16 : decode cX11_told 16 = .ok (.iconst 2, 1) := by decide +kernel
theorem gdX11_told_17 : decode cX11_told 17 = .ok (.if_icmp .le 5, 3) := by decide +kernel
theorem gdX11_told_22 : decode cX11_told 22 = .ok (.aload_n 0, 1) := by decide +kernel
theorem gdX11_told_23 : decode cX11_told 23 = .ok (.aload_n 0, 1) := by decide +kernel
theorem gdX11_told_24 : decode cX11_told 24 = .ok (.getfield 52, 3) := by decide +kernel
theorem gdX11_told_27 : decode cX11_told 27 = .ok (.iload_n 1, 1) := by decide +kernel
theorem gdX11_told_28 : decode cX11_told 28 = .ok (.iload_n 2, 1) := by decide +kernel
theorem gdX11_told_29 : decode cX11_told 29 = .ok (.invokevirtual 321, 3) := by decide +kernel
theorem gdX11_told_32 : decode cX11_told 32 = .ok (.invokevirtual 117, 3) := by decide +kernel
theorem gdX11_told_35 : decode cX11_told 35 = .ok (.ireturn, 1) := by decide +kernel
theorem gdX11_value_18 : decode cX11_value 18 = .ok (.iconst (-1), 1) := by decide +kernel
theorem gdX11_value_19 : decode cX11_value 19 = .ok (.ireturn, 1) := by decide +kernel
theorem gdX11_value_0 : decode cX11_value 0 = .ok (.aload_n 0, 1) := by decide +kernel
theorem gdX11_value_1 : decode cX11_value 1 = .ok (.getfield 33, 3) := by decide +kernel
theorem gdX11_value_4 : decode cX11_value 4 = .ok (.iload_n 1, 1) := by decide +kernel
theorem gdX11_value_5 : decode cX11_value 5 = .ok (.invokevirtual 170, 3) := by decide +kernel
theorem gdX11_value_8 : decode cX11_value 8 = .ok (.ifCond .eq 10, 3) := by decide +kernel
theorem gdX11_value_11 : decode cX11_value 11 = .ok (.iload_n 2, 1) := by decide +kernel
theorem gdX11_value_12 : decode cX11_value 12 = .ok (.invokestatic 180, 3) := by decide +kernel
theorem gdX11_value_15 : decode cX11_value 15 = .ok (.ifCond .ne 5, 3) := by decide +kernel
theorem gdX11_value_20 : decode cX11_value 20 = .ok (.aload_n 0, 1) := by decide +kernel
theorem gdX11_value_21 : decode cX11_value 21 = .ok (.getfield 33, 3) := by decide +kernel
theorem gdX11_value_24 : decode cX11_value 24 = .ok (.iload_n 1, 1) := by decide +kernel
theorem gdX11_value_25 : decode cX11_value 25 = .ok (.iload_n 2, 1) := by decide +kernel
theorem gdX11_value_26 : decode cX11_value 26 = .ok (.invokevirtual 183, 3) := by decide +kernel
theorem gdX11_value_29 : decode cX11_value 29 = .ok (.ireturn, 1) := by decide +kernel
theorem gdX6_listHouses_99 : decode cX6_listHouses 99 = .ok (.iload 4, 2) := by decide +kernel
theorem gdX6_listHouses_101 : decode cX6_listHouses 101 = .ok (.ireturn, 1) := by decide +kernel
theorem gdX6_listHouses_93 : decode cX6_listHouses 93 = .ok (.iinc 5 1, 3) := by decide +kernel
theorem gdX6_listHouses_96 : decode cX6_listHouses 96 = .ok (.goto (-85), 3) := by decide +kernel
theorem gdX6_listHouses_11 : decode cX6_listHouses 11 = .ok (.iload 5, 2) := by decide +kernel
theorem gdX6_listHouses_13 : decode cX6_listHouses 13 = .ok (.aload_n 1, 1) := by decide +kernel
theorem gdX6_listHouses_14 : decode cX6_listHouses 14 = .ok (.invokevirtual 65, 3) := by decide +kernel
theorem gdX6_listHouses_17 : decode cX6_listHouses 17 = .ok (.if_icmp .ge 82, 3) := by decide +kernel
theorem gdX6_listHouses_20 : decode cX6_listHouses 20 = .ok (.aload_n 1, 1) := by decide +kernel
theorem gdX6_listHouses_21 : decode cX6_listHouses 21 = .ok (.iload 5, 2) := by decide +kernel
theorem gdX6_listHouses_23 : decode cX6_listHouses 23 = .ok (.invokevirtual 69, 3) := by decide +kernel
theorem gdX6_listHouses_26 : decode cX6_listHouses 26 = .ok (.istore 6, 2) := by decide +kernel
theorem gdX6_listHouses_28 : decode cX6_listHouses 28 = .ok (.iload 6, 2) := by decide +kernel
theorem gdX6_listHouses_30 : decode cX6_listHouses 30 = .ok (.iconst 1, 1) := by decide +kernel
theorem gdX6_listHouses_31 : decode cX6_listHouses 31 = .ok (.if_icmp .lt 62, 3) := by decide +kernel
theorem gdX6_listHouses_34 : decode cX6_listHouses 34 = .ok (.lload_n 2, 1) := by decide +kernel
theorem gdX6_listHouses_35 : decode cX6_listHouses 35 = .ok (.aload_n 1, 1) := by decide +kernel
theorem gdX6_listHouses_36 : decode cX6_listHouses 36 = .ok (.iload 5, 2) := by decide +kernel
theorem gdX6_listHouses_38 : decode cX6_listHouses 38 = .ok (.invokevirtual 73, 3) := by decide +kernel
theorem gdX6_listHouses_41 : decode cX6_listHouses 41 = .ok (.invokestatic 76, 3) := by decide +kernel
theorem gdX6_listHouses_44 : decode cX6_listHouses 44 = .ok (.ifCond .eq 6, 3) := by decide +kernel
theorem gdX6_listHouses_50 : decode cX6_listHouses 50 = .ok (.aload_n 0, 1) := by decide +kernel
theorem gdX6_listHouses_51 : decode cX6_listHouses 51 = .ok (.getfield 19, 3) := by decide +kernel
theorem gdX6_listHouses_54 : decode cX6_listHouses 54 = .ok (.aload_n 0, 1) := by decide +kernel
theorem gdX6_listHouses_55 : decode cX6_listHouses 55 = .ok (.getfield 42, 3) := by decide +kernel
theorem gdX6_listHouses_58 : decode cX6_listHouses 58 = .ok (.iload 6, 2) := by decide +kernel
theorem gdX6_listHouses_60 : decode cX6_listHouses 60 = .ok (.iastore, 1) := by decide +kernel
theorem gdX6_listHouses_61 : decode cX6_listHouses 61 = .ok (.aload_n 0, 1) := by decide +kernel
theorem gdX6_listHouses_62 : decode cX6_listHouses 62 = .ok (.getfield 22, 3) := by decide +kernel
theorem gdX6_listHouses_65 : decode cX6_listHouses 65 = .ok (.aload_n 0, 1) := by decide +kernel
theorem gdX6_listHouses_66 : decode cX6_listHouses 66 = .ok (.getfield 42, 3) := by decide +kernel
theorem gdX6_listHouses_69 : decode cX6_listHouses 69 = .ok (.aload_n 1, 1) := by decide +kernel
theorem gdX6_listHouses_70 : decode cX6_listHouses 70 = .ok (.iload 5, 2) := by decide +kernel
theorem gdX6_listHouses_72 : decode cX6_listHouses 72 = .ok (.invokevirtual 73, 3) := by decide +kernel
theorem gdX6_listHouses_75 : decode cX6_listHouses 75 = .ok (.iastore, 1) := by decide +kernel
theorem gdX6_listHouses_76 : decode cX6_listHouses 76 = .ok (.aload_n 0, 1) := by decide +kernel
theorem gdX6_listHouses_77 : decode cX6_listHouses 77 = .ok (.dup, 1) := by decide +kernel
theorem gdX6_listHouses_78 : decode cX6_listHouses 78 = .ok (.getfield 42, 3) := by decide +kernel
theorem gdX6_listHouses_81 : decode cX6_listHouses 81 = .ok (.iconst 1, 1) := by decide +kernel
theorem gdX6_listHouses_82 : decode cX6_listHouses 82 = .ok (.iadd, 1) := by decide +kernel
theorem gdX6_listHouses_83 : decode cX6_listHouses 83 = .ok (.putfield 42, 3) := by decide +kernel
theorem gdX6_listHouses_86 : decode cX6_listHouses 86 = .ok (.iload 4, 2) := by decide +kernel
theorem gdX6_listHouses_88 : decode cX6_listHouses 88 = .ok (.iload 6, 2) := by decide +kernel
theorem gdX6_listHouses_90 : decode cX6_listHouses 90 = .ok (.iadd, 1) := by decide +kernel
theorem gdX6_listHouses_91 : decode cX6_listHouses 91 = .ok (.istore 4, 2) := by decide +kernel
theorem gdX6_listHouses_47 : decode cX6_listHouses 47 = .ok (.goto 46, 3) := by decide +kernel
theorem gdX6_listHouses_0 : decode cX6_listHouses 0 = .ok (.iconst 0, 1) := by decide +kernel
theorem gdX6_listHouses_1 : decode cX6_listHouses 1 = .ok (.istore 4, 2) := by decide +kernel
theorem gdX6_listHouses_3 : decode cX6_listHouses 3 = .ok (.aload_n 0, 1) := by decide +kernel
theorem gdX6_listHouses_4 : decode cX6_listHouses 4 = .ok (.iconst 0, 1) := by decide +kernel
theorem gdX6_listHouses_5 : decode cX6_listHouses 5 = .ok (.putfield 42, 3) := by decide +kernel
theorem gdX6_listHouses_8 : decode cX6_listHouses 8 = .ok (.iconst 0, 1) := by decide +kernel
theorem gdX6_listHouses_9 : decode cX6_listHouses 9 = .ok (.istore 5, 2) := by decide +kernel
theorem okm_X9_visit : okM yX9_visit cX9_visit 3 none 2 := ⟨w_1349, w_102, by decide +kernel, by decide +kernel, by decide +kernel⟩
theorem okw_X9_visit : okV yX9_visit := ⟨w_1348, w_31⟩
theorem okm_X3_back : okM yX3_back cX3_back 1 (some .int) 1 := ⟨w_1361, w_93, by decide +kernel, by decide +kernel, by decide +kernel⟩
theorem okm_X9_enter : okM yX9_enter cX9_enter 5 none 2 := ⟨w_1358, w_102, by decide +kernel, by decide +kernel, by decide +kernel⟩
theorem okw_X9_enter : okV yX9_enter := ⟨w_1357, w_33⟩
theorem okm_X9_leave : okM yX9_leave cX9_leave 3 none 1 := ⟨w_1353, w_102, by decide +kernel, by decide +kernel, by decide +kernel⟩
theorem okw_X9_leave : okV yX9_leave := ⟨w_1352, w_32⟩
theorem okm_X3_wayTo : okM yX3_wayTo cX3_wayTo 2 (some .int) 2 := ⟨w_1368, w_93, by decide +kernel, by decide +kernel, by decide +kernel⟩
theorem okm_X9_search : okM yX9_search cX9_search 7 (some .boolean) 3 := ⟨w_1345, w_102, by decide +kernel, by decide +kernel, by decide +kernel⟩
theorem okw_X9_search : okV yX9_search := ⟨w_1344, w_30⟩
theorem okm_X9_push : okM yX9_push cX9_push 9 none 2 := ⟨w_1365, w_102, by decide +kernel, by decide +kernel, by decide +kernel⟩
theorem okw_X9_push : okV yX9_push := ⟨w_1364, w_34⟩
theorem okm_X9_survey : okM yX9_survey cX9_survey 5 none 2 := ⟨w_1326, w_102, by decide +kernel, by decide +kernel, by decide +kernel⟩
theorem okw_X9_survey : okV yX9_survey := ⟨w_1324, w_1325⟩
theorem okm_X9_connects : okM yX9_connects cX9_connects 10 (some .boolean) 3 := ⟨w_1332, w_102, by decide +kernel, by decide +kernel, by decide +kernel⟩
theorem okw_X9_connects : okV yX9_connects := ⟨w_1330, w_1331⟩
theorem okm_X9_nearestCut : okM yX9_nearestCut cX9_nearestCut 8 (some .long) 3 := ⟨w_1340, w_102, by decide +kernel, by decide +kernel, by decide +kernel⟩
theorem okw_X9_nearestCut : okV yX9_nearestCut := ⟨w_1338, w_1339⟩
theorem okm_X5_turnOut : okM yX5_turnOut cX5_turnOut 5 (some .long) 1 := ⟨w_966, w_95, by decide +kernel, by decide +kernel, by decide +kernel⟩
theorem okw_X5_turnOut : okV yX5_turnOut := ⟨w_964, w_965⟩
theorem okm_X4_setTaking : okM yX4_setTaking cX4_setTaking 5 none 3 := ⟨w_970, w_97, by decide +kernel, by decide +kernel, by decide +kernel⟩
theorem okw_X4_setTaking : okV yX4_setTaking := ⟨w_968, w_969⟩
theorem okm_X1_remove : okM yX1_remove cX1_remove 2 none 1 := ⟨w_974, w_94, by decide +kernel, by decide +kernel, by decide +kernel⟩
theorem okw_X1_remove : okV yX1_remove := ⟨w_972, w_973⟩
theorem okm_X1_worthBy : okM yX1_worthBy cX1_worthBy 5 (some .int) 2 := ⟨w_690, w_94, by decide +kernel, by decide +kernel, by decide +kernel⟩
theorem okw_X1_worthBy : okV yX1_worthBy := ⟨w_688, w_689⟩
theorem okm_X1_firstWorth : okM yX1_firstWorth cX1_firstWorth 3 (some .int) 1 := ⟨w_962, w_94, by decide +kernel, by decide +kernel, by decide +kernel⟩
theorem okw_X1_firstWorth : okV yX1_firstWorth := ⟨w_960, w_961⟩
theorem okm_X8_remove : okM yX8_remove cX8_remove 2 none 1 := ⟨w_562, w_90, by decide +kernel, by decide +kernel, by decide +kernel⟩
theorem okw_X8_remove : okV yX8_remove := ⟨w_560, w_561⟩
set_option maxHeartbeats 4000000 in
set_option maxRecDepth 100000 in
theorem c_X11_shown (l : Launch) (g : GG) (ad : Nat → Nat) (o : OO) (x1 : Int) (v : Int × OO) (h : s_X11_shown o x1 = some v) : CI l g yX11_shown cX11_shown 2 (some .int) 1 23 (wC g ad o) [.ref (ad 0), iv x1] v.1 (wC g ad v.2) := by
  refine met_I (by decide) (Nat.le_of_ble_eq_true rfl) ?_
  intro X E hQ
  show Go X 0 (wC g ad o) [(0, .ref (ad 0)), (1, iv x1)] []
  unfold s_X11_shown at h
  refine g_aload_n E gdX11_shown_0 rfl 0 rfl ?_
  refine g_get (T := TX11) E fw_X11 0 (wC_0 g ad o) rfl 6 (by decide) w_464 rfl rfl gdX11_shown_1 ?_
  refine g_iload_n E gdX11_shown_4 rfl 1 rfl ?_
  obtain ⟨r1, hc2, h⟩ := qB_of h
  refine g_Vi (r := r1) (As := [iv x1]) (rest := []) (w := wC g ad o) E (c_X4_exists l g ad o x1 r1 hc2) okm_X4_exists okw_X4_exists w_882 rfl (wC_32 g ad o) rfl rfl (Nat.le_of_ble_eq_true rfl) ⟨Nat.le_of_ble_eq_true rfl, Nat.le_of_ble_eq_true rfl⟩ gdX11_shown_5 ?_
  refine g_if_ne E 13 gdX11_shown_8 (by decide) h (fun h => ?_) (fun h => ?_)
  ·
    refine g_aload_n E gdX11_shown_13 rfl 0 rfl ?_
    refine g_get (T := TX11) E fw_X11 0 (wC_0 g ad o) rfl 6 (by decide) w_464 rfl rfl gdX11_shown_14 ?_
    refine g_iload_n E gdX11_shown_17 rfl 1 rfl ?_
    refine g_iconst E gdX11_shown_18 ?_
    obtain ⟨r3, hc4, h⟩ := qB_of h
    refine g_Vi (r := r3) (As := [iv x1, iv 1]) (rest := []) (w := wC g ad o) E (c_X4_isOf l g ad o x1 1 r3 hc4) okm_X4_isOf okw_X4_isOf w_886 rfl (wC_32 g ad o) rfl rfl (Nat.le_of_ble_eq_true rfl) ⟨Nat.le_of_ble_eq_true rfl, Nat.le_of_ble_eq_true rfl⟩ gdX11_shown_19 ?_
    refine g_if_ne E 31 gdX11_shown_22 (by decide) h (fun h => ?_) (fun h => ?_)
    ·
      refine g_aload_n E gdX11_shown_31 rfl 0 rfl ?_
      refine g_get (T := TX11) E fw_X11 0 (wC_0 g ad o) rfl 6 (by decide) w_464 rfl rfl gdX11_shown_32 ?_
      refine g_iload_n E gdX11_shown_35 rfl 1 rfl ?_
      obtain ⟨r5, hc6, h⟩ := qB_of h
      refine g_Vi (r := r5) (As := [iv x1]) (rest := []) (w := wC g ad o) E (c_X4_shownOn l g ad o x1 r5 hc6) okm_X4_shownOn okw_X4_shownOn w_919 rfl (wC_32 g ad o) rfl rfl (Nat.le_of_ble_eq_true rfl) ⟨Nat.le_of_ble_eq_true rfl, Nat.le_of_ble_eq_true rfl⟩ gdX11_shown_36 ?_
      exact g_iret E hQ (by rw [← Option.some.inj h]) (by rw [← Option.some.inj h]) gdX11_shown_39
    ·
      refine g_aload_n E gdX11_shown_25 rfl 0 rfl ?_
      refine g_iconst E gdX11_shown_26 ?_
      obtain ⟨r7, o9, hc8, h⟩ := qB2_of h
      refine g_Vi (r := r7) (As := [iv 3]) (rest := []) (w := wC g ad o9) E (c_X11_found l g ad o 3 (r7, o9) hc8) okm_X11_found okw_X11_found w_521 rfl (wC_0 g ad o) rfl rfl (Nat.le_of_ble_eq_true rfl) ⟨Nat.le_of_ble_eq_true rfl, Nat.le_of_ble_eq_true rfl⟩ gdX11_shown_27 ?_
      exact g_iret E hQ (by rw [← Option.some.inj h]) (by rw [← Option.some.inj h]) gdX11_shown_30
  ·
    refine g_iconst E gdX11_shown_11 ?_
    exact g_iret E hQ (by rw [← Option.some.inj h]) (by rw [← Option.some.inj h]) gdX11_shown_12
set_option maxHeartbeats 4000000 in
set_option maxRecDepth 100000 in
theorem c_X9_survey (l : Launch) (g : GG) (ad : Nat → Nat) (o : OO) (x2 : Int) (v : OO) (h : s_X9_survey o x2 = some v) : CV l g yX9_survey cX9_survey 5 3 67 (wC g ad o) [.ref (ad 71), .ref (ad 7), iv x2] (wC g ad v) := by
  refine met_V (by decide) (Nat.le_of_ble_eq_true rfl) ?_
  intro X E hQ
  show Go X 0 (wC g ad o) [(0, .ref (ad 71)), (1, .ref (ad 7)), (2, iv x2)] []
  have j63 : ∀ (o : OO), b_X9_survey_63 o = some v → Go X 63 (wC g ad o) [] [] := by
    intro o h
    unfold b_X9_survey_63 at h
    exact g_vret E hQ (by rw [← Option.some.inj h]) gdX9_survey_63
  have j57 : ∀ (o : OO) (x2 : Int) (x3 : Int) (v : (OO × Int) ⊕ ((OO))), b_X9_survey_57 o x2 x3 = some v → (∀ (o : OO) (x3 : Int), v = .inl (o, x3) → Go X 2 (wC g ad o) [(0, .ref (ad 71)), (1, .ref (ad 7)), (2, iv x2), (3, iv x3)] []) → (∀ (o : OO), v = .inr (o) → Go X 63 (wC g ad o) [] []) → Go X 57 (wC g ad o) [(0, .ref (ad 71)), (1, .ref (ad 7)), (2, iv x2), (3, iv x3)] [] := by
    intro o x2 x3 v h k0 k1
    unfold b_X9_survey_57 at h
    refine g_iinc E [(3, iv (x3 + 1)), (0, .ref (ad 71)), (1, .ref (ad 7)), (2, iv x2)] gdX9_survey_57 3 rfl (by decide) rfl ?_
    refine g_goto E 2 gdX9_survey_60 (by decide) ?_
    refine g_sub E [1, 2, 3, 0] rfl ?_
    exact k0 o (x3 + 1) (Option.some.inj h).symm
  have j51 : ∀ (o : OO) (x2 : Int) (x3 : Int) (x4 : Int) (v : (OO × Int) ⊕ ((OO))), b_X9_survey_51 o x2 x3 x4 = some v → (∀ (o : OO) (x4 : Int), v = .inl (o, x4) → Go X 17 (wC g ad o) [(0, .ref (ad 71)), (1, .ref (ad 7)), (2, iv x2), (3, iv x3), (4, iv x4)] []) → (∀ (o : OO), v = .inr (o) → Go X 57 (wC g ad o) [(0, .ref (ad 71)), (1, .ref (ad 7)), (2, iv x2), (3, iv x3)] []) → Go X 51 (wC g ad o) [(0, .ref (ad 71)), (1, .ref (ad 7)), (2, iv x2), (3, iv x3), (4, iv x4)] [] := by
    intro o x2 x3 x4 v h k0 k1
    unfold b_X9_survey_51 at h
    refine g_iinc E [(4, iv (x4 + 1)), (0, .ref (ad 71)), (1, .ref (ad 7)), (2, iv x2), (3, iv x3)] gdX9_survey_51 4 rfl (by decide) rfl ?_
    refine g_goto E 17 gdX9_survey_54 (by decide) ?_
    refine g_sub E [1, 2, 3, 4, 0] rfl ?_
    exact k0 o (x4 + 1) (Option.some.inj h).symm
  have l17 : ∀ (x2 : Int) (x3 : Int) (r : (OO)) (s0 : OO × Int), loopW (fun s => l_X9_survey_17 x2 x3 s.1 s.2) s0 = some r → (∀ (o : OO), r = (o) → Go X 57 (wC g ad o) [(0, .ref (ad 71)), (1, .ref (ad 7)), (2, iv x2), (3, iv x3)] []) → Go X 17 (wC g ad s0.1) [(0, .ref (ad 71)), (1, .ref (ad 7)), (2, iv x2), (3, iv x3), (4, iv s0.2)] [] := by
    intro x2 x3 r s0 h k1
    refine loop_rule (Head := fun s0 => Go X 17 (wC g ad s0.1) [(0, .ref (ad 71)), (1, .ref (ad 7)), (2, iv x2), (3, iv x3), (4, iv s0.2)] []) h ?_
    intro s v h kk kx
    obtain ⟨o, x4⟩ := s
    have h : l_X9_survey_17 x2 x3 o x4 = some v := h
    have k0 : ∀ (o : OO) (x4 : Int), v = .inl (o, x4) → Go X 17 (wC g ad o) [(0, .ref (ad 71)), (1, .ref (ad 7)), (2, iv x2), (3, iv x3), (4, iv x4)] [] := fun o x4 e => kk (o, x4) e
    have k1 : ∀ (o : OO), v = .inr (o) → Go X 57 (wC g ad o) [(0, .ref (ad 71)), (1, .ref (ad 7)), (2, iv x2), (3, iv x3)] [] := fun o e => k1 o (kx _ e).symm
    unfold l_X9_survey_17 at h
    refine g_iload E gdX9_survey_17 4 rfl ?_
    refine g_bipush E gdX9_survey_19 (by decide) ?_
    refine g_icmp_ge E 57 gdX9_survey_21 (by decide) h (fun h => ?_) (fun h => ?_)
    ·
      refine g_sub E [0, 1, 2, 3] rfl ?_
      exact k1 o (Option.some.inj h).symm
    ·
      refine g_aload_n E gdX9_survey_24 rfl 1 rfl ?_
      refine g_iload E gdX9_survey_25 4 rfl ?_
      refine g_iload_n E gdX9_survey_27 rfl 3 rfl ?_
      refine g_iload_n E gdX9_survey_28 rfl 2 rfl ?_
      obtain ⟨r1, hc2, h⟩ := qB_of h
      refine g_Vi (r := r1) (As := [iv x4, iv x3, iv x2]) (rest := []) (w := wC g ad o) E (c_X3_onward l g ad o x4 x3 x2 r1 hc2) okm_X3_onward okw_X3_onward w_1327 rfl (wC_7 g ad o) rfl rfl (Nat.le_of_ble_eq_true rfl) ⟨Nat.le_of_ble_eq_true rfl, Nat.le_of_ble_eq_true rfl⟩ gdX9_survey_29 ?_
      refine g_bipush E gdX9_survey_32 (by decide) ?_
      refine g_icmp_eq E 51 gdX9_survey_34 (by decide) h (fun h => ?_) (fun h => ?_)
      ·
        exact j51 o x2 x3 x4 v h k0 k1
      ·
        refine g_aload_n E gdX9_survey_37 rfl 0 rfl ?_
        refine g_get (T := TX9) E fw_X9 71 (wC_71 g ad o) rfl 0 (by decide) w_439 rfl rfl gdX9_survey_38 ?_
        refine g_iload_n E gdX9_survey_41 rfl 3 rfl ?_
        refine g_dup2 E gdX9_survey_42 rfl rfl ?_
        obtain ⟨hi3, h⟩ := qIn_of h
        refine g_lald E 72 (wC_72 g ad o) (by decide) hi3 gdX9_survey_43 ?_
        obtain ⟨m4, e_m4, h⟩ := qNm_of h
        refine g_nml e_m4 ?_
        refine g_iload E gdX9_survey_44 4 rfl ?_
        obtain ⟨p5, hc6, h⟩ := qB_of h
        refine g_Sl (r := p5) (As := [iv x4]) (rest := [.long m4, iv x3, .ref (ad 72)]) (w := wC g ad o) E (c_X3_bit l g (wC g ad o) x4 p5 hc6) okm_X3_bit w_842 w_1328 rfl rfl (Nat.le_of_ble_eq_true rfl) ⟨Nat.le_of_ble_eq_true rfl, Nat.le_of_ble_eq_true rfl⟩ gdX9_survey_46 ?_
        refine g_lor E gdX9_survey_49 ?_
        obtain ⟨hi7, h⟩ := qIn_of h
        obtain ⟨o8, e_o8, h⟩ := qNm_of h
        refine g_last (ws' := wC g ad o8) E 72 (wC_72 g ad o) (by decide) hi7 (by rw [e_o8]; exact wC_s72 g ad o _ _) gdX9_survey_50 ?_
        exact j51 o8 x2 x3 x4 v h k0 k1
  have j17 : ∀ (o : OO) (x2 : Int) (x3 : Int) (x4 : Int) (v : (OO × Int) ⊕ ((OO))), e_X9_survey_17 o x2 x3 x4 = some v → (∀ (o : OO) (x3 : Int), v = .inl (o, x3) → Go X 2 (wC g ad o) [(0, .ref (ad 71)), (1, .ref (ad 7)), (2, iv x2), (3, iv x3)] []) → (∀ (o : OO), v = .inr (o) → Go X 63 (wC g ad o) [] []) → Go X 17 (wC g ad o) [(0, .ref (ad 71)), (1, .ref (ad 7)), (2, iv x2), (3, iv x3), (4, iv x4)] [] := by
    intro o x2 x3 x4 v h k0 k1
    unfold e_X9_survey_17 at h
    obtain ⟨r, hr, h⟩ := qB_of h
    refine l17 x2 x3 r _ hr ?_
    ·
      intro u0 e
      have e := e.symm
      subst e
      have h : b_X9_survey_57 u0 x2 x3 = some v := h
      exact j57 u0 x2 x3 v h k0 k1
  have l2 : ∀ (x2 : Int) (r : (OO)) (s0 : OO × Int), loopW (fun s => l_X9_survey_2 x2 s.1 s.2) s0 = some r → (∀ (o : OO), r = (o) → Go X 63 (wC g ad o) [] []) → Go X 2 (wC g ad s0.1) [(0, .ref (ad 71)), (1, .ref (ad 7)), (2, iv x2), (3, iv s0.2)] [] := by
    intro x2 r s0 h k1
    refine loop_rule (Head := fun s0 => Go X 2 (wC g ad s0.1) [(0, .ref (ad 71)), (1, .ref (ad 7)), (2, iv x2), (3, iv s0.2)] []) h ?_
    intro s v h kk kx
    obtain ⟨o, x3⟩ := s
    have h : l_X9_survey_2 x2 o x3 = some v := h
    have k0 : ∀ (o : OO) (x3 : Int), v = .inl (o, x3) → Go X 2 (wC g ad o) [(0, .ref (ad 71)), (1, .ref (ad 7)), (2, iv x2), (3, iv x3)] [] := fun o x3 e => kk (o, x3) e
    have k1 : ∀ (o : OO), v = .inr (o) → Go X 63 (wC g ad o) [] [] := fun o e => k1 o (kx _ e).symm
    unfold l_X9_survey_2 at h
    refine g_iload_n E gdX9_survey_2 rfl 3 rfl ?_
    refine g_iconst E gdX9_survey_3 ?_
    refine g_icmp_ge E 63 gdX9_survey_4 (by decide) h (fun h => ?_) (fun h => ?_)
    ·
      refine g_sub E [] rfl ?_
      exact k1 o (Option.some.inj h).symm
    ·
      refine g_aload_n E gdX9_survey_7 rfl 0 rfl ?_
      refine g_get (T := TX9) E fw_X9 71 (wC_71 g ad o) rfl 0 (by decide) w_439 rfl rfl gdX9_survey_8 ?_
      refine g_iload_n E gdX9_survey_11 rfl 3 rfl ?_
      refine g_lconst (v := 0) E gdX9_survey_12 (by decide) ?_
      obtain ⟨hi9, h⟩ := qIn_of h
      obtain ⟨o10, e_o10, h⟩ := qNm_of h
      refine g_last (ws' := wC g ad o10) E 72 (wC_72 g ad o) (by decide) hi9 (by rw [e_o10]; exact wC_s72 g ad o _ _) gdX9_survey_13 ?_
      refine g_iconst E gdX9_survey_14 ?_
      refine g_istore E [(4, iv 0), (0, .ref (ad 71)), (1, .ref (ad 7)), (2, iv x2), (3, iv x3)] gdX9_survey_15 (by decide) rfl ?_
      refine g_sub E [1, 2, 3, 4, 0] rfl ?_
      exact j17 o10 x2 x3 0 v h k0 k1
  have j2 : ∀ (o : OO) (x2 : Int) (x3 : Int), e_X9_survey_2 o x2 x3 = some v → Go X 2 (wC g ad o) [(0, .ref (ad 71)), (1, .ref (ad 7)), (2, iv x2), (3, iv x3)] [] := by
    intro o x2 x3 h
    unfold e_X9_survey_2 at h
    obtain ⟨r, hr, h⟩ := qB_of h
    refine l2 x2 r _ hr ?_
    ·
      intro u0 e
      have e := e.symm
      subst e
      have h : b_X9_survey_63 u0 = some v := h
      exact j63 u0 h
  unfold s_X9_survey at h
  refine g_iconst E gdX9_survey_0 ?_
  refine g_istore_n E [(3, iv 0), (0, .ref (ad 71)), (1, .ref (ad 7)), (2, iv x2)] gdX9_survey_1 rfl (by decide) rfl ?_
  refine g_sub E [1, 2, 3, 0] rfl ?_
  exact j2 o x2 0 h
set_option maxHeartbeats 4000000 in
set_option maxRecDepth 100000 in
theorem c_X9_connects (l : Launch) (g : GG) (ad : Nat → Nat) (o : OO) (x1 : Int) (x2 : Int) (z3 : Int64) (v : Int) (h : s_X9_connects o x1 x2 z3 = some v) : CI l g yX9_connects cX9_connects 10 (some .boolean) 1 22 (wC g ad o) [.ref (ad 71), iv x1, iv x2, .long z3] v (wC g ad o) := by
  refine met_I (by decide) (Nat.le_of_ble_eq_true rfl) ?_
  intro X E hQ
  show Go X 0 (wC g ad o) [(0, .ref (ad 71)), (1, iv x1), (2, iv x2), (3, .long z3)] []
  have j97 : ∀ (x2 : Int) (z8 : Int64), b_X9_connects_97 o x2 z8 = some v → Go X 97 (wC g ad o) [(2, iv x2), (8, .long z8)] [] := by
    intro x2 z8 h
    unfold b_X9_connects_97 at h
    refine g_lload E gdX9_connects_97 1 rfl ?_
    refine g_iload_n E gdX9_connects_99 rfl 0 rfl ?_
    obtain ⟨r1, hc2, h⟩ := qB_of h
    refine g_Si (r := r1) (As := [.long z8, iv x2]) (rest := []) (w := wC g ad o) E (c_X3_has l g (wC g ad o) z8 x2 r1 hc2) okm_X3_has w_839 w_1334 rfl rfl (Nat.le_of_ble_eq_true rfl) ⟨Nat.le_of_ble_eq_true rfl, Nat.le_of_ble_eq_true rfl⟩ gdX9_connects_100 ?_
    obtain ⟨hz, h⟩ := qZ_of h
    exact g_zret E hQ hz (Option.some.inj h) rfl gdX9_connects_103
  have j114 : b_X9_connects_114 o = some v → Go X 114 (wC g ad o) [] [] := by
    intro h
    unfold b_X9_connects_114 at h
    refine g_iconst E gdX9_connects_114 ?_
    obtain ⟨hz, h⟩ := qZ_of h
    exact g_zret E hQ hz (Option.some.inj h) rfl gdX9_connects_115
  have l9 : ∀ (x2 : Int) (z3 : Int64) (r : (Int64) ⊕ (Unit)) (s0 : Int64 × Int), loopW (fun s => l_X9_connects_9 o x2 z3 s.1 s.2) s0 = some r → (∀ (z8 : Int64), r = (.inl z8) → Go X 97 (wC g ad o) [(2, iv x2), (8, .long z8)] []) → (r = (.inr ()) → Go X 114 (wC g ad o) [] []) → Go X 9 (wC g ad o) [(0, .ref (ad 71)), (2, iv x2), (3, .long z3), (5, .long s0.1), (7, iv s0.2)] [] := by
    intro x2 z3 r s0 h k1 k2
    refine loop_rule (Head := fun s0 => Go X 9 (wC g ad o) [(0, .ref (ad 71)), (2, iv x2), (3, .long z3), (5, .long s0.1), (7, iv s0.2)] []) h ?_
    intro s v h kk kx
    obtain ⟨z5, x7⟩ := s
    have h : l_X9_connects_9 o x2 z3 z5 x7 = some v := h
    have k0 : ∀ (z5 : Int64) (x7 : Int), v = .inl (z5, x7) → Go X 9 (wC g ad o) [(0, .ref (ad 71)), (2, iv x2), (3, .long z3), (5, .long z5), (7, iv x7)] [] := fun z5 x7 e => kk (z5, x7) e
    have k1 : ∀ (z8 : Int64), v = .inr (.inl z8) → Go X 97 (wC g ad o) [(2, iv x2), (8, .long z8)] [] := fun z8 e => k1 z8 (kx _ e).symm
    have k2 : v = .inr (.inr ()) → Go X 114 (wC g ad o) [] [] := fun e => k2 (kx _ e).symm
    unfold l_X9_connects_9 at h
    refine g_iload E gdX9_connects_9 4 rfl ?_
    refine g_bipush E gdX9_connects_11 (by decide) ?_
    refine g_icmp_ge E 114 gdX9_connects_13 (by decide) h (fun h => ?_) (fun h => ?_)
    ·
      refine g_sub E [] rfl ?_
      exact k2  (Option.some.inj h).symm
    ·
      refine g_lload E gdX9_connects_16 3 rfl ?_
      refine g_lload E gdX9_connects_18 3 rfl ?_
      refine g_aload_n E gdX9_connects_20 rfl 0 rfl ?_
      refine g_get (T := TX9) E fw_X9 71 (wC_71 g ad o) rfl 0 (by decide) w_439 rfl rfl gdX9_connects_21 ?_
      refine g_iconst E gdX9_connects_24 ?_
      refine g_lald E 72 (wC_72 g ad o) (by decide) ⟨by decide, by decide⟩ gdX9_connects_25 ?_
      obtain ⟨m3, e_m3, h⟩ := qNm_of h
      refine g_nml e_m3 ?_
      refine g_land E gdX9_connects_26 ?_
      refine g_bipush E gdX9_connects_27 (by decide) ?_
      refine g_lushr E gdX9_connects_29 ?_
      refine g_lor E gdX9_connects_30 ?_
      refine g_lload E gdX9_connects_31 3 rfl ?_
      refine g_aload_n E gdX9_connects_33 rfl 0 rfl ?_
      refine g_get (T := TX9) E fw_X9 71 (wC_71 g ad o) rfl 0 (by decide) w_439 rfl rfl gdX9_connects_34 ?_
      refine g_iconst E gdX9_connects_37 ?_
      refine g_lald E 72 (wC_72 g ad o) (by decide) ⟨by decide, by decide⟩ gdX9_connects_38 ?_
      obtain ⟨m4, e_m4, h⟩ := qNm_of h
      refine g_nml e_m4 ?_
      refine g_land E gdX9_connects_39 ?_
      refine g_iconst E gdX9_connects_40 ?_
      refine g_lushr E gdX9_connects_41 ?_
      refine g_lor E gdX9_connects_42 ?_
      refine g_lload E gdX9_connects_43 3 rfl ?_
      refine g_aload_n E gdX9_connects_45 rfl 0 rfl ?_
      refine g_get (T := TX9) E fw_X9 71 (wC_71 g ad o) rfl 0 (by decide) w_439 rfl rfl gdX9_connects_46 ?_
      refine g_iconst E gdX9_connects_49 ?_
      refine g_lald E 72 (wC_72 g ad o) (by decide) ⟨by decide, by decide⟩ gdX9_connects_50 ?_
      obtain ⟨m5, e_m5, h⟩ := qNm_of h
      refine g_nml e_m5 ?_
      refine g_land E gdX9_connects_51 ?_
      refine g_iconst E gdX9_connects_52 ?_
      refine g_lshl E gdX9_connects_53 ?_
      refine g_lor E gdX9_connects_54 ?_
      refine g_lload E gdX9_connects_55 3 rfl ?_
      refine g_aload_n E gdX9_connects_57 rfl 0 rfl ?_
      refine g_get (T := TX9) E fw_X9 71 (wC_71 g ad o) rfl 0 (by decide) w_439 rfl rfl gdX9_connects_58 ?_
      refine g_iconst E gdX9_connects_61 ?_
      refine g_lald E 72 (wC_72 g ad o) (by decide) ⟨by decide, by decide⟩ gdX9_connects_62 ?_
      obtain ⟨m6, e_m6, h⟩ := qNm_of h
      refine g_nml e_m6 ?_
      refine g_land E gdX9_connects_63 ?_
      refine g_bipush E gdX9_connects_64 (by decide) ?_
      refine g_lshl E gdX9_connects_66 ?_
      refine g_lor E gdX9_connects_67 ?_
      obtain ⟨m7, e_m7, h⟩ := qNm_of h
      refine g_nml e_m7 ?_
      refine g_lstore E [(8, .long m7), (0, .ref (ad 71)), (2, iv x2), (3, .long z3), (5, .long z5), (7, iv x7)] gdX9_connects_68 (by decide) rfl ?_
      refine g_lload E gdX9_connects_70 0 rfl ?_
      refine g_lload_n E gdX9_connects_72 rfl 3 rfl ?_
      refine g_ldc2 E gdX9_connects_73 w_1333 ?_
      refine g_lxor E gdX9_connects_76 ?_
      refine g_land E gdX9_connects_77 ?_
      obtain ⟨m8, e_m8, h⟩ := qNm_of h
      refine g_nml e_m8 ?_
      refine g_lstore E [(8, .long m8), (0, .ref (ad 71)), (2, iv x2), (3, .long z3), (5, .long z5), (7, iv x7)] gdX9_connects_78 (by decide) rfl ?_
      refine g_lload E gdX9_connects_80 0 rfl ?_
      refine g_lload E gdX9_connects_82 4 rfl ?_
      refine g_lcmp_eq E 97 gdX9_connects_84 gdX9_connects_85 (by decide) h (fun h => ?_) (fun h => ?_)
      ·
        refine g_sub E [2, 0] rfl ?_
        exact k1 m8 (Option.some.inj h).symm
      ·
        refine g_lload E gdX9_connects_88 0 rfl ?_
        refine g_iload_n E gdX9_connects_90 rfl 2 rfl ?_
        obtain ⟨r9, hc10, h⟩ := qB_of h
        refine g_Si (r := r9) (As := [.long m8, iv x2]) (rest := []) (w := wC g ad o) E (c_X3_has l g (wC g ad o) m8 x2 r9 hc10) okm_X3_has w_839 w_1334 rfl rfl (Nat.le_of_ble_eq_true rfl) ⟨Nat.le_of_ble_eq_true rfl, Nat.le_of_ble_eq_true rfl⟩ gdX9_connects_91 ?_
        refine g_if_eq E 104 gdX9_connects_94 (by decide) h (fun h => ?_) (fun h => ?_)
        ·
          refine g_lload E gdX9_connects_104 0 rfl ?_
          refine g_lstore E [(5, .long m8), (8, .long m8), (0, .ref (ad 71)), (2, iv x2), (3, .long z3), (7, iv x7)] gdX9_connects_106 (by decide) rfl ?_
          refine g_iinc E [(7, iv (x7 + 1)), (5, .long m8), (8, .long m8), (0, .ref (ad 71)), (2, iv x2), (3, .long z3)] gdX9_connects_108 5 rfl (by decide) rfl ?_
          refine g_goto E 9 gdX9_connects_111 (by decide) ?_
          refine g_sub E [3, 4, 5, 1, 0] rfl ?_
          exact k0 m8 (x7 + 1) (Option.some.inj h).symm
        ·
          refine g_sub E [2, 0] rfl ?_
          exact k1 m8 (Option.some.inj h).symm
  have j9 : ∀ (x2 : Int) (z3 : Int64) (z5 : Int64) (x7 : Int), e_X9_connects_9 o x2 z3 z5 x7 = some v → Go X 9 (wC g ad o) [(0, .ref (ad 71)), (2, iv x2), (3, .long z3), (5, .long z5), (7, iv x7)] [] := by
    intro x2 z3 z5 x7 h
    unfold e_X9_connects_9 at h
    obtain ⟨r, hr, h⟩ := qB_of h
    refine l9 x2 z3 r _ hr ?_ ?_
    ·
      intro u0 e
      subst e
      have h : b_X9_connects_97 o x2 u0 = some v := h
      exact j97 x2 u0 h
    ·
      intro e
      subst e
      have h : b_X9_connects_114 o = some v := h
      exact j114  h
  unfold s_X9_connects at h
  refine g_iload_n E gdX9_connects_0 rfl 1 rfl ?_
  obtain ⟨p11, hc12, h⟩ := qB_of h
  refine g_Sl (r := p11) (As := [iv x1]) (rest := []) (w := wC g ad o) E (c_X3_bit l g (wC g ad o) x1 p11 hc12) okm_X3_bit w_842 w_1328 rfl rfl (Nat.le_of_ble_eq_true rfl) ⟨Nat.le_of_ble_eq_true rfl, Nat.le_of_ble_eq_true rfl⟩ gdX9_connects_1 ?_
  refine g_lstore E [(5, .long p11), (0, .ref (ad 71)), (1, iv x1), (2, iv x2), (3, .long z3)] gdX9_connects_4 (by decide) rfl ?_
  refine g_iconst E gdX9_connects_6 ?_
  refine g_istore E [(7, iv 0), (5, .long p11), (0, .ref (ad 71)), (1, iv x1), (2, iv x2), (3, .long z3)] gdX9_connects_7 (by decide) rfl ?_
  refine g_sub E [2, 4, 5, 1, 0] rfl ?_
  exact j9 x2 z3 p11 0 h
set_option maxHeartbeats 4000000 in
set_option maxRecDepth 100000 in
theorem c_J7_fill_53178__75 (l : Launch) (g : GG) (ad : Nat → Nat) (o : OO) (x1 : Int) (v : OO) (h : s_J7_fill_53178__75 o x1 = some v) : CV l g yJ7_fill_53178 cJ7_fill_53178 4 0 0 (wC g ad o) [.ref (ad 75), iv x1] (wC g ad v) := by
  refine met_V (by decide) (Nat.le_of_ble_eq_true rfl) ?_
  intro X E hQ
  show Go X 0 (wC g ad o) [(0, .ref (ad 75)), (1, iv x1)] []
  have j20 : ∀ (o : OO), b_J7_fill_53178__75_20 o = some v → Go X 20 (wC g ad o) [] [] := by
    intro o h
    unfold b_J7_fill_53178__75_20 at h
    exact g_vret E hQ (by rw [← Option.some.inj h]) gdJ7_fill_53178_20
  have l5 : ∀ (x1 : Int) (x3 : Int) (r : (OO)) (s0 : OO × Int), loopW (fun s => l_J7_fill_53178__75_5 x1 x3 s.1 s.2) s0 = some r → (∀ (o : OO), r = (o) → Go X 20 (wC g ad o) [] []) → Go X 5 (wC g ad s0.1) [(0, .ref (ad 75)), (1, iv x1), (2, iv s0.2), (3, iv x3)] [] := by
    intro x1 x3 r s0 h k1
    refine loop_rule (Head := fun s0 => Go X 5 (wC g ad s0.1) [(0, .ref (ad 75)), (1, iv x1), (2, iv s0.2), (3, iv x3)] []) h ?_
    intro s v h kk kx
    obtain ⟨o, x2⟩ := s
    have h : l_J7_fill_53178__75_5 x1 x3 o x2 = some v := h
    have k0 : ∀ (o : OO) (x2 : Int), v = .inl (o, x2) → Go X 5 (wC g ad o) [(0, .ref (ad 75)), (1, iv x1), (2, iv x2), (3, iv x3)] [] := fun o x2 e => kk (o, x2) e
    have k1 : ∀ (o : OO), v = .inr (o) → Go X 20 (wC g ad o) [] [] := fun o e => k1 o (kx _ e).symm
    unfold l_J7_fill_53178__75_5 at h
    refine g_iload_n E gdJ7_fill_53178_5 rfl 2 rfl ?_
    refine g_iload_n E gdJ7_fill_53178_6 rfl 3 rfl ?_
    refine g_icmp_ge E 20 gdJ7_fill_53178_7 (by decide) h (fun h => ?_) (fun h => ?_)
    ·
      refine g_sub E [] rfl ?_
      exact k1 o (Option.some.inj h).symm
    ·
      refine g_aload_n E gdJ7_fill_53178_10 rfl 0 rfl ?_
      refine g_iload_n E gdJ7_fill_53178_11 rfl 2 rfl ?_
      refine g_iload_n E gdJ7_fill_53178_12 rfl 1 rfl ?_
      obtain ⟨hi1, h⟩ := qIn_of h
      obtain ⟨o2, e_o2, h⟩ := qNm_of h
      refine g_iast (ws' := wC g ad o2) E 75 (wC_75 g ad o) (by decide) hi1 (by rw [e_o2]; exact wC_s75 g ad o _ _) gdJ7_fill_53178_13 ?_
      refine g_iinc E [(2, iv (x2 + 1)), (0, .ref (ad 75)), (1, iv x1), (3, iv x3)] gdJ7_fill_53178_14 2 rfl (by decide) rfl ?_
      refine g_goto E 5 gdJ7_fill_53178_17 (by decide) ?_
      refine g_sub E [1, 2, 0, 3] rfl ?_
      exact k0 o2 (x2 + 1) (Option.some.inj h).symm
  have j5 : ∀ (o : OO) (x1 : Int) (x2 : Int) (x3 : Int), e_J7_fill_53178__75_5 o x1 x2 x3 = some v → Go X 5 (wC g ad o) [(0, .ref (ad 75)), (1, iv x1), (2, iv x2), (3, iv x3)] [] := by
    intro o x1 x2 x3 h
    unfold e_J7_fill_53178__75_5 at h
    obtain ⟨r, hr, h⟩ := qB_of h
    refine l5 x1 x3 r _ hr ?_
    ·
      intro u0 e
      have e := e.symm
      subst e
      have h : b_J7_fill_53178__75_20 u0 = some v := h
      exact j20 u0 h
  unfold s_J7_fill_53178__75 at h
  refine g_iconst E gdJ7_fill_53178_0 ?_
  refine g_istore_n E [(2, iv 0), (0, .ref (ad 75)), (1, iv x1)] gdJ7_fill_53178_1 rfl (by decide) rfl ?_
  refine g_aload_n E gdJ7_fill_53178_2 rfl 1 rfl ?_
  refine g_alen (N := 64) E 75 (wC_75 g ad o) gdJ7_fill_53178_3 ?_
  refine g_istore_n E [(3, iv 64), (2, iv 0), (0, .ref (ad 75)), (1, iv x1)] gdJ7_fill_53178_4 rfl (by decide) rfl ?_
  refine g_sub E [2, 3, 1, 0] rfl ?_
  exact j5 o x1 0 64 h
set_option maxHeartbeats 4000000 in
set_option maxRecDepth 100000 in
theorem c_J7_fill_53178__76 (l : Launch) (g : GG) (ad : Nat → Nat) (o : OO) (x1 : Int) (v : OO) (h : s_J7_fill_53178__76 o x1 = some v) : CV l g yJ7_fill_53178 cJ7_fill_53178 4 0 0 (wC g ad o) [.ref (ad 76), iv x1] (wC g ad v) := by
  refine met_V (by decide) (Nat.le_of_ble_eq_true rfl) ?_
  intro X E hQ
  show Go X 0 (wC g ad o) [(0, .ref (ad 76)), (1, iv x1)] []
  have j20 : ∀ (o : OO), b_J7_fill_53178__76_20 o = some v → Go X 20 (wC g ad o) [] [] := by
    intro o h
    unfold b_J7_fill_53178__76_20 at h
    exact g_vret E hQ (by rw [← Option.some.inj h]) gdJ7_fill_53178_20
  have l5 : ∀ (x1 : Int) (x3 : Int) (r : (OO)) (s0 : OO × Int), loopW (fun s => l_J7_fill_53178__76_5 x1 x3 s.1 s.2) s0 = some r → (∀ (o : OO), r = (o) → Go X 20 (wC g ad o) [] []) → Go X 5 (wC g ad s0.1) [(0, .ref (ad 76)), (1, iv x1), (2, iv s0.2), (3, iv x3)] [] := by
    intro x1 x3 r s0 h k1
    refine loop_rule (Head := fun s0 => Go X 5 (wC g ad s0.1) [(0, .ref (ad 76)), (1, iv x1), (2, iv s0.2), (3, iv x3)] []) h ?_
    intro s v h kk kx
    obtain ⟨o, x2⟩ := s
    have h : l_J7_fill_53178__76_5 x1 x3 o x2 = some v := h
    have k0 : ∀ (o : OO) (x2 : Int), v = .inl (o, x2) → Go X 5 (wC g ad o) [(0, .ref (ad 76)), (1, iv x1), (2, iv x2), (3, iv x3)] [] := fun o x2 e => kk (o, x2) e
    have k1 : ∀ (o : OO), v = .inr (o) → Go X 20 (wC g ad o) [] [] := fun o e => k1 o (kx _ e).symm
    unfold l_J7_fill_53178__76_5 at h
    refine g_iload_n E gdJ7_fill_53178_5 rfl 2 rfl ?_
    refine g_iload_n E gdJ7_fill_53178_6 rfl 3 rfl ?_
    refine g_icmp_ge E 20 gdJ7_fill_53178_7 (by decide) h (fun h => ?_) (fun h => ?_)
    ·
      refine g_sub E [] rfl ?_
      exact k1 o (Option.some.inj h).symm
    ·
      refine g_aload_n E gdJ7_fill_53178_10 rfl 0 rfl ?_
      refine g_iload_n E gdJ7_fill_53178_11 rfl 2 rfl ?_
      refine g_iload_n E gdJ7_fill_53178_12 rfl 1 rfl ?_
      obtain ⟨hi1, h⟩ := qIn_of h
      obtain ⟨o2, e_o2, h⟩ := qNm_of h
      refine g_iast (ws' := wC g ad o2) E 76 (wC_76 g ad o) (by decide) hi1 (by rw [e_o2]; exact wC_s76 g ad o _ _) gdJ7_fill_53178_13 ?_
      refine g_iinc E [(2, iv (x2 + 1)), (0, .ref (ad 76)), (1, iv x1), (3, iv x3)] gdJ7_fill_53178_14 2 rfl (by decide) rfl ?_
      refine g_goto E 5 gdJ7_fill_53178_17 (by decide) ?_
      refine g_sub E [1, 2, 0, 3] rfl ?_
      exact k0 o2 (x2 + 1) (Option.some.inj h).symm
  have j5 : ∀ (o : OO) (x1 : Int) (x2 : Int) (x3 : Int), e_J7_fill_53178__76_5 o x1 x2 x3 = some v → Go X 5 (wC g ad o) [(0, .ref (ad 76)), (1, iv x1), (2, iv x2), (3, iv x3)] [] := by
    intro o x1 x2 x3 h
    unfold e_J7_fill_53178__76_5 at h
    obtain ⟨r, hr, h⟩ := qB_of h
    refine l5 x1 x3 r _ hr ?_
    ·
      intro u0 e
      have e := e.symm
      subst e
      have h : b_J7_fill_53178__76_20 u0 = some v := h
      exact j20 u0 h
  unfold s_J7_fill_53178__76 at h
  refine g_iconst E gdJ7_fill_53178_0 ?_
  refine g_istore_n E [(2, iv 0), (0, .ref (ad 76)), (1, iv x1)] gdJ7_fill_53178_1 rfl (by decide) rfl ?_
  refine g_aload_n E gdJ7_fill_53178_2 rfl 1 rfl ?_
  refine g_alen (N := 256) E 76 (wC_76 g ad o) gdJ7_fill_53178_3 ?_
  refine g_istore_n E [(3, iv 256), (2, iv 0), (0, .ref (ad 76)), (1, iv x1)] gdJ7_fill_53178_4 rfl (by decide) rfl ?_
  refine g_sub E [2, 3, 1, 0] rfl ?_
  exact j5 o x1 0 256 h
set_option maxHeartbeats 4000000 in
set_option maxRecDepth 100000 in
theorem c_J7_fill_53178__73 (l : Launch) (g : GG) (ad : Nat → Nat) (o : OO) (x1 : Int) (v : OO) (h : s_J7_fill_53178__73 o x1 = some v) : CV l g yJ7_fill_53178 cJ7_fill_53178 4 0 0 (wC g ad o) [.ref (ad 73), iv x1] (wC g ad v) := by
  refine met_V (by decide) (Nat.le_of_ble_eq_true rfl) ?_
  intro X E hQ
  show Go X 0 (wC g ad o) [(0, .ref (ad 73)), (1, iv x1)] []
  have j20 : ∀ (o : OO), b_J7_fill_53178__73_20 o = some v → Go X 20 (wC g ad o) [] [] := by
    intro o h
    unfold b_J7_fill_53178__73_20 at h
    exact g_vret E hQ (by rw [← Option.some.inj h]) gdJ7_fill_53178_20
  have l5 : ∀ (x1 : Int) (x3 : Int) (r : (OO)) (s0 : OO × Int), loopW (fun s => l_J7_fill_53178__73_5 x1 x3 s.1 s.2) s0 = some r → (∀ (o : OO), r = (o) → Go X 20 (wC g ad o) [] []) → Go X 5 (wC g ad s0.1) [(0, .ref (ad 73)), (1, iv x1), (2, iv s0.2), (3, iv x3)] [] := by
    intro x1 x3 r s0 h k1
    refine loop_rule (Head := fun s0 => Go X 5 (wC g ad s0.1) [(0, .ref (ad 73)), (1, iv x1), (2, iv s0.2), (3, iv x3)] []) h ?_
    intro s v h kk kx
    obtain ⟨o, x2⟩ := s
    have h : l_J7_fill_53178__73_5 x1 x3 o x2 = some v := h
    have k0 : ∀ (o : OO) (x2 : Int), v = .inl (o, x2) → Go X 5 (wC g ad o) [(0, .ref (ad 73)), (1, iv x1), (2, iv x2), (3, iv x3)] [] := fun o x2 e => kk (o, x2) e
    have k1 : ∀ (o : OO), v = .inr (o) → Go X 20 (wC g ad o) [] [] := fun o e => k1 o (kx _ e).symm
    unfold l_J7_fill_53178__73_5 at h
    refine g_iload_n E gdJ7_fill_53178_5 rfl 2 rfl ?_
    refine g_iload_n E gdJ7_fill_53178_6 rfl 3 rfl ?_
    refine g_icmp_ge E 20 gdJ7_fill_53178_7 (by decide) h (fun h => ?_) (fun h => ?_)
    ·
      refine g_sub E [] rfl ?_
      exact k1 o (Option.some.inj h).symm
    ·
      refine g_aload_n E gdJ7_fill_53178_10 rfl 0 rfl ?_
      refine g_iload_n E gdJ7_fill_53178_11 rfl 2 rfl ?_
      refine g_iload_n E gdJ7_fill_53178_12 rfl 1 rfl ?_
      obtain ⟨hi1, h⟩ := qIn_of h
      obtain ⟨o2, e_o2, h⟩ := qNm_of h
      refine g_iast (ws' := wC g ad o2) E 73 (wC_73 g ad o) (by decide) hi1 (by rw [e_o2]; exact wC_s73 g ad o _ _) gdJ7_fill_53178_13 ?_
      refine g_iinc E [(2, iv (x2 + 1)), (0, .ref (ad 73)), (1, iv x1), (3, iv x3)] gdJ7_fill_53178_14 2 rfl (by decide) rfl ?_
      refine g_goto E 5 gdJ7_fill_53178_17 (by decide) ?_
      refine g_sub E [1, 2, 0, 3] rfl ?_
      exact k0 o2 (x2 + 1) (Option.some.inj h).symm
  have j5 : ∀ (o : OO) (x1 : Int) (x2 : Int) (x3 : Int), e_J7_fill_53178__73_5 o x1 x2 x3 = some v → Go X 5 (wC g ad o) [(0, .ref (ad 73)), (1, iv x1), (2, iv x2), (3, iv x3)] [] := by
    intro o x1 x2 x3 h
    unfold e_J7_fill_53178__73_5 at h
    obtain ⟨r, hr, h⟩ := qB_of h
    refine l5 x1 x3 r _ hr ?_
    ·
      intro u0 e
      have e := e.symm
      subst e
      have h : b_J7_fill_53178__73_20 u0 = some v := h
      exact j20 u0 h
  unfold s_J7_fill_53178__73 at h
  refine g_iconst E gdJ7_fill_53178_0 ?_
  refine g_istore_n E [(2, iv 0), (0, .ref (ad 73)), (1, iv x1)] gdJ7_fill_53178_1 rfl (by decide) rfl ?_
  refine g_aload_n E gdJ7_fill_53178_2 rfl 1 rfl ?_
  refine g_alen (N := 128) E 73 (wC_73 g ad o) gdJ7_fill_53178_3 ?_
  refine g_istore_n E [(3, iv 128), (2, iv 0), (0, .ref (ad 73)), (1, iv x1)] gdJ7_fill_53178_4 rfl (by decide) rfl ?_
  refine g_sub E [2, 3, 1, 0] rfl ?_
  exact j5 o x1 0 128 h
set_option maxHeartbeats 4000000 in
set_option maxRecDepth 100000 in
theorem c_X9_visit (l : Launch) (g : GG) (ad : Nat → Nat) (o : OO) (x1 : Int) (x2 : Int) (v : OO) (h : s_X9_visit o x1 x2 = some v) : CV l g yX9_visit cX9_visit 3 0 0 (wC g ad o) [.ref (ad 71), iv x1, iv x2] (wC g ad v) := by
  refine met_V (by decide) (Nat.le_of_ble_eq_true rfl) ?_
  intro X E hQ
  show Go X 0 (wC g ad o) [(0, .ref (ad 71)), (1, iv x1), (2, iv x2)] []
  unfold s_X9_visit at h
  refine g_aload_n E gdX9_visit_0 rfl 0 rfl ?_
  refine g_get (T := TX9) E fw_X9 71 (wC_71 g ad o) rfl 1 (by decide) w_440 rfl rfl gdX9_visit_1 ?_
  refine g_iload_n E gdX9_visit_4 rfl 1 rfl ?_
  obtain ⟨hi1, h⟩ := qIn_of h
  refine g_iald E 73 (wC_73 g ad o) (by decide) hi1 gdX9_visit_5 ?_
  obtain ⟨n2, e_n2, h⟩ := qNm_of h
  refine g_nmi e_n2 ?_
  refine g_bipush E gdX9_visit_6 (by decide) ?_
  refine g_icmp_eq E 12 gdX9_visit_8 (by decide) h (fun h => ?_) (fun h => ?_)
  ·
    refine g_aload_n E gdX9_visit_12 rfl 0 rfl ?_
    refine g_get (T := TX9) E fw_X9 71 (wC_71 g ad o) rfl 1 (by decide) w_440 rfl rfl gdX9_visit_13 ?_
    refine g_iload_n E gdX9_visit_16 rfl 1 rfl ?_
    refine g_iload_n E gdX9_visit_17 rfl 2 rfl ?_
    obtain ⟨hi3, h⟩ := qIn_of h
    obtain ⟨o4, e_o4, h⟩ := qNm_of h
    refine g_iast (ws' := wC g ad o4) E 73 (wC_73 g ad o) (by decide) hi3 (by rw [e_o4]; exact wC_s73 g ad o _ _) gdX9_visit_18 ?_
    refine g_aload_n E gdX9_visit_19 rfl 0 rfl ?_
    refine g_get (T := TX9) E fw_X9 71 (wC_71 g ad o4) rfl 2 (by decide) w_441 rfl rfl gdX9_visit_20 ?_
    refine g_aload_n E gdX9_visit_23 rfl 0 rfl ?_
    refine g_get (T := TX9) E fw_X9 71 (wC_71 g ad o4) rfl 5 (by decide) w_444 rfl rfl gdX9_visit_24 ?_
    refine g_iload_n E gdX9_visit_27 rfl 1 rfl ?_
    obtain ⟨hi5, h⟩ := qIn_of h
    obtain ⟨o6, e_o6, h⟩ := qNm_of h
    refine g_iast (ws' := wC g ad o6) E 74 (wC_74 g ad o4) (by decide) hi5 (by rw [e_o6]; exact wC_s74 g ad o4 _ _) gdX9_visit_28 ?_
    refine g_aload_n E gdX9_visit_29 rfl 0 rfl ?_
    refine g_dup E gdX9_visit_30 rfl ?_
    refine g_get (T := TX9) E fw_X9 71 (wC_71 g ad o6) rfl 5 (by decide) w_444 rfl rfl gdX9_visit_31 ?_
    refine g_iconst E gdX9_visit_34 ?_
    refine g_iadd E gdX9_visit_35 ?_
    obtain ⟨o7, e_o7, h⟩ := qNm_of h
    refine g_puti (T := TX9) (ws' := wC g ad o7) E fw_X9 tyX9 tyX9_ok nmX9 71 (wC_71 g ad o6) rfl 5 (by decide) w_444 rfl rfl (by decide +kernel) (Nat.le_of_ble_eq_true rfl) (by rw [e_o7]; exact wC_p71_5 g ad o6 _) gdX9_visit_36 ?_
    exact g_vret E hQ (by rw [← Option.some.inj h]) gdX9_visit_39
  ·
    exact g_vret E hQ (by rw [← Option.some.inj h]) gdX9_visit_11
set_option maxHeartbeats 4000000 in
set_option maxRecDepth 100000 in
theorem c_X9_leave (l : Launch) (g : GG) (ad : Nat → Nat) (o : OO) (x1 : Int) (v : OO) (h : s_X9_leave o x1 = some v) : CV l g yX9_leave cX9_leave 3 1 22 (wC g ad o) [.ref (ad 71), iv x1] (wC g ad v) := by
  refine met_V (by decide) (Nat.le_of_ble_eq_true rfl) ?_
  intro X E hQ
  show Go X 0 (wC g ad o) [(0, .ref (ad 71)), (1, iv x1)] []
  have j57 : ∀ (o : OO), b_X9_leave_57 o = some v → Go X 57 (wC g ad o) [] [] := by
    intro o h
    unfold b_X9_leave_57 at h
    exact g_vret E hQ (by rw [← Option.some.inj h]) gdX9_leave_57
  have j39 : ∀ (o : OO) (x1 : Int), b_X9_leave_39 o x1 = some v → Go X 39 (wC g ad o) [(0, .ref (ad 71)), (1, iv x1)] [] := by
    intro o x1 h
    unfold b_X9_leave_39 at h
    refine g_aload_n E gdX9_leave_39 rfl 0 rfl ?_
    refine g_get (T := TX9) E fw_X9 71 (wC_71 g ad o) rfl 3 (by decide) w_442 rfl rfl gdX9_leave_40 ?_
    refine g_iload_n E gdX9_leave_43 rfl 1 rfl ?_
    obtain ⟨hi1, h⟩ := qIn_of h
    refine g_iald E 75 (wC_75 g ad o) (by decide) hi1 gdX9_leave_44 ?_
    obtain ⟨n2, e_n2, h⟩ := qNm_of h
    refine g_nmi e_n2 ?_
    refine g_if_le E 57 gdX9_leave_45 (by decide) h (fun h => ?_) (fun h => ?_)
    ·
      refine g_sub E [] rfl ?_
      exact j57 o h
    ·
      refine g_aload_n E gdX9_leave_48 rfl 0 rfl ?_
      refine g_iload_n E gdX9_leave_49 rfl 1 rfl ?_
      refine g_bipush E gdX9_leave_50 (by decide) ?_
      refine g_iload_n E gdX9_leave_52 rfl 1 rfl ?_
      refine g_iadd E gdX9_leave_53 ?_
      obtain ⟨o5, hc4, h⟩ := qB_of h
      refine g_Vv (As := [iv x1, iv (64 + x1)]) (rest := []) (w := wC g ad o5) E (c_X9_visit l g ad o x1 (64 + x1) o5 hc4) okm_X9_visit okw_X9_visit w_1346 rfl (wC_71 g ad o) rfl rfl (Nat.le_of_ble_eq_true rfl) ⟨Nat.le_of_ble_eq_true rfl, Nat.le_of_ble_eq_true rfl⟩ gdX9_leave_54 ?_
      refine g_sub E [] rfl ?_
      exact j57 o5 h
  have j33 : ∀ (o : OO) (x1 : Int) (x2 : Int) (v : (OO × Int) ⊕ ((OO))), b_X9_leave_33 o x1 x2 = some v → (∀ (o : OO) (x2 : Int), v = .inl (o, x2) → Go X 2 (wC g ad o) [(0, .ref (ad 71)), (1, iv x1), (2, iv x2)] []) → (∀ (o : OO), v = .inr (o) → Go X 39 (wC g ad o) [(0, .ref (ad 71)), (1, iv x1)] []) → Go X 33 (wC g ad o) [(0, .ref (ad 71)), (1, iv x1), (2, iv x2)] [] := by
    intro o x1 x2 v h k0 k1
    unfold b_X9_leave_33 at h
    refine g_iinc E [(2, iv (x2 + 1)), (0, .ref (ad 71)), (1, iv x1)] gdX9_leave_33 2 rfl (by decide) rfl ?_
    refine g_goto E 2 gdX9_leave_36 (by decide) ?_
    refine g_sub E [1, 2, 0] rfl ?_
    exact k0 o (x2 + 1) (Option.some.inj h).symm
  have l2 : ∀ (x1 : Int) (r : (OO)) (s0 : OO × Int), loopW (fun s => l_X9_leave_2 x1 s.1 s.2) s0 = some r → (∀ (o : OO), r = (o) → Go X 39 (wC g ad o) [(0, .ref (ad 71)), (1, iv x1)] []) → Go X 2 (wC g ad s0.1) [(0, .ref (ad 71)), (1, iv x1), (2, iv s0.2)] [] := by
    intro x1 r s0 h k1
    refine loop_rule (Head := fun s0 => Go X 2 (wC g ad s0.1) [(0, .ref (ad 71)), (1, iv x1), (2, iv s0.2)] []) h ?_
    intro s v h kk kx
    obtain ⟨o, x2⟩ := s
    have h : l_X9_leave_2 x1 o x2 = some v := h
    have k0 : ∀ (o : OO) (x2 : Int), v = .inl (o, x2) → Go X 2 (wC g ad o) [(0, .ref (ad 71)), (1, iv x1), (2, iv x2)] [] := fun o x2 e => kk (o, x2) e
    have k1 : ∀ (o : OO), v = .inr (o) → Go X 39 (wC g ad o) [(0, .ref (ad 71)), (1, iv x1)] [] := fun o e => k1 o (kx _ e).symm
    unfold l_X9_leave_2 at h
    refine g_iload_n E gdX9_leave_2 rfl 2 rfl ?_
    refine g_iconst E gdX9_leave_3 ?_
    refine g_icmp_ge E 39 gdX9_leave_4 (by decide) h (fun h => ?_) (fun h => ?_)
    ·
      refine g_sub E [0, 1] rfl ?_
      exact k1 o (Option.some.inj h).symm
    ·
      refine g_aload_n E gdX9_leave_7 rfl 0 rfl ?_
      refine g_get (T := TX9) E fw_X9 71 (wC_71 g ad o) rfl 0 (by decide) w_439 rfl rfl gdX9_leave_8 ?_
      refine g_iload_n E gdX9_leave_11 rfl 2 rfl ?_
      obtain ⟨hi6, h⟩ := qIn_of h
      refine g_lald E 72 (wC_72 g ad o) (by decide) hi6 gdX9_leave_12 ?_
      obtain ⟨m7, e_m7, h⟩ := qNm_of h
      refine g_nml e_m7 ?_
      refine g_iload_n E gdX9_leave_13 rfl 1 rfl ?_
      obtain ⟨r8, hc9, h⟩ := qB_of h
      refine g_Si (r := r8) (As := [.long m7, iv x1]) (rest := []) (w := wC g ad o) E (c_X3_has l g (wC g ad o) m7 x1 r8 hc9) okm_X3_has w_839 w_1334 rfl rfl (Nat.le_of_ble_eq_true rfl) ⟨Nat.le_of_ble_eq_true rfl, Nat.le_of_ble_eq_true rfl⟩ gdX9_leave_14 ?_
      refine g_if_eq E 33 gdX9_leave_17 (by decide) h (fun h => ?_) (fun h => ?_)
      ·
        exact j33 o x1 x2 v h k0 k1
      ·
        refine g_aload_n E gdX9_leave_20 rfl 0 rfl ?_
        refine g_iload_n E gdX9_leave_21 rfl 1 rfl ?_
        refine g_iload_n E gdX9_leave_22 rfl 2 rfl ?_
        obtain ⟨r10, hc11, h⟩ := qB_of h
        refine g_Si (r := r10) (As := [iv x1, iv x2]) (rest := [.ref (ad 71)]) (w := wC g ad o) E (c_X3_beside l g (wC g ad o) x1 x2 r10 hc11) okm_X3_beside w_828 w_1354 rfl rfl (Nat.le_of_ble_eq_true rfl) ⟨Nat.le_of_ble_eq_true rfl, Nat.le_of_ble_eq_true rfl⟩ gdX9_leave_23 ?_
        refine g_bipush E gdX9_leave_26 (by decide) ?_
        refine g_iload_n E gdX9_leave_28 rfl 1 rfl ?_
        refine g_iadd E gdX9_leave_29 ?_
        obtain ⟨o14, hc13, h⟩ := qB_of h
        refine g_Vv (As := [iv r10, iv (64 + x1)]) (rest := []) (w := wC g ad o14) E (c_X9_visit l g ad o r10 (64 + x1) o14 hc13) okm_X9_visit okw_X9_visit w_1346 rfl (wC_71 g ad o) rfl rfl (Nat.le_of_ble_eq_true rfl) ⟨Nat.le_of_ble_eq_true rfl, Nat.le_of_ble_eq_true rfl⟩ gdX9_leave_30 ?_
        exact j33 o14 x1 x2 v h k0 k1
  have j2 : ∀ (o : OO) (x1 : Int) (x2 : Int), e_X9_leave_2 o x1 x2 = some v → Go X 2 (wC g ad o) [(0, .ref (ad 71)), (1, iv x1), (2, iv x2)] [] := by
    intro o x1 x2 h
    unfold e_X9_leave_2 at h
    obtain ⟨r, hr, h⟩ := qB_of h
    refine l2 x1 r _ hr ?_
    ·
      intro u0 e
      have e := e.symm
      subst e
      have h : b_X9_leave_39 u0 x1 = some v := h
      exact j39 u0 x1 h
  unfold s_X9_leave at h
  refine g_iconst E gdX9_leave_0 ?_
  refine g_istore_n E [(2, iv 0), (0, .ref (ad 71)), (1, iv x1)] gdX9_leave_1 rfl (by decide) rfl ?_
  refine g_sub E [1, 2, 0] rfl ?_
  exact j2 o x1 0 h
set_option maxHeartbeats 4000000 in
set_option maxRecDepth 100000 in
theorem c_X3_back (l : Launch) (g : GG) (ws : va_W) (x0 : Int) (v : Int) (h : s_X3_back x0 = some v) : CI l g yX3_back cX3_back 1 (some .int) 0 0 ws [iv x0] v ws := by
  refine met_I (by decide) (Nat.le_of_ble_eq_true rfl) ?_
  intro X E hQ
  show Go X 0 ws [(0, iv x0)] []
  unfold s_X3_back at h
  refine g_iconst E gdX3_back_0 ?_
  refine g_iload_n E gdX3_back_1 rfl 0 rfl ?_
  refine g_isub E gdX3_back_2 ?_
  exact g_iret E hQ (Option.some.inj h) rfl gdX3_back_3
set_option maxHeartbeats 4000000 in
set_option maxRecDepth 100000 in
theorem c_X9_enter (l : Launch) (g : GG) (ad : Nat → Nat) (o : OO) (x1 : Int) (x2 : Int) (v : OO) (h : s_X9_enter o x1 x2 = some v) : CV l g yX9_enter cX9_enter 5 1 22 (wC g ad o) [.ref (ad 71), iv x1, iv x2] (wC g ad v) := by
  refine met_V (by decide) (Nat.le_of_ble_eq_true rfl) ?_
  intro X E hQ
  show Go X 0 (wC g ad o) [(0, .ref (ad 71)), (1, iv x1), (2, iv x2)] []
  have j73 : ∀ (o : OO), b_X9_enter_73 o = some v → Go X 73 (wC g ad o) [] [] := by
    intro o h
    unfold b_X9_enter_73 at h
    exact g_vret E hQ (by rw [← Option.some.inj h]) gdX9_enter_73
  have j67 : ∀ (o : OO) (x1 : Int) (x3 : Int) (v : (OO × Int) ⊕ ((OO))), b_X9_enter_67 o x1 x3 = some v → (∀ (o : OO) (x3 : Int), v = .inl (o, x3) → Go X 21 (wC g ad o) [(0, .ref (ad 71)), (1, iv x1), (3, iv x3)] []) → (∀ (o : OO), v = .inr (o) → Go X 73 (wC g ad o) [] []) → Go X 67 (wC g ad o) [(0, .ref (ad 71)), (1, iv x1), (3, iv x3)] [] := by
    intro o x1 x3 v h k0 k1
    unfold b_X9_enter_67 at h
    refine g_iinc E [(3, iv (x3 + 1)), (0, .ref (ad 71)), (1, iv x1)] gdX9_enter_67 2 rfl (by decide) rfl ?_
    refine g_goto E 21 gdX9_enter_70 (by decide) ?_
    refine g_sub E [1, 2, 0] rfl ?_
    exact k0 o (x3 + 1) (Option.some.inj h).symm
  have l21 : ∀ (x1 : Int) (r : (OO)) (s0 : OO × Int), loopW (fun s => l_X9_enter_21 x1 s.1 s.2) s0 = some r → (∀ (o : OO), r = (o) → Go X 73 (wC g ad o) [] []) → Go X 21 (wC g ad s0.1) [(0, .ref (ad 71)), (1, iv x1), (3, iv s0.2)] [] := by
    intro x1 r s0 h k1
    refine loop_rule (Head := fun s0 => Go X 21 (wC g ad s0.1) [(0, .ref (ad 71)), (1, iv x1), (3, iv s0.2)] []) h ?_
    intro s v h kk kx
    obtain ⟨o, x3⟩ := s
    have h : l_X9_enter_21 x1 o x3 = some v := h
    have k0 : ∀ (o : OO) (x3 : Int), v = .inl (o, x3) → Go X 21 (wC g ad o) [(0, .ref (ad 71)), (1, iv x1), (3, iv x3)] [] := fun o x3 e => kk (o, x3) e
    have k1 : ∀ (o : OO), v = .inr (o) → Go X 73 (wC g ad o) [] [] := fun o e => k1 o (kx _ e).symm
    unfold l_X9_enter_21 at h
    refine g_iload_n E gdX9_enter_21 rfl 2 rfl ?_
    refine g_iconst E gdX9_enter_22 ?_
    refine g_icmp_ge E 73 gdX9_enter_23 (by decide) h (fun h => ?_) (fun h => ?_)
    ·
      refine g_sub E [] rfl ?_
      exact k1 o (Option.some.inj h).symm
    ·
      refine g_iload_n E gdX9_enter_26 rfl 1 rfl ?_
      refine g_iload_n E gdX9_enter_27 rfl 2 rfl ?_
      obtain ⟨r1, hc2, h⟩ := qB_of h
      refine g_Si (r := r1) (As := [iv x1, iv x3]) (rest := []) (w := wC g ad o) E (c_X3_beside l g (wC g ad o) x1 x3 r1 hc2) okm_X3_beside w_828 w_1354 rfl rfl (Nat.le_of_ble_eq_true rfl) ⟨Nat.le_of_ble_eq_true rfl, Nat.le_of_ble_eq_true rfl⟩ gdX9_enter_28 ?_
      refine g_istore E [(4, iv r1), (0, .ref (ad 71)), (1, iv x1), (3, iv x3)] gdX9_enter_31 (by decide) rfl ?_
      refine g_iload E gdX9_enter_33 0 rfl ?_
      refine g_bipush E gdX9_enter_35 (by decide) ?_
      refine g_icmp_eq E 67 gdX9_enter_37 (by decide) h (fun h => ?_) (fun h => ?_)
      ·
        refine g_sub E [1, 2, 3] rfl ?_
        exact j67 o x1 x3 v h k0 k1
      ·
        refine g_aload_n E gdX9_enter_40 rfl 1 rfl ?_
        refine g_get (T := TX9) E fw_X9 71 (wC_71 g ad o) rfl 4 (by decide) w_443 rfl rfl gdX9_enter_41 ?_
        refine g_iload E gdX9_enter_44 0 rfl ?_
        refine g_iconst E gdX9_enter_46 ?_
        refine g_imul E gdX9_enter_47 ?_
        refine g_iload_n E gdX9_enter_48 rfl 3 rfl ?_
        obtain ⟨r3, hc4, h⟩ := qB_of h
        refine g_Si (r := r3) (As := [iv x3]) (rest := [iv (r1 * 4), .ref (ad 76)]) (w := wC g ad o) E (c_X3_back l g (wC g ad o) x3 r3 hc4) okm_X3_back w_1360 w_1359 rfl rfl (Nat.le_of_ble_eq_true rfl) ⟨Nat.le_of_ble_eq_true rfl, Nat.le_of_ble_eq_true rfl⟩ gdX9_enter_49 ?_
        refine g_iadd E gdX9_enter_52 ?_
        obtain ⟨hi5, h⟩ := qIn_of h
        refine g_iald E 76 (wC_76 g ad o) (by decide) hi5 gdX9_enter_53 ?_
        obtain ⟨n6, e_n6, h⟩ := qNm_of h
        refine g_nmi e_n6 ?_
        refine g_if_le E 67 gdX9_enter_54 (by decide) h (fun h => ?_) (fun h => ?_)
        ·
          refine g_sub E [1, 2, 3] rfl ?_
          exact j67 o x1 x3 v h k0 k1
        ·
          refine g_aload_n E gdX9_enter_57 rfl 1 rfl ?_
          refine g_bipush E gdX9_enter_58 (by decide) ?_
          refine g_iload E gdX9_enter_60 0 rfl ?_
          refine g_iadd E gdX9_enter_62 ?_
          refine g_iload_n E gdX9_enter_63 rfl 2 rfl ?_
          obtain ⟨o9, hc8, h⟩ := qB_of h
          refine g_Vv (As := [iv (64 + r1), iv x1]) (rest := []) (w := wC g ad o9) E (c_X9_visit l g ad o (64 + r1) x1 o9 hc8) okm_X9_visit okw_X9_visit w_1346 rfl (wC_71 g ad o) rfl rfl (Nat.le_of_ble_eq_true rfl) ⟨Nat.le_of_ble_eq_true rfl, Nat.le_of_ble_eq_true rfl⟩ gdX9_enter_64 ?_
          refine g_sub E [1, 2, 3] rfl ?_
          exact j67 o9 x1 x3 v h k0 k1
  have j21 : ∀ (o : OO) (x1 : Int) (x3 : Int), e_X9_enter_21 o x1 x3 = some v → Go X 21 (wC g ad o) [(0, .ref (ad 71)), (1, iv x1), (3, iv x3)] [] := by
    intro o x1 x3 h
    unfold e_X9_enter_21 at h
    obtain ⟨r, hr, h⟩ := qB_of h
    refine l21 x1 r _ hr ?_
    ·
      intro u0 e
      have e := e.symm
      subst e
      have h : b_X9_enter_73 u0 = some v := h
      exact j73 u0 h
  have j19 : ∀ (o : OO) (x1 : Int), b_X9_enter_19 o x1 = some v → Go X 19 (wC g ad o) [(0, .ref (ad 71)), (1, iv x1)] [] := by
    intro o x1 h
    unfold b_X9_enter_19 at h
    refine g_iconst E gdX9_enter_19 ?_
    refine g_istore_n E [(3, iv 0), (0, .ref (ad 71)), (1, iv x1)] gdX9_enter_20 rfl (by decide) rfl ?_
    refine g_sub E [1, 2, 0] rfl ?_
    exact j21 o x1 0 h
  unfold s_X9_enter at h
  refine g_aload_n E gdX9_enter_0 rfl 0 rfl ?_
  refine g_get (T := TX9) E fw_X9 71 (wC_71 g ad o) rfl 3 (by decide) w_442 rfl rfl gdX9_enter_1 ?_
  refine g_iload_n E gdX9_enter_4 rfl 1 rfl ?_
  obtain ⟨hi10, h⟩ := qIn_of h
  refine g_iald E 75 (wC_75 g ad o) (by decide) hi10 gdX9_enter_5 ?_
  obtain ⟨n11, e_n11, h⟩ := qNm_of h
  refine g_nmi e_n11 ?_
  refine g_iload_n E gdX9_enter_6 rfl 2 rfl ?_
  refine g_icmp_ge E 19 gdX9_enter_7 (by decide) h (fun h => ?_) (fun h => ?_)
  ·
    refine g_sub E [0, 1] rfl ?_
    exact j19 o x1 h
  ·
    refine g_aload_n E gdX9_enter_10 rfl 0 rfl ?_
    refine g_bipush E gdX9_enter_11 (by decide) ?_
    refine g_iload_n E gdX9_enter_13 rfl 1 rfl ?_
    refine g_iadd E gdX9_enter_14 ?_
    refine g_iload_n E gdX9_enter_15 rfl 1 rfl ?_
    obtain ⟨o14, hc13, h⟩ := qB_of h
    refine g_Vv (As := [iv (64 + x1), iv x1]) (rest := []) (w := wC g ad o14) E (c_X9_visit l g ad o (64 + x1) x1 o14 hc13) okm_X9_visit okw_X9_visit w_1346 rfl (wC_71 g ad o) rfl rfl (Nat.le_of_ble_eq_true rfl) ⟨Nat.le_of_ble_eq_true rfl, Nat.le_of_ble_eq_true rfl⟩ gdX9_enter_16 ?_
    refine g_sub E [0, 1] rfl ?_
    exact j19 o14 x1 h
set_option maxHeartbeats 4000000 in
set_option maxRecDepth 100000 in
theorem c_X9_search (l : Launch) (g : GG) (ad : Nat → Nat) (o : OO) (x1 : Int) (x2 : Int) (z3 : Int64) (v : Int × OO) (h : s_X9_search o x1 x2 z3 = some v) : CI l g yX9_search cX9_search 7 (some .boolean) 2 46 (wC g ad o) [.ref (ad 71), iv x1, iv x2, .long z3] v.1 (wC g ad v.2) := by
  refine met_I (by decide) (Nat.le_of_ble_eq_true rfl) ?_
  intro X E hQ
  show Go X 0 (wC g ad o) [(0, .ref (ad 71)), (1, iv x1), (2, iv x2), (3, .long z3)] []
  have j129 : ∀ (o : OO) (y0 : Int), b_X9_search_129 o y0 = some v → Go X 129 (wC g ad o) [] [iv y0] := by
    intro o y0 h
    unfold b_X9_search_129 at h
    obtain ⟨hz, h⟩ := qZ_of h
    exact g_zret E hQ hz (by rw [← Option.some.inj h]) (by rw [← Option.some.inj h]) gdX9_search_129
  have j113 : ∀ (o : OO) (x2 : Int), b_X9_search_113 o x2 = some v → Go X 113 (wC g ad o) [(0, .ref (ad 71)), (2, iv x2)] [] := by
    intro o x2 h
    unfold b_X9_search_113 at h
    refine g_aload_n E gdX9_search_113 rfl 0 rfl ?_
    refine g_get (T := TX9) E fw_X9 71 (wC_71 g ad o) rfl 1 (by decide) w_440 rfl rfl gdX9_search_114 ?_
    refine g_iload_n E gdX9_search_117 rfl 1 rfl ?_
    obtain ⟨hi1, h⟩ := qIn_of h
    refine g_iald E 73 (wC_73 g ad o) (by decide) hi1 gdX9_search_118 ?_
    obtain ⟨n2, e_n2, h⟩ := qNm_of h
    refine g_nmi e_n2 ?_
    refine g_bipush E gdX9_search_119 (by decide) ?_
    refine g_icmp_eq E 128 gdX9_search_121 (by decide) h (fun h => ?_) (fun h => ?_)
    ·
      refine g_iconst E gdX9_search_128 ?_
      refine g_sub E [] rfl ?_
      exact j129 o 0 h
    ·
      refine g_iconst E gdX9_search_124 ?_
      refine g_goto E 129 gdX9_search_125 (by decide) ?_
      refine g_sub E [] rfl ?_
      exact j129 o 1 h
  have j107 : ∀ (o : OO) (x2 : Int) (z3 : Int64) (x5 : Int) (v : (OO × Int) ⊕ ((OO))), b_X9_search_107 o x2 z3 x5 = some v → (∀ (o : OO) (x5 : Int), v = .inl (o, x5) → Go X 29 (wC g ad o) [(0, .ref (ad 71)), (2, iv x2), (3, .long z3), (5, iv x5)] []) → (∀ (o : OO), v = .inr (o) → Go X 113 (wC g ad o) [(0, .ref (ad 71)), (2, iv x2)] []) → Go X 107 (wC g ad o) [(0, .ref (ad 71)), (2, iv x2), (3, .long z3), (5, iv x5)] [] := by
    intro o x2 z3 x5 v h k0 k1
    unfold b_X9_search_107 at h
    refine g_iinc E [(5, iv (x5 + 1)), (0, .ref (ad 71)), (2, iv x2), (3, .long z3)] gdX9_search_107 3 rfl (by decide) rfl ?_
    refine g_goto E 29 gdX9_search_110 (by decide) ?_
    refine g_sub E [1, 2, 3, 0] rfl ?_
    exact k0 o (x5 + 1) (Option.some.inj h).symm
  have j104 : ∀ (o : OO) (x2 : Int) (z3 : Int64) (x5 : Int) (y1 : Int) (y2 : Int) (v : (OO × Int) ⊕ ((OO))), b_X9_search_104 o x2 z3 x5 y1 y2 = some v → (∀ (o : OO) (x5 : Int), v = .inl (o, x5) → Go X 29 (wC g ad o) [(0, .ref (ad 71)), (2, iv x2), (3, .long z3), (5, iv x5)] []) → (∀ (o : OO), v = .inr (o) → Go X 113 (wC g ad o) [(0, .ref (ad 71)), (2, iv x2)] []) → Go X 104 (wC g ad o) [(0, .ref (ad 71)), (2, iv x2), (3, .long z3), (5, iv x5)] [iv y2, iv y1, .ref (ad 71)] := by
    intro o x2 z3 x5 y1 y2 v h k0 k1
    unfold b_X9_search_104 at h
    obtain ⟨o5, hc4, h⟩ := qB_of h
    refine g_Vv (As := [iv y1, iv y2]) (rest := []) (w := wC g ad o5) E (c_X9_enter l g ad o y1 y2 o5 hc4) okm_X9_enter okw_X9_enter w_1355 rfl (wC_71 g ad o) rfl rfl (Nat.le_of_ble_eq_true rfl) ⟨Nat.le_of_ble_eq_true rfl, Nat.le_of_ble_eq_true rfl⟩ gdX9_search_104 ?_
    exact j107 o5 x2 z3 x5 v h k0 k1
  have l29 : ∀ (x2 : Int) (z3 : Int64) (r : (OO)) (s0 : OO × Int), loopW (fun s => l_X9_search_29 x2 z3 s.1 s.2) s0 = some r → (∀ (o : OO), r = (o) → Go X 113 (wC g ad o) [(0, .ref (ad 71)), (2, iv x2)] []) → Go X 29 (wC g ad s0.1) [(0, .ref (ad 71)), (2, iv x2), (3, .long z3), (5, iv s0.2)] [] := by
    intro x2 z3 r s0 h k1
    refine loop_rule (Head := fun s0 => Go X 29 (wC g ad s0.1) [(0, .ref (ad 71)), (2, iv x2), (3, .long z3), (5, iv s0.2)] []) h ?_
    intro s v h kk kx
    obtain ⟨o, x5⟩ := s
    have h : l_X9_search_29 x2 z3 o x5 = some v := h
    have k0 : ∀ (o : OO) (x5 : Int), v = .inl (o, x5) → Go X 29 (wC g ad o) [(0, .ref (ad 71)), (2, iv x2), (3, .long z3), (5, iv x5)] [] := fun o x5 e => kk (o, x5) e
    have k1 : ∀ (o : OO), v = .inr (o) → Go X 113 (wC g ad o) [(0, .ref (ad 71)), (2, iv x2)] [] := fun o e => k1 o (kx _ e).symm
    unfold l_X9_search_29 at h
    refine g_iload E gdX9_search_29 3 rfl ?_
    refine g_sipush E gdX9_search_31 (by decide) ?_
    refine g_icmp_ge E 113 gdX9_search_34 (by decide) h (fun h => ?_) (fun h => ?_)
    ·
      refine g_sub E [0, 1] rfl ?_
      exact k1 o (Option.some.inj h).symm
    ·
      refine g_iload E gdX9_search_37 3 rfl ?_
      refine g_aload_n E gdX9_search_39 rfl 0 rfl ?_
      refine g_get (T := TX9) E fw_X9 71 (wC_71 g ad o) rfl 5 (by decide) w_444 rfl rfl gdX9_search_40 ?_
      refine g_icmp_ge E 113 gdX9_search_43 (by decide) h (fun h => ?_) (fun h => ?_)
      ·
        refine g_sub E [0, 1] rfl ?_
        exact k1 o (Option.some.inj h).symm
      ·
        refine g_aload_n E gdX9_search_46 rfl 0 rfl ?_
        refine g_get (T := TX9) E fw_X9 71 (wC_71 g ad o) rfl 1 (by decide) w_440 rfl rfl gdX9_search_47 ?_
        refine g_iload_n E gdX9_search_50 rfl 1 rfl ?_
        obtain ⟨hi6, h⟩ := qIn_of h
        refine g_iald E 73 (wC_73 g ad o) (by decide) hi6 gdX9_search_51 ?_
        obtain ⟨n7, e_n7, h⟩ := qNm_of h
        refine g_nmi e_n7 ?_
        refine g_bipush E gdX9_search_52 (by decide) ?_
        refine g_icmp_ne E 113 gdX9_search_54 (by decide) h (fun h => ?_) (fun h => ?_)
        ·
          refine g_sub E [0, 1] rfl ?_
          exact k1 o (Option.some.inj h).symm
        ·
          refine g_aload_n E gdX9_search_57 rfl 0 rfl ?_
          refine g_get (T := TX9) E fw_X9 71 (wC_71 g ad o) rfl 2 (by decide) w_441 rfl rfl gdX9_search_58 ?_
          refine g_iload E gdX9_search_61 3 rfl ?_
          obtain ⟨hi8, h⟩ := qIn_of h
          refine g_iald E 74 (wC_74 g ad o) (by decide) hi8 gdX9_search_63 ?_
          obtain ⟨n9, e_n9, h⟩ := qNm_of h
          refine g_nmi e_n9 ?_
          refine g_istore E [(6, iv n9), (0, .ref (ad 71)), (2, iv x2), (3, .long z3), (5, iv x5)] gdX9_search_64 (by decide) rfl ?_
          refine g_iload E gdX9_search_66 0 rfl ?_
          refine g_bipush E gdX9_search_68 (by decide) ?_
          refine g_icmp_lt E 85 gdX9_search_70 (by decide) h (fun h => ?_) (fun h => ?_)
          ·
            refine g_aload_n E gdX9_search_85 rfl 1 rfl ?_
            refine g_iload E gdX9_search_86 0 rfl ?_
            refine g_lload_n E gdX9_search_88 rfl 3 rfl ?_
            refine g_iload E gdX9_search_89 0 rfl ?_
            obtain ⟨r10, hc11, h⟩ := qB_of h
            refine g_Si (r := r10) (As := [.long z3, iv n9]) (rest := [iv n9, .ref (ad 71)]) (w := wC g ad o) E (c_X3_has l g (wC g ad o) z3 n9 r10 hc11) okm_X3_has w_839 w_1334 rfl rfl (Nat.le_of_ble_eq_true rfl) ⟨Nat.le_of_ble_eq_true rfl, Nat.le_of_ble_eq_true rfl⟩ gdX9_search_91 ?_
            refine g_if_eq E 101 gdX9_search_94 (by decide) h (fun h => ?_) (fun h => ?_)
            ·
              refine g_sipush E gdX9_search_101 (by decide) ?_
              refine g_sub E [1, 2, 3, 4] rfl ?_
              exact j104 o x2 z3 x5 n9 1000 v h k0 k1
            ·
              refine g_iconst E gdX9_search_97 ?_
              refine g_goto E 104 gdX9_search_98 (by decide) ?_
              refine g_sub E [1, 2, 3, 4] rfl ?_
              exact j104 o x2 z3 x5 n9 1 v h k0 k1
          ·
            refine g_aload_n E gdX9_search_73 rfl 1 rfl ?_
            refine g_iload E gdX9_search_74 0 rfl ?_
            refine g_bipush E gdX9_search_76 (by decide) ?_
            refine g_isub E gdX9_search_78 ?_
            obtain ⟨o14, hc13, h⟩ := qB_of h
            refine g_Vv (As := [iv (n9 - 64)]) (rest := []) (w := wC g ad o14) E (c_X9_leave l g ad o (n9 - 64) o14 hc13) okm_X9_leave okw_X9_leave w_1350 rfl (wC_71 g ad o) rfl rfl (Nat.le_of_ble_eq_true rfl) ⟨Nat.le_of_ble_eq_true rfl, Nat.le_of_ble_eq_true rfl⟩ gdX9_search_79 ?_
            refine g_goto E 107 gdX9_search_82 (by decide) ?_
            refine g_sub E [1, 2, 3, 4] rfl ?_
            exact j107 o14 x2 z3 x5 v h k0 k1
  have j29 : ∀ (o : OO) (x2 : Int) (z3 : Int64) (x5 : Int), e_X9_search_29 o x2 z3 x5 = some v → Go X 29 (wC g ad o) [(0, .ref (ad 71)), (2, iv x2), (3, .long z3), (5, iv x5)] [] := by
    intro o x2 z3 x5 h
    unfold e_X9_search_29 at h
    obtain ⟨r, hr, h⟩ := qB_of h
    refine l29 x2 z3 r _ hr ?_
    ·
      intro u0 e
      have e := e.symm
      subst e
      have h : b_X9_search_113 u0 x2 = some v := h
      exact j113 u0 x2 h
  unfold s_X9_search at h
  refine g_aload_n E gdX9_search_0 rfl 0 rfl ?_
  refine g_get (T := TX9) E fw_X9 71 (wC_71 g ad o) rfl 1 (by decide) w_440 rfl rfl gdX9_search_1 ?_
  refine g_bipush E gdX9_search_4 (by decide) ?_
  obtain ⟨o17, hc16, h⟩ := qB_of h
  refine g_Sv (As := [.ref (ad 73), iv (-9)]) (rest := []) (w := wC g ad o17) E (c_J7_fill_53178__73 l g ad o (-9) o17 hc16) okm_J7_fill_53178 w_124 w_1341 rfl rfl (Nat.le_of_ble_eq_true rfl) ⟨Nat.le_of_ble_eq_true rfl, Nat.le_of_ble_eq_true rfl⟩ gdX9_search_6 ?_
  refine g_aload_n E gdX9_search_9 rfl 0 rfl ?_
  refine g_iconst E gdX9_search_10 ?_
  obtain ⟨o18, e_o18, h⟩ := qNm_of h
  refine g_puti (T := TX9) (ws' := wC g ad o18) E fw_X9 tyX9 tyX9_ok nmX9 71 (wC_71 g ad o17) rfl 5 (by decide) w_444 rfl rfl (by decide +kernel) (Nat.le_of_ble_eq_true rfl) (by rw [e_o18]; exact wC_p71_5 g ad o17 _) gdX9_search_11 ?_
  refine g_aload_n E gdX9_search_14 rfl 0 rfl ?_
  refine g_bipush E gdX9_search_15 (by decide) ?_
  refine g_iload_n E gdX9_search_17 rfl 1 rfl ?_
  refine g_iadd E gdX9_search_18 ?_
  refine g_bipush E gdX9_search_19 (by decide) ?_
  refine g_iload_n E gdX9_search_21 rfl 1 rfl ?_
  refine g_iadd E gdX9_search_22 ?_
  obtain ⟨o21, hc20, h⟩ := qB_of h
  refine g_Vv (As := [iv (64 + x1), iv (64 + x1)]) (rest := []) (w := wC g ad o21) E (c_X9_visit l g ad o18 (64 + x1) (64 + x1) o21 hc20) okm_X9_visit okw_X9_visit w_1346 rfl (wC_71 g ad o18) rfl rfl (Nat.le_of_ble_eq_true rfl) ⟨Nat.le_of_ble_eq_true rfl, Nat.le_of_ble_eq_true rfl⟩ gdX9_search_23 ?_
  refine g_iconst E gdX9_search_26 ?_
  refine g_istore E [(5, iv 0), (0, .ref (ad 71)), (1, iv x1), (2, iv x2), (3, .long z3)] gdX9_search_27 (by decide) rfl ?_
  refine g_sub E [1, 3, 4, 0] rfl ?_
  exact j29 o21 x2 z3 0 h
set_option maxHeartbeats 4000000 in
set_option maxRecDepth 100000 in
theorem c_X3_wayTo (l : Launch) (g : GG) (ws : va_W) (x0 : Int) (x1 : Int) (v : Int) (h : s_X3_wayTo x0 x1 = some v) : CI l g yX3_wayTo cX3_wayTo 2 (some .int) 0 0 ws [iv x0, iv x1] v ws := by
  refine met_I (by decide) (Nat.le_of_ble_eq_true rfl) ?_
  intro X E hQ
  show Go X 0 ws [(0, iv x0), (1, iv x1)] []
  have j31 : ∀ (y0 : Int), b_X3_wayTo_31 y0 = some v → Go X 31 ws [] [iv y0] := by
    intro y0 h
    unfold b_X3_wayTo_31 at h
    exact g_iret E hQ (Option.some.inj h) rfl gdX3_wayTo_31
  unfold s_X3_wayTo at h
  refine g_iload_n E gdX3_wayTo_0 rfl 1 rfl ?_
  refine g_iload_n E gdX3_wayTo_1 rfl 0 rfl ?_
  refine g_bipush E gdX3_wayTo_2 (by decide) ?_
  refine g_isub E gdX3_wayTo_4 ?_
  refine g_icmp_ne E 10 gdX3_wayTo_5 (by decide) h (fun h => ?_) (fun h => ?_)
  ·
    refine g_iload_n E gdX3_wayTo_10 rfl 1 rfl ?_
    refine g_iload_n E gdX3_wayTo_11 rfl 0 rfl ?_
    refine g_iconst E gdX3_wayTo_12 ?_
    refine g_isub E gdX3_wayTo_13 ?_
    refine g_icmp_ne E 19 gdX3_wayTo_14 (by decide) h (fun h => ?_) (fun h => ?_)
    ·
      refine g_iload_n E gdX3_wayTo_19 rfl 1 rfl ?_
      refine g_iload_n E gdX3_wayTo_20 rfl 0 rfl ?_
      refine g_iconst E gdX3_wayTo_21 ?_
      refine g_iadd E gdX3_wayTo_22 ?_
      refine g_icmp_ne E 30 gdX3_wayTo_23 (by decide) h (fun h => ?_) (fun h => ?_)
      ·
        refine g_iconst E gdX3_wayTo_30 ?_
        refine g_sub E [] rfl ?_
        exact j31 3 h
      ·
        refine g_iconst E gdX3_wayTo_26 ?_
        refine g_goto E 31 gdX3_wayTo_27 (by decide) ?_
        refine g_sub E [] rfl ?_
        exact j31 2 h
    ·
      refine g_iconst E gdX3_wayTo_17 ?_
      exact g_iret E hQ (Option.some.inj h) rfl gdX3_wayTo_18
  ·
    refine g_iconst E gdX3_wayTo_8 ?_
    exact g_iret E hQ (Option.some.inj h) rfl gdX3_wayTo_9
set_option maxHeartbeats 4000000 in
set_option maxRecDepth 100000 in
theorem c_X9_push (l : Launch) (g : GG) (ad : Nat → Nat) (o : OO) (x1 : Int) (x2 : Int) (v : OO) (h : s_X9_push o x1 x2 = some v) : CV l g yX9_push cX9_push 9 1 21 (wC g ad o) [.ref (ad 71), iv x1, iv x2] (wC g ad v) := by
  refine met_V (by decide) (Nat.le_of_ble_eq_true rfl) ?_
  intro X E hQ
  show Go X 0 (wC g ad o) [(0, .ref (ad 71)), (1, iv x1), (2, iv x2)] []
  have j36 : ∀ (o : OO), b_X9_push_36 o = some v → Go X 36 (wC g ad o) [] [] := by
    intro o h
    unfold b_X9_push_36 at h
    exact g_vret E hQ (by rw [← Option.some.inj h]) gdX9_push_36
  have j152 : ∀ (o : OO), b_X9_push_152 o = some v → Go X 152 (wC g ad o) [] [] := by
    intro o h
    unfold b_X9_push_152 at h
    exact g_vret E hQ (by rw [← Option.some.inj h]) gdX9_push_152
  have j143 : ∀ (o : OO) (x1 : Int) (x4 : Int) (x5 : Int) (v : (OO × Int × Int) ⊕ ((OO) ⊕ (OO))), b_X9_push_143 o x1 x4 x5 = some v → (∀ (o : OO) (x3 : Int) (x4 : Int), v = .inl (o, x3, x4) → Go X 5 (wC g ad o) [(0, .ref (ad 71)), (1, iv x1), (3, iv x3), (4, iv x4)] []) → (∀ (o : OO), v = .inr (.inl o) → Go X 36 (wC g ad o) [] []) → (∀ (o : OO), v = .inr (.inr o) → Go X 152 (wC g ad o) [] []) → Go X 143 (wC g ad o) [(0, .ref (ad 71)), (1, iv x1), (4, iv x4), (5, iv x5)] [] := by
    intro o x1 x4 x5 v h k0 k1 k2
    unfold b_X9_push_143 at h
    refine g_iload E gdX9_push_143 3 rfl ?_
    refine g_istore_n E [(3, iv x5), (0, .ref (ad 71)), (1, iv x1), (4, iv x4), (5, iv x5)] gdX9_push_145 rfl (by decide) rfl ?_
    refine g_iinc E [(4, iv (x4 + 1)), (3, iv x5), (0, .ref (ad 71)), (1, iv x1), (5, iv x5)] gdX9_push_146 3 rfl (by decide) rfl ?_
    refine g_goto E 5 gdX9_push_149 (by decide) ?_
    refine g_sub E [2, 3, 1, 0] rfl ?_
    exact k0 o x5 (x4 + 1) (Option.some.inj h).symm
  have j88 : ∀ (o : OO) (x1 : Int) (x4 : Int) (x5 : Int) (y1 : Int) (y2 : Int) (y3 : Int) (v : (OO × Int × Int) ⊕ ((OO) ⊕ (OO))), b_X9_push_88 o x1 x4 x5 y1 y2 y3 = some v → (∀ (o : OO) (x3 : Int) (x4 : Int), v = .inl (o, x3, x4) → Go X 5 (wC g ad o) [(0, .ref (ad 71)), (1, iv x1), (3, iv x3), (4, iv x4)] []) → (∀ (o : OO), v = .inr (.inl o) → Go X 36 (wC g ad o) [] []) → (∀ (o : OO), v = .inr (.inr o) → Go X 152 (wC g ad o) [] []) → Go X 88 (wC g ad o) [(0, .ref (ad 71)), (1, iv x1), (4, iv x4), (5, iv x5)] [iv y3, iv y2, iv y1, .ref (ad 75)] := by
    intro o x1 x4 x5 y1 y2 y3 v h k0 k1 k2
    unfold b_X9_push_88 at h
    refine g_iadd E gdX9_push_88 ?_
    obtain ⟨hi1, h⟩ := qIn_of h
    obtain ⟨o2, e_o2, h⟩ := qNm_of h
    refine g_iast (ws' := wC g ad o2) E 75 (wC_75 g ad o) (by decide) hi1 (by rw [e_o2]; exact wC_s75 g ad o _ _) gdX9_push_89 ?_
    refine g_goto E 143 gdX9_push_90 (by decide) ?_
    exact j143 o2 x1 x4 x5 v h k0 k1 k2
  have j61 : ∀ (o : OO) (x1 : Int) (x4 : Int) (x5 : Int) (x6 : Int) (x7 : Int) (y0 : Int) (v : (OO × Int × Int) ⊕ ((OO) ⊕ (OO))), b_X9_push_61 o x1 x4 x5 x6 x7 y0 = some v → (∀ (o : OO) (x3 : Int) (x4 : Int), v = .inl (o, x3, x4) → Go X 5 (wC g ad o) [(0, .ref (ad 71)), (1, iv x1), (3, iv x3), (4, iv x4)] []) → (∀ (o : OO), v = .inr (.inl o) → Go X 36 (wC g ad o) [] []) → (∀ (o : OO), v = .inr (.inr o) → Go X 152 (wC g ad o) [] []) → Go X 61 (wC g ad o) [(0, .ref (ad 71)), (1, iv x1), (4, iv x4), (5, iv x5), (6, iv x6), (7, iv x7)] [iv y0] := by
    intro o x1 x4 x5 x6 x7 y0 v h k0 k1 k2
    unfold b_X9_push_61 at h
    refine g_istore E [(8, iv y0), (0, .ref (ad 71)), (1, iv x1), (4, iv x4), (5, iv x5), (6, iv x6), (7, iv x7)] gdX9_push_61 (by decide) rfl ?_
    refine g_iload E gdX9_push_63 5 rfl ?_
    refine g_iload E gdX9_push_65 6 rfl ?_
    refine g_icmp_ne E 93 gdX9_push_67 (by decide) h (fun h => ?_) (fun h => ?_)
    ·
      refine g_iload E gdX9_push_93 0 rfl ?_
      refine g_if_eq E 122 gdX9_push_95 (by decide) h (fun h => ?_) (fun h => ?_)
      ·
        refine g_aload_n E gdX9_push_122 rfl 1 rfl ?_
        refine g_get (T := TX9) E fw_X9 71 (wC_71 g ad o) rfl 4 (by decide) w_443 rfl rfl gdX9_push_123 ?_
        refine g_iload E gdX9_push_126 5 rfl ?_
        refine g_iconst E gdX9_push_128 ?_
        refine g_imul E gdX9_push_129 ?_
        refine g_iload E gdX9_push_130 5 rfl ?_
        refine g_iload E gdX9_push_132 6 rfl ?_
        obtain ⟨r3, hc4, h⟩ := qB_of h
        refine g_Si (r := r3) (As := [iv x6, iv x7]) (rest := [iv (x6 * 4), .ref (ad 76)]) (w := wC g ad o) E (c_X3_wayTo l g (wC g ad o) x6 x7 r3 hc4) okm_X3_wayTo w_1367 w_1366 rfl rfl (Nat.le_of_ble_eq_true rfl) ⟨Nat.le_of_ble_eq_true rfl, Nat.le_of_ble_eq_true rfl⟩ gdX9_push_134 ?_
        refine g_iadd E gdX9_push_137 ?_
        obtain ⟨n5, e_n5, h⟩ := qNm_of h
        refine g_nmi e_n5 ?_
        refine g_dup2 E gdX9_push_138 rfl rfl ?_
        obtain ⟨hi6, h⟩ := qIn_of h
        refine g_iald E 76 (wC_76 g ad o) (by decide) hi6 gdX9_push_139 ?_
        obtain ⟨n7, e_n7, h⟩ := qNm_of h
        refine g_nmi e_n7 ?_
        refine g_iconst E gdX9_push_140 ?_
        refine g_isub E gdX9_push_141 ?_
        obtain ⟨hi8, h⟩ := qIn_of h
        obtain ⟨o9, e_o9, h⟩ := qNm_of h
        refine g_iast (ws' := wC g ad o9) E 76 (wC_76 g ad o) (by decide) hi8 (by rw [e_o9]; exact wC_s76 g ad o _ _) gdX9_push_142 ?_
        refine g_sub E [1, 2, 3, 4] rfl ?_
        exact j143 o9 x1 x4 x5 v h k0 k1 k2
      ·
        refine g_aload_n E gdX9_push_98 rfl 1 rfl ?_
        refine g_get (T := TX9) E fw_X9 71 (wC_71 g ad o) rfl 4 (by decide) w_443 rfl rfl gdX9_push_99 ?_
        refine g_iload E gdX9_push_102 6 rfl ?_
        refine g_iconst E gdX9_push_104 ?_
        refine g_imul E gdX9_push_105 ?_
        refine g_iload E gdX9_push_106 6 rfl ?_
        refine g_iload E gdX9_push_108 5 rfl ?_
        obtain ⟨r10, hc11, h⟩ := qB_of h
        refine g_Si (r := r10) (As := [iv x7, iv x6]) (rest := [iv (x7 * 4), .ref (ad 76)]) (w := wC g ad o) E (c_X3_wayTo l g (wC g ad o) x7 x6 r10 hc11) okm_X3_wayTo w_1367 w_1366 rfl rfl (Nat.le_of_ble_eq_true rfl) ⟨Nat.le_of_ble_eq_true rfl, Nat.le_of_ble_eq_true rfl⟩ gdX9_push_110 ?_
        refine g_iadd E gdX9_push_113 ?_
        obtain ⟨n12, e_n12, h⟩ := qNm_of h
        refine g_nmi e_n12 ?_
        refine g_dup2 E gdX9_push_114 rfl rfl ?_
        obtain ⟨hi13, h⟩ := qIn_of h
        refine g_iald E 76 (wC_76 g ad o) (by decide) hi13 gdX9_push_115 ?_
        obtain ⟨n14, e_n14, h⟩ := qNm_of h
        refine g_nmi e_n14 ?_
        refine g_iconst E gdX9_push_116 ?_
        refine g_iadd E gdX9_push_117 ?_
        obtain ⟨hi15, h⟩ := qIn_of h
        obtain ⟨o16, e_o16, h⟩ := qNm_of h
        refine g_iast (ws' := wC g ad o16) E 76 (wC_76 g ad o) (by decide) hi15 (by rw [e_o16]; exact wC_s76 g ad o _ _) gdX9_push_118 ?_
        refine g_goto E 143 gdX9_push_119 (by decide) ?_
        refine g_sub E [1, 2, 3, 4] rfl ?_
        exact j143 o16 x1 x4 x5 v h k0 k1 k2
    ·
      refine g_aload_n E gdX9_push_70 rfl 1 rfl ?_
      refine g_get (T := TX9) E fw_X9 71 (wC_71 g ad o) rfl 3 (by decide) w_442 rfl rfl gdX9_push_71 ?_
      refine g_iload E gdX9_push_74 5 rfl ?_
      refine g_dup2 E gdX9_push_76 rfl rfl ?_
      obtain ⟨hi17, h⟩ := qIn_of h
      refine g_iald E 75 (wC_75 g ad o) (by decide) hi17 gdX9_push_77 ?_
      obtain ⟨n18, e_n18, h⟩ := qNm_of h
      refine g_nmi e_n18 ?_
      refine g_iload E gdX9_push_78 0 rfl ?_
      refine g_if_eq E 87 gdX9_push_80 (by decide) h (fun h => ?_) (fun h => ?_)
      ·
        refine g_iconst E gdX9_push_87 ?_
        refine g_sub E [1, 2, 3, 4] rfl ?_
        exact j88 o x1 x4 x5 x6 n18 1 v h k0 k1 k2
      ·
        refine g_iconst E gdX9_push_83 ?_
        refine g_goto E 88 gdX9_push_84 (by decide) ?_
        refine g_sub E [1, 2, 3, 4] rfl ?_
        exact j88 o x1 x4 x5 x6 n18 (-1) v h k0 k1 k2
  have l5 : ∀ (x1 : Int) (r : (OO) ⊕ (OO)) (s0 : OO × Int × Int), loopW (fun s => l_X9_push_5 x1 s.1 s.2.1 s.2.2) s0 = some r → (∀ (o : OO), r = (.inl o) → Go X 36 (wC g ad o) [] []) → (∀ (o : OO), r = (.inr o) → Go X 152 (wC g ad o) [] []) → Go X 5 (wC g ad s0.1) [(0, .ref (ad 71)), (1, iv x1), (3, iv s0.2.1), (4, iv s0.2.2)] [] := by
    intro x1 r s0 h k1 k2
    refine loop_rule (Head := fun s0 => Go X 5 (wC g ad s0.1) [(0, .ref (ad 71)), (1, iv x1), (3, iv s0.2.1), (4, iv s0.2.2)] []) h ?_
    intro s v h kk kx
    obtain ⟨o, x3, x4⟩ := s
    have h : l_X9_push_5 x1 o x3 x4 = some v := h
    have k0 : ∀ (o : OO) (x3 : Int) (x4 : Int), v = .inl (o, x3, x4) → Go X 5 (wC g ad o) [(0, .ref (ad 71)), (1, iv x1), (3, iv x3), (4, iv x4)] [] := fun o x3 x4 e => kk (o, x3, x4) e
    have k1 : ∀ (o : OO), v = .inr (.inl o) → Go X 36 (wC g ad o) [] [] := fun o e => k1 o (kx _ e).symm
    have k2 : ∀ (o : OO), v = .inr (.inr o) → Go X 152 (wC g ad o) [] [] := fun o e => k2 o (kx _ e).symm
    unfold l_X9_push_5 at h
    refine g_iload E gdX9_push_5 3 rfl ?_
    refine g_sipush E gdX9_push_7 (by decide) ?_
    refine g_icmp_ge E 152 gdX9_push_10 (by decide) h (fun h => ?_) (fun h => ?_)
    ·
      refine g_sub E [] rfl ?_
      exact k2 o (Option.some.inj h).symm
    ·
      refine g_iload_n E gdX9_push_13 rfl 2 rfl ?_
      refine g_bipush E gdX9_push_14 (by decide) ?_
      refine g_iload_n E gdX9_push_16 rfl 1 rfl ?_
      refine g_iadd E gdX9_push_17 ?_
      refine g_icmp_eq E 152 gdX9_push_18 (by decide) h (fun h => ?_) (fun h => ?_)
      ·
        refine g_sub E [] rfl ?_
        exact k2 o (Option.some.inj h).symm
      ·
        refine g_aload_n E gdX9_push_21 rfl 0 rfl ?_
        refine g_get (T := TX9) E fw_X9 71 (wC_71 g ad o) rfl 1 (by decide) w_440 rfl rfl gdX9_push_22 ?_
        refine g_iload_n E gdX9_push_25 rfl 2 rfl ?_
        obtain ⟨hi19, h⟩ := qIn_of h
        refine g_iald E 73 (wC_73 g ad o) (by decide) hi19 gdX9_push_26 ?_
        obtain ⟨n20, e_n20, h⟩ := qNm_of h
        refine g_nmi e_n20 ?_
        refine g_istore E [(5, iv n20), (0, .ref (ad 71)), (1, iv x1), (3, iv x3), (4, iv x4)] gdX9_push_27 (by decide) rfl ?_
        refine g_iload E gdX9_push_29 0 rfl ?_
        refine g_bipush E gdX9_push_31 (by decide) ?_
        refine g_icmp_ne E 37 gdX9_push_33 (by decide) h (fun h => ?_) (fun h => ?_)
        ·
          refine g_iload_n E gdX9_push_37 rfl 3 rfl ?_
          refine g_bipush E gdX9_push_38 (by decide) ?_
          obtain ⟨hd21, h⟩ := qDv_of h
          refine g_irem E hd21 gdX9_push_40 ?_
          obtain ⟨n22, e_n22, h⟩ := qNm_of h
          refine g_nmi e_n22 ?_
          refine g_istore E [(6, iv n22), (5, iv n20), (0, .ref (ad 71)), (1, iv x1), (3, iv x3), (4, iv x4)] gdX9_push_41 (by decide) rfl ?_
          refine g_iload E gdX9_push_43 1 rfl ?_
          refine g_bipush E gdX9_push_45 (by decide) ?_
          obtain ⟨hd23, h⟩ := qDv_of h
          refine g_irem E hd23 gdX9_push_47 ?_
          obtain ⟨n24, e_n24, h⟩ := qNm_of h
          refine g_nmi e_n24 ?_
          refine g_istore E [(7, iv n24), (6, iv n22), (5, iv n20), (0, .ref (ad 71)), (1, iv x1), (3, iv x3), (4, iv x4)] gdX9_push_48 (by decide) rfl ?_
          refine g_iload_n E gdX9_push_50 rfl 5 rfl ?_
          refine g_bipush E gdX9_push_51 (by decide) ?_
          refine g_icmp_ge E 60 gdX9_push_53 (by decide) h (fun h => ?_) (fun h => ?_)
          ·
            refine g_iconst E gdX9_push_60 ?_
            refine g_sub E [3, 4, 6, 2, 1, 0] rfl ?_
            exact j61 o x1 x4 n20 n22 n24 0 v h k0 k1 k2
          ·
            refine g_iconst E gdX9_push_56 ?_
            refine g_goto E 61 gdX9_push_57 (by decide) ?_
            refine g_sub E [3, 4, 6, 2, 1, 0] rfl ?_
            exact j61 o x1 x4 n20 n22 n24 1 v h k0 k1 k2
        ·
          refine g_sub E [] rfl ?_
          exact k1 o (Option.some.inj h).symm
  have j5 : ∀ (o : OO) (x1 : Int) (x3 : Int) (x4 : Int), e_X9_push_5 o x1 x3 x4 = some v → Go X 5 (wC g ad o) [(0, .ref (ad 71)), (1, iv x1), (3, iv x3), (4, iv x4)] [] := by
    intro o x1 x3 x4 h
    unfold e_X9_push_5 at h
    obtain ⟨r, hr, h⟩ := qB_of h
    refine l5 x1 r _ hr ?_ ?_
    ·
      intro u0 e
      subst e
      have h : b_X9_push_36 u0 = some v := h
      exact j36 u0 h
    ·
      intro u0 e
      subst e
      have h : b_X9_push_152 u0 = some v := h
      exact j152 u0 h
  unfold s_X9_push at h
  refine g_iload_n E gdX9_push_0 rfl 2 rfl ?_
  refine g_istore_n E [(3, iv x2), (0, .ref (ad 71)), (1, iv x1), (2, iv x2)] gdX9_push_1 rfl (by decide) rfl ?_
  refine g_iconst E gdX9_push_2 ?_
  refine g_istore E [(4, iv 0), (3, iv x2), (0, .ref (ad 71)), (1, iv x1), (2, iv x2)] gdX9_push_3 (by decide) rfl ?_
  refine g_sub E [2, 3, 1, 0] rfl ?_
  exact j5 o x1 x2 0 h
set_option maxHeartbeats 4000000 in
set_option maxRecDepth 100000 in
theorem c_X9_nearestCut (l : Launch) (g : GG) (ad : Nat → Nat) (o : OO) (x1 : Int) (x2 : Int) (z3 : Int64) (v : Int64 × OO) (h : s_X9_nearestCut o x1 x2 z3 = some v) : CL l g yX9_nearestCut cX9_nearestCut 8 (some .long) 3 72 (wC g ad o) [.ref (ad 71), iv x1, iv x2, .long z3] v.1 (wC g ad v.2) := by
  refine met_L (by decide) (Nat.le_of_ble_eq_true rfl) ?_
  intro X E hQ
  show Go X 0 (wC g ad o) [(0, .ref (ad 71)), (1, iv x1), (2, iv x2), (3, .long z3)] []
  have j116 : ∀ (o : OO) (z5 : Int64), b_X9_nearestCut_116 o z5 = some v → Go X 116 (wC g ad o) [(5, .long z5)] [] := by
    intro o z5 h
    unfold b_X9_nearestCut_116 at h
    refine g_lload E gdX9_nearestCut_116 0 rfl ?_
    exact g_lret E hQ (by rw [← Option.some.inj h]) (by rw [← Option.some.inj h]) gdX9_nearestCut_118
  have j110 : ∀ (o : OO) (z3 : Int64) (z5 : Int64) (x7 : Int) (v : (Int64 × Int) ⊕ ((Int64))), b_X9_nearestCut_110 o z3 z5 x7 = some v → (∀ (z5 : Int64) (x7 : Int), v = .inl (z5, x7) → Go X 57 (wC g ad o) [(0, .ref (ad 71)), (3, .long z3), (5, .long z5), (7, iv x7)] []) → (∀ (z5 : Int64), v = .inr (z5) → Go X 116 (wC g ad o) [(5, .long z5)] []) → Go X 110 (wC g ad o) [(0, .ref (ad 71)), (3, .long z3), (5, .long z5), (7, iv x7)] [] := by
    intro o z3 z5 x7 v h k0 k1
    unfold b_X9_nearestCut_110 at h
    refine g_iinc E [(7, iv (x7 + 1)), (0, .ref (ad 71)), (3, .long z3), (5, .long z5)] gdX9_nearestCut_110 3 rfl (by decide) rfl ?_
    refine g_goto E 57 gdX9_nearestCut_113 (by decide) ?_
    refine g_sub E [1, 2, 3, 0] rfl ?_
    exact k0 z5 (x7 + 1) (Option.some.inj h).symm
  have l57 : ∀ (o : OO) (z3 : Int64) (r : (Int64)) (s0 : Int64 × Int), loopW (fun s => l_X9_nearestCut_57 o z3 s.1 s.2) s0 = some r → (∀ (z5 : Int64), r = (z5) → Go X 116 (wC g ad o) [(5, .long z5)] []) → Go X 57 (wC g ad o) [(0, .ref (ad 71)), (3, .long z3), (5, .long s0.1), (7, iv s0.2)] [] := by
    intro o z3 r s0 h k1
    refine loop_rule (Head := fun s0 => Go X 57 (wC g ad o) [(0, .ref (ad 71)), (3, .long z3), (5, .long s0.1), (7, iv s0.2)] []) h ?_
    intro s v h kk kx
    obtain ⟨z5, x7⟩ := s
    have h : l_X9_nearestCut_57 o z3 z5 x7 = some v := h
    have k0 : ∀ (z5 : Int64) (x7 : Int), v = .inl (z5, x7) → Go X 57 (wC g ad o) [(0, .ref (ad 71)), (3, .long z3), (5, .long z5), (7, iv x7)] [] := fun z5 x7 e => kk (z5, x7) e
    have k1 : ∀ (z5 : Int64), v = .inr (z5) → Go X 116 (wC g ad o) [(5, .long z5)] [] := fun z5 e => k1 z5 (kx _ e).symm
    unfold l_X9_nearestCut_57 at h
    refine g_iload E gdX9_nearestCut_57 3 rfl ?_
    refine g_bipush E gdX9_nearestCut_59 (by decide) ?_
    refine g_icmp_ge E 116 gdX9_nearestCut_61 (by decide) h (fun h => ?_) (fun h => ?_)
    ·
      refine g_sub E [2] rfl ?_
      exact k1 z5 (Option.some.inj h).symm
    ·
      refine g_aload_n E gdX9_nearestCut_64 rfl 0 rfl ?_
      refine g_get (T := TX9) E fw_X9 71 (wC_71 g ad o) rfl 1 (by decide) w_440 rfl rfl gdX9_nearestCut_65 ?_
      refine g_iload E gdX9_nearestCut_68 3 rfl ?_
      obtain ⟨hi1, h⟩ := qIn_of h
      refine g_iald E 73 (wC_73 g ad o) (by decide) hi1 gdX9_nearestCut_70 ?_
      obtain ⟨n2, e_n2, h⟩ := qNm_of h
      refine g_nmi e_n2 ?_
      refine g_bipush E gdX9_nearestCut_71 (by decide) ?_
      refine g_icmp_eq E 110 gdX9_nearestCut_73 (by decide) h (fun h => ?_) (fun h => ?_)
      ·
        exact j110 o z3 z5 x7 v h k0 k1
      ·
        refine g_aload_n E gdX9_nearestCut_76 rfl 0 rfl ?_
        refine g_get (T := TX9) E fw_X9 71 (wC_71 g ad o) rfl 1 (by decide) w_440 rfl rfl gdX9_nearestCut_77 ?_
        refine g_bipush E gdX9_nearestCut_80 (by decide) ?_
        refine g_iload E gdX9_nearestCut_82 3 rfl ?_
        refine g_iadd E gdX9_nearestCut_84 ?_
        obtain ⟨hi3, h⟩ := qIn_of h
        refine g_iald E 73 (wC_73 g ad o) (by decide) hi3 gdX9_nearestCut_85 ?_
        obtain ⟨n4, e_n4, h⟩ := qNm_of h
        refine g_nmi e_n4 ?_
        refine g_bipush E gdX9_nearestCut_86 (by decide) ?_
        refine g_icmp_ne E 110 gdX9_nearestCut_88 (by decide) h (fun h => ?_) (fun h => ?_)
        ·
          exact j110 o z3 z5 x7 v h k0 k1
        ·
          refine g_lload_n E gdX9_nearestCut_91 rfl 1 rfl ?_
          refine g_iload E gdX9_nearestCut_92 3 rfl ?_
          obtain ⟨r5, hc6, h⟩ := qB_of h
          refine g_Si (r := r5) (As := [.long z3, iv x7]) (rest := []) (w := wC g ad o) E (c_X3_has l g (wC g ad o) z3 x7 r5 hc6) okm_X3_has w_839 w_1334 rfl rfl (Nat.le_of_ble_eq_true rfl) ⟨Nat.le_of_ble_eq_true rfl, Nat.le_of_ble_eq_true rfl⟩ gdX9_nearestCut_94 ?_
          refine g_if_eq E 110 gdX9_nearestCut_97 (by decide) h (fun h => ?_) (fun h => ?_)
          ·
            exact j110 o z3 z5 x7 v h k0 k1
          ·
            refine g_lload E gdX9_nearestCut_100 2 rfl ?_
            refine g_iload E gdX9_nearestCut_102 3 rfl ?_
            obtain ⟨p7, hc8, h⟩ := qB_of h
            refine g_Sl (r := p7) (As := [iv x7]) (rest := [.long z5]) (w := wC g ad o) E (c_X3_bit l g (wC g ad o) x7 p7 hc8) okm_X3_bit w_842 w_1328 rfl rfl (Nat.le_of_ble_eq_true rfl) ⟨Nat.le_of_ble_eq_true rfl, Nat.le_of_ble_eq_true rfl⟩ gdX9_nearestCut_104 ?_
            refine g_lor E gdX9_nearestCut_107 ?_
            obtain ⟨m9, e_m9, h⟩ := qNm_of h
            refine g_nml e_m9 ?_
            refine g_lstore E [(5, .long m9), (0, .ref (ad 71)), (3, .long z3), (7, iv x7)] gdX9_nearestCut_108 (by decide) rfl ?_
            refine g_sub E [1, 2, 0, 3] rfl ?_
            exact j110 o z3 m9 x7 v h k0 k1
  have j57 : ∀ (o : OO) (z3 : Int64) (z5 : Int64) (x7 : Int), e_X9_nearestCut_57 o z3 z5 x7 = some v → Go X 57 (wC g ad o) [(0, .ref (ad 71)), (3, .long z3), (5, .long z5), (7, iv x7)] [] := by
    intro o z3 z5 x7 h
    unfold e_X9_nearestCut_57 at h
    obtain ⟨r, hr, h⟩ := qB_of h
    refine l57 o z3 r _ hr ?_
    ·
      intro u0 e
      have e := e.symm
      subst e
      have h : b_X9_nearestCut_116 o u0 = some v := h
      exact j116 o u0 h
  have j51 : ∀ (o : OO) (z3 : Int64), b_X9_nearestCut_51 o z3 = some v → Go X 51 (wC g ad o) [(0, .ref (ad 71)), (3, .long z3)] [] := by
    intro o z3 h
    unfold b_X9_nearestCut_51 at h
    refine g_lconst (v := 0) E gdX9_nearestCut_51 (by decide) ?_
    obtain ⟨m10, e_m10, h⟩ := qNm_of h
    refine g_nml e_m10 ?_
    refine g_lstore E [(5, .long m10), (0, .ref (ad 71)), (3, .long z3)] gdX9_nearestCut_52 (by decide) rfl ?_
    refine g_iconst E gdX9_nearestCut_54 ?_
    refine g_istore E [(7, iv 0), (5, .long m10), (0, .ref (ad 71)), (3, .long z3)] gdX9_nearestCut_55 (by decide) rfl ?_
    refine g_sub E [2, 3, 1, 0] rfl ?_
    exact j57 o z3 m10 0 h
  have j36 : ∀ (o : OO) (z3 : Int64), b_X9_nearestCut_36 o z3 = some v → Go X 36 (wC g ad o) [(0, .ref (ad 71)), (3, .long z3)] [] := by
    intro o z3 h
    unfold b_X9_nearestCut_36 at h
    refine g_goto E 51 gdX9_nearestCut_36 (by decide) ?_
    exact j51 o z3 h
  have l19 : ∀ (x1 : Int) (x2 : Int) (z3 : Int64) (r : (OO) ⊕ (OO)) (s0 : OO × Int), loopW (fun s => l_X9_nearestCut_19 x1 x2 z3 s.1 s.2) s0 = some r → (∀ (o : OO), r = (.inl o) → Go X 36 (wC g ad o) [(0, .ref (ad 71)), (3, .long z3)] []) → (∀ (o : OO), r = (.inr o) → Go X 51 (wC g ad o) [(0, .ref (ad 71)), (3, .long z3)] []) → Go X 19 (wC g ad s0.1) [(0, .ref (ad 71)), (1, iv x1), (2, iv x2), (3, .long z3), (5, iv s0.2)] [] := by
    intro x1 x2 z3 r s0 h k1 k2
    refine loop_rule (Head := fun s0 => Go X 19 (wC g ad s0.1) [(0, .ref (ad 71)), (1, iv x1), (2, iv x2), (3, .long z3), (5, iv s0.2)] []) h ?_
    intro s v h kk kx
    obtain ⟨o, x5⟩ := s
    have h : l_X9_nearestCut_19 x1 x2 z3 o x5 = some v := h
    have k0 : ∀ (o : OO) (x5 : Int), v = .inl (o, x5) → Go X 19 (wC g ad o) [(0, .ref (ad 71)), (1, iv x1), (2, iv x2), (3, .long z3), (5, iv x5)] [] := fun o x5 e => kk (o, x5) e
    have k1 : ∀ (o : OO), v = .inr (.inl o) → Go X 36 (wC g ad o) [(0, .ref (ad 71)), (3, .long z3)] [] := fun o e => k1 o (kx _ e).symm
    have k2 : ∀ (o : OO), v = .inr (.inr o) → Go X 51 (wC g ad o) [(0, .ref (ad 71)), (3, .long z3)] [] := fun o e => k2 o (kx _ e).symm
    unfold l_X9_nearestCut_19 at h
    refine g_iload E gdX9_nearestCut_19 4 rfl ?_
    refine g_bipush E gdX9_nearestCut_21 (by decide) ?_
    refine g_icmp_ge E 51 gdX9_nearestCut_23 (by decide) h (fun h => ?_) (fun h => ?_)
    ·
      refine g_sub E [0, 3] rfl ?_
      exact k2 o (Option.some.inj h).symm
    ·
      refine g_aload_n E gdX9_nearestCut_26 rfl 0 rfl ?_
      refine g_iload_n E gdX9_nearestCut_27 rfl 1 rfl ?_
      refine g_iload_n E gdX9_nearestCut_28 rfl 2 rfl ?_
      refine g_lload_n E gdX9_nearestCut_29 rfl 3 rfl ?_
      obtain ⟨r11, o13, hc12, h⟩ := qB2_of h
      refine g_Vi (r := r11) (As := [iv x1, iv x2, .long z3]) (rest := []) (w := wC g ad o13) E (c_X9_search l g ad o x1 x2 z3 (r11, o13) hc12) okm_X9_search okw_X9_search w_1342 rfl (wC_71 g ad o) rfl rfl (Nat.le_of_ble_eq_true rfl) ⟨Nat.le_of_ble_eq_true rfl, Nat.le_of_ble_eq_true rfl⟩ gdX9_nearestCut_30 ?_
      refine g_if_ne E 39 gdX9_nearestCut_33 (by decide) h (fun h => ?_) (fun h => ?_)
      ·
        refine g_aload_n E gdX9_nearestCut_39 rfl 0 rfl ?_
        refine g_iload_n E gdX9_nearestCut_40 rfl 1 rfl ?_
        refine g_iload_n E gdX9_nearestCut_41 rfl 2 rfl ?_
        obtain ⟨o16, hc15, h⟩ := qB_of h
        refine g_Vv (As := [iv x1, iv x2]) (rest := []) (w := wC g ad o16) E (c_X9_push l g ad o13 x1 x2 o16 hc15) okm_X9_push okw_X9_push w_1362 rfl (wC_71 g ad o13) rfl rfl (Nat.le_of_ble_eq_true rfl) ⟨Nat.le_of_ble_eq_true rfl, Nat.le_of_ble_eq_true rfl⟩ gdX9_nearestCut_42 ?_
        refine g_iinc E [(5, iv (x5 + 1)), (0, .ref (ad 71)), (1, iv x1), (2, iv x2), (3, .long z3)] gdX9_nearestCut_45 4 rfl (by decide) rfl ?_
        refine g_goto E 19 gdX9_nearestCut_48 (by decide) ?_
        refine g_sub E [1, 2, 3, 4, 0] rfl ?_
        exact k0 o16 (x5 + 1) (Option.some.inj h).symm
      ·
        refine g_sub E [0, 3] rfl ?_
        exact k1 o13 (Option.some.inj h).symm
  have j19 : ∀ (o : OO) (x1 : Int) (x2 : Int) (z3 : Int64) (x5 : Int), e_X9_nearestCut_19 o x1 x2 z3 x5 = some v → Go X 19 (wC g ad o) [(0, .ref (ad 71)), (1, iv x1), (2, iv x2), (3, .long z3), (5, iv x5)] [] := by
    intro o x1 x2 z3 x5 h
    unfold e_X9_nearestCut_19 at h
    obtain ⟨r, hr, h⟩ := qB_of h
    refine l19 x1 x2 z3 r _ hr ?_ ?_
    ·
      intro u0 e
      subst e
      have h : b_X9_nearestCut_36 u0 z3 = some v := h
      exact j36 u0 z3 h
    ·
      intro u0 e
      subst e
      have h : b_X9_nearestCut_51 u0 z3 = some v := h
      exact j51 u0 z3 h
  unfold s_X9_nearestCut at h
  refine g_aload_n E gdX9_nearestCut_0 rfl 0 rfl ?_
  refine g_get (T := TX9) E fw_X9 71 (wC_71 g ad o) rfl 3 (by decide) w_442 rfl rfl gdX9_nearestCut_1 ?_
  refine g_iconst E gdX9_nearestCut_4 ?_
  obtain ⟨o19, hc18, h⟩ := qB_of h
  refine g_Sv (As := [.ref (ad 75), iv 0]) (rest := []) (w := wC g ad o19) E (c_J7_fill_53178__75 l g ad o 0 o19 hc18) okm_J7_fill_53178 w_124 w_1341 rfl rfl (Nat.le_of_ble_eq_true rfl) ⟨Nat.le_of_ble_eq_true rfl, Nat.le_of_ble_eq_true rfl⟩ gdX9_nearestCut_5 ?_
  refine g_aload_n E gdX9_nearestCut_8 rfl 0 rfl ?_
  refine g_get (T := TX9) E fw_X9 71 (wC_71 g ad o19) rfl 4 (by decide) w_443 rfl rfl gdX9_nearestCut_9 ?_
  refine g_iconst E gdX9_nearestCut_12 ?_
  obtain ⟨o22, hc21, h⟩ := qB_of h
  refine g_Sv (As := [.ref (ad 76), iv 0]) (rest := []) (w := wC g ad o22) E (c_J7_fill_53178__76 l g ad o19 0 o22 hc21) okm_J7_fill_53178 w_124 w_1341 rfl rfl (Nat.le_of_ble_eq_true rfl) ⟨Nat.le_of_ble_eq_true rfl, Nat.le_of_ble_eq_true rfl⟩ gdX9_nearestCut_13 ?_
  refine g_iconst E gdX9_nearestCut_16 ?_
  refine g_istore E [(5, iv 0), (0, .ref (ad 71)), (1, iv x1), (2, iv x2), (3, .long z3)] gdX9_nearestCut_17 (by decide) rfl ?_
  refine g_sub E [1, 2, 3, 4, 0] rfl ?_
  exact j19 o22 x1 x2 z3 0 h
set_option maxHeartbeats 4000000 in
set_option maxRecDepth 100000 in
theorem c_X11_stop (l : Launch) (g : GG) (ad : Nat → Nat) (o : OO) (x1 : Int) (x2 : Int) (v : Int × OO) (h : s_X11_stop o x1 x2 = some v) : CI l g yX11_stop cX11_stop 5 (some .int) 4 99 (wC g ad o) [.ref (ad 0), iv x1, iv x2] v.1 (wC g ad v.2) := by
  refine met_I (by decide) (Nat.le_of_ble_eq_true rfl) ?_
  intro X E hQ
  show Go X 0 (wC g ad o) [(0, .ref (ad 0)), (1, iv x1), (2, iv x2)] []
  have j19 : ∀ (o : OO), b_X11_stop_19 o = some v → Go X 19 (wC g ad o) [] [] := by
    intro o h
    unfold b_X11_stop_19 at h
    refine g_iconst E gdX11_stop_19 ?_
    exact g_iret E hQ (by rw [← Option.some.inj h]) (by rw [← Option.some.inj h]) gdX11_stop_20
  have j43 : ∀ (o : OO), b_X11_stop_43 o = some v → Go X 43 (wC g ad o) [] [] := by
    intro o h
    unfold b_X11_stop_43 at h
    refine g_bipush E gdX11_stop_43 (by decide) ?_
    exact g_iret E hQ (by rw [← Option.some.inj h]) (by rw [← Option.some.inj h]) gdX11_stop_45
  unfold s_X11_stop at h
  refine g_iload_n E gdX11_stop_0 rfl 1 rfl ?_
  obtain ⟨r1, hc2, h⟩ := qB_of h
  refine g_Si (r := r1) (As := [iv x1]) (rest := []) (w := wC g ad o) E (c_X3_isCell l g (wC g ad o) x1 r1 hc2) okm_X3_isCell w_622 w_621 rfl rfl (Nat.le_of_ble_eq_true rfl) ⟨Nat.le_of_ble_eq_true rfl, Nat.le_of_ble_eq_true rfl⟩ gdX11_stop_1 ?_
  refine g_if_eq E 19 gdX11_stop_4 (by decide) h (fun h => ?_) (fun h => ?_)
  ·
    refine g_sub E [] rfl ?_
    exact j19 o h
  ·
    refine g_iload_n E gdX11_stop_7 rfl 2 rfl ?_
    obtain ⟨r3, hc4, h⟩ := qB_of h
    refine g_Si (r := r3) (As := [iv x2]) (rest := []) (w := wC g ad o) E (c_X3_isCell l g (wC g ad o) x2 r3 hc4) okm_X3_isCell w_622 w_621 rfl rfl (Nat.le_of_ble_eq_true rfl) ⟨Nat.le_of_ble_eq_true rfl, Nat.le_of_ble_eq_true rfl⟩ gdX11_stop_8 ?_
    refine g_if_eq E 19 gdX11_stop_11 (by decide) h (fun h => ?_) (fun h => ?_)
    ·
      refine g_sub E [] rfl ?_
      exact j19 o h
    ·
      refine g_iload_n E gdX11_stop_14 rfl 1 rfl ?_
      refine g_iload_n E gdX11_stop_15 rfl 2 rfl ?_
      refine g_icmp_ne E 21 gdX11_stop_16 (by decide) h (fun h => ?_) (fun h => ?_)
      ·
        refine g_aload_n E gdX11_stop_21 rfl 0 rfl ?_
        refine g_get (T := TX11) E fw_X11 0 (wC_0 g ad o) rfl 2 (by decide) w_460 rfl rfl gdX11_stop_22 ?_
        refine g_iload_n E gdX11_stop_25 rfl 1 rfl ?_
        obtain ⟨r5, hc6, h⟩ := qB_of h
        refine g_Vi (r := r5) (As := [iv x1]) (rest := []) (w := wC g ad o) E (c_X3_isWater l g ad o x1 r5 hc6) okm_X3_isWater okw_X3_isWater w_651 rfl (wC_7 g ad o) rfl rfl (Nat.le_of_ble_eq_true rfl) ⟨Nat.le_of_ble_eq_true rfl, Nat.le_of_ble_eq_true rfl⟩ gdX11_stop_26 ?_
        refine g_if_ne E 43 gdX11_stop_29 (by decide) h (fun h => ?_) (fun h => ?_)
        ·
          refine g_sub E [] rfl ?_
          exact j43 o h
        ·
          refine g_aload_n E gdX11_stop_32 rfl 0 rfl ?_
          refine g_get (T := TX11) E fw_X11 0 (wC_0 g ad o) rfl 2 (by decide) w_460 rfl rfl gdX11_stop_33 ?_
          refine g_iload_n E gdX11_stop_36 rfl 2 rfl ?_
          obtain ⟨r7, hc8, h⟩ := qB_of h
          refine g_Vi (r := r7) (As := [iv x2]) (rest := []) (w := wC g ad o) E (c_X3_isWater l g ad o x2 r7 hc8) okm_X3_isWater okw_X3_isWater w_651 rfl (wC_7 g ad o) rfl rfl (Nat.le_of_ble_eq_true rfl) ⟨Nat.le_of_ble_eq_true rfl, Nat.le_of_ble_eq_true rfl⟩ gdX11_stop_37 ?_
          refine g_if_eq E 46 gdX11_stop_40 (by decide) h (fun h => ?_) (fun h => ?_)
          ·
            refine g_aload_n E gdX11_stop_46 rfl 0 rfl ?_
            refine g_get (T := TX11) E fw_X11 0 (wC_0 g ad o) rfl 11 (by decide) w_469 rfl rfl gdX11_stop_47 ?_
            refine g_aload_n E gdX11_stop_50 rfl 0 rfl ?_
            refine g_get (T := TX11) E fw_X11 0 (wC_0 g ad o) rfl 2 (by decide) w_460 rfl rfl gdX11_stop_51 ?_
            refine g_aload_n E gdX11_stop_54 rfl 0 rfl ?_
            refine g_iconst E gdX11_stop_55 ?_
            obtain ⟨r9, hc10, h⟩ := qB_of h
            refine g_Vi (r := r9) (As := [iv 0]) (rest := [.ref (ad 7), .ref (ad 71)]) (w := wC g ad o) E (c_X11_inForce l g ad o 0 r9 hc10) okm_X11_inForce okw_X11_inForce w_809 rfl (wC_0 g ad o) rfl rfl (Nat.le_of_ble_eq_true rfl) ⟨Nat.le_of_ble_eq_true rfl, Nat.le_of_ble_eq_true rfl⟩ gdX11_stop_56 ?_
            obtain ⟨o13, hc12, h⟩ := qB_of h
            refine g_Vv (As := [.ref (ad 7), iv r9]) (rest := []) (w := wC g ad o13) E (c_X9_survey l g ad o r9 o13 hc12) okm_X9_survey okw_X9_survey w_1323 rfl (wC_71 g ad o) rfl rfl (Nat.le_of_ble_eq_true rfl) ⟨Nat.le_of_ble_eq_true rfl, Nat.le_of_ble_eq_true rfl⟩ gdX11_stop_59 ?_
            refine g_aload_n E gdX11_stop_62 rfl 0 rfl ?_
            refine g_get (T := TX11) E fw_X11 0 (wC_0 g ad o13) rfl 11 (by decide) w_469 rfl rfl gdX11_stop_63 ?_
            refine g_iload_n E gdX11_stop_66 rfl 1 rfl ?_
            refine g_iload_n E gdX11_stop_67 rfl 2 rfl ?_
            refine g_lconst (v := 0) E gdX11_stop_68 (by decide) ?_
            obtain ⟨r14, hc15, h⟩ := qB_of h
            refine g_Vi (r := r14) (As := [iv x1, iv x2, .long (0 : Int64)]) (rest := []) (w := wC g ad o13) E (c_X9_connects l g ad o13 x1 x2 (0 : Int64) r14 hc15) okm_X9_connects okw_X9_connects w_1329 rfl (wC_71 g ad o13) rfl rfl (Nat.le_of_ble_eq_true rfl) ⟨Nat.le_of_ble_eq_true rfl, Nat.le_of_ble_eq_true rfl⟩ gdX11_stop_69 ?_
            refine g_if_ne E 81 gdX11_stop_72 (by decide) h (fun h => ?_) (fun h => ?_)
            ·
              refine g_aload_n E gdX11_stop_81 rfl 0 rfl ?_
              refine g_get (T := TX11) E fw_X11 0 (wC_0 g ad o13) rfl 3 (by decide) w_461 rfl rfl gdX11_stop_82 ?_
              obtain ⟨p16, hc17, h⟩ := qB_of h
              refine g_Vl (r := p16) (As := []) (rest := []) (w := wC g ad o13) E (c_X1_standingCells l g ad o13 p16 hc17) okm_X1_standingCells okw_X1_standingCells w_1335 rfl (wC_10 g ad o13) rfl rfl (Nat.le_of_ble_eq_true rfl) ⟨Nat.le_of_ble_eq_true rfl, Nat.le_of_ble_eq_true rfl⟩ gdX11_stop_85 ?_
              refine g_iload_n E gdX11_stop_88 rfl 1 rfl ?_
              obtain ⟨p18, hc19, h⟩ := qB_of h
              refine g_Sl (r := p18) (As := [iv x1]) (rest := [.long p16]) (w := wC g ad o13) E (c_X3_bit l g (wC g ad o13) x1 p18 hc19) okm_X3_bit w_842 w_1336 rfl rfl (Nat.le_of_ble_eq_true rfl) ⟨Nat.le_of_ble_eq_true rfl, Nat.le_of_ble_eq_true rfl⟩ gdX11_stop_89 ?_
              refine g_iload_n E gdX11_stop_92 rfl 2 rfl ?_
              obtain ⟨p20, hc21, h⟩ := qB_of h
              refine g_Sl (r := p20) (As := [iv x2]) (rest := [.long p18, .long p16]) (w := wC g ad o13) E (c_X3_bit l g (wC g ad o13) x2 p20 hc21) okm_X3_bit w_842 w_1336 rfl rfl (Nat.le_of_ble_eq_true rfl) ⟨Nat.le_of_ble_eq_true rfl, Nat.le_of_ble_eq_true rfl⟩ gdX11_stop_93 ?_
              refine g_lor E gdX11_stop_96 ?_
              refine g_ldc2 E gdX11_stop_97 w_1185 ?_
              refine g_lxor E gdX11_stop_100 ?_
              refine g_land E gdX11_stop_101 ?_
              obtain ⟨m22, e_m22, h⟩ := qNm_of h
              refine g_nml e_m22 ?_
              refine g_lstore_n E [(3, .long m22), (0, .ref (ad 0)), (1, iv x1), (2, iv x2)] gdX11_stop_102 rfl (by decide) rfl ?_
              refine g_aload_n E gdX11_stop_103 rfl 1 rfl ?_
              refine g_get (T := TX11) E fw_X11 0 (wC_0 g ad o13) rfl 11 (by decide) w_469 rfl rfl gdX11_stop_104 ?_
              refine g_iload_n E gdX11_stop_107 rfl 2 rfl ?_
              refine g_iload_n E gdX11_stop_108 rfl 3 rfl ?_
              refine g_lload_n E gdX11_stop_109 rfl 0 rfl ?_
              obtain ⟨r23, hc24, h⟩ := qB_of h
              refine g_Vi (r := r23) (As := [iv x1, iv x2, .long m22]) (rest := []) (w := wC g ad o13) E (c_X9_connects l g ad o13 x1 x2 m22 r23 hc24) okm_X9_connects okw_X9_connects w_1329 rfl (wC_71 g ad o13) rfl rfl (Nat.le_of_ble_eq_true rfl) ⟨Nat.le_of_ble_eq_true rfl, Nat.le_of_ble_eq_true rfl⟩ gdX11_stop_110 ?_
              refine g_if_eq E 119 gdX11_stop_113 (by decide) h (fun h => ?_) (fun h => ?_)
              ·
                refine g_aload_n E gdX11_stop_119 rfl 1 rfl ?_
                refine g_aload_n E gdX11_stop_120 rfl 1 rfl ?_
                refine g_get (T := TX11) E fw_X11 0 (wC_0 g ad o13) rfl 11 (by decide) w_469 rfl rfl gdX11_stop_121 ?_
                refine g_iload_n E gdX11_stop_124 rfl 2 rfl ?_
                refine g_iload_n E gdX11_stop_125 rfl 3 rfl ?_
                refine g_lload_n E gdX11_stop_126 rfl 0 rfl ?_
                obtain ⟨p25, o27, hc26, h⟩ := qB2_of h
                refine g_Vl (r := p25) (As := [iv x1, iv x2, .long m22]) (rest := [.ref (ad 0)]) (w := wC g ad o27) E (c_X9_nearestCut l g ad o13 x1 x2 m22 (p25, o27) hc26) okm_X9_nearestCut okw_X9_nearestCut w_1337 rfl (wC_71 g ad o13) rfl rfl (Nat.le_of_ble_eq_true rfl) ⟨Nat.le_of_ble_eq_true rfl, Nat.le_of_ble_eq_true rfl⟩ gdX11_stop_127 ?_
                obtain ⟨o28, e_o28, h⟩ := qNm_of h
                refine g_putl (T := TX11) (ws' := wC g ad o28) E fw_X11 tyX11 tyX11_ok nmX11 0 (wC_0 g ad o27) rfl 16 (by decide) w_474 rfl rfl (by decide +kernel) (Nat.le_of_ble_eq_true rfl) (by rw [e_o28]; exact wC_p0_16 g ad o27 _) gdX11_stop_130 ?_
                refine g_aload_n E gdX11_stop_133 rfl 1 rfl ?_
                refine g_get (T := TX11) E fw_X11 0 (wC_0 g ad o28) rfl 16 (by decide) w_474 rfl rfl gdX11_stop_134 ?_
                obtain ⟨r29, hc30, h⟩ := qB_of h
                refine g_Si (r := r29) (As := [.long (o28.2 0 16)]) (rest := []) (w := wC g ad o28) E (c_J13_bitCount_95d88 l g (wC g ad o28) (o28.2 0 16) r29 hc30) okm_J13_bitCount_95d88 w_936 w_1200 rfl rfl (Nat.le_of_ble_eq_true rfl) ⟨Nat.le_of_ble_eq_true rfl, Nat.le_of_ble_eq_true rfl⟩ gdX11_stop_137 ?_
                exact g_iret E hQ (by rw [← Option.some.inj h]) (by rw [← Option.some.inj h]) gdX11_stop_140
              ·
                refine g_bipush E gdX11_stop_116 (by decide) ?_
                exact g_iret E hQ (by rw [← Option.some.inj h]) (by rw [← Option.some.inj h]) gdX11_stop_118
            ·
              refine g_aload_n E gdX11_stop_75 rfl 0 rfl ?_
              refine g_iconst E gdX11_stop_76 ?_
              obtain ⟨r31, o33, hc32, h⟩ := qB2_of h
              refine g_Vi (r := r31) (As := [iv 1]) (rest := []) (w := wC g ad o33) E (c_X11_found l g ad o13 1 (r31, o33) hc32) okm_X11_found okw_X11_found w_521 rfl (wC_0 g ad o13) rfl rfl (Nat.le_of_ble_eq_true rfl) ⟨Nat.le_of_ble_eq_true rfl, Nat.le_of_ble_eq_true rfl⟩ gdX11_stop_77 ?_
              exact g_iret E hQ (by rw [← Option.some.inj h]) (by rw [← Option.some.inj h]) gdX11_stop_80
          ·
            refine g_sub E [] rfl ?_
            exact j43 o h
      ·
        refine g_sub E [] rfl ?_
        exact j19 o h
set_option maxHeartbeats 4000000 in
set_option maxRecDepth 100000 in
theorem c_X1_worthBy (l : Launch) (g : GG) (ad : Nat → Nat) (o : OO) (x1 : Int) (x2 : Int) (v : Int) (h : s_X1_worthBy o x1 x2 = some v) : CI l g yX1_worthBy cX1_worthBy 5 (some .int) 0 0 (wC g ad o) [.ref (ad 10), iv x1, iv x2] v (wC g ad o) := by
  refine met_I (by decide) (Nat.le_of_ble_eq_true rfl) ?_
  intro X E hQ
  show Go X 0 (wC g ad o) [(0, .ref (ad 10)), (1, iv x1), (2, iv x2)] []
  have j51 : ∀ (x3 : Int), b_X1_worthBy_51 o x3 = some v → Go X 51 (wC g ad o) [(3, iv x3)] [] := by
    intro x3 h
    unfold b_X1_worthBy_51 at h
    refine g_iload_n E gdX1_worthBy_51 rfl 0 rfl ?_
    exact g_iret E hQ (Option.some.inj h) rfl gdX1_worthBy_52
  have j45 : ∀ (x1 : Int) (x2 : Int) (x3 : Int) (x4 : Int) (v : (Int × Int) ⊕ ((Int))), b_X1_worthBy_45 o x1 x2 x3 x4 = some v → (∀ (x3 : Int) (x4 : Int), v = .inl (x3, x4) → Go X 6 (wC g ad o) [(0, .ref (ad 10)), (1, iv x1), (2, iv x2), (3, iv x3), (4, iv x4)] []) → (∀ (x3 : Int), v = .inr (x3) → Go X 51 (wC g ad o) [(3, iv x3)] []) → Go X 45 (wC g ad o) [(0, .ref (ad 10)), (1, iv x1), (2, iv x2), (3, iv x3), (4, iv x4)] [] := by
    intro x1 x2 x3 x4 v h k0 k1
    unfold b_X1_worthBy_45 at h
    refine g_iinc E [(4, iv (x4 + 1)), (0, .ref (ad 10)), (1, iv x1), (2, iv x2), (3, iv x3)] gdX1_worthBy_45 4 rfl (by decide) rfl ?_
    refine g_goto E 6 gdX1_worthBy_48 (by decide) ?_
    refine g_sub E [1, 2, 3, 4, 0] rfl ?_
    exact k0 x3 (x4 + 1) (Option.some.inj h).symm
  have l6 : ∀ (x1 : Int) (x2 : Int) (r : (Int)) (s0 : Int × Int), loopW (fun s => l_X1_worthBy_6 o x1 x2 s.1 s.2) s0 = some r → (∀ (x3 : Int), r = (x3) → Go X 51 (wC g ad o) [(3, iv x3)] []) → Go X 6 (wC g ad o) [(0, .ref (ad 10)), (1, iv x1), (2, iv x2), (3, iv s0.1), (4, iv s0.2)] [] := by
    intro x1 x2 r s0 h k1
    refine loop_rule (Head := fun s0 => Go X 6 (wC g ad o) [(0, .ref (ad 10)), (1, iv x1), (2, iv x2), (3, iv s0.1), (4, iv s0.2)] []) h ?_
    intro s v h kk kx
    obtain ⟨x3, x4⟩ := s
    have h : l_X1_worthBy_6 o x1 x2 x3 x4 = some v := h
    have k0 : ∀ (x3 : Int) (x4 : Int), v = .inl (x3, x4) → Go X 6 (wC g ad o) [(0, .ref (ad 10)), (1, iv x1), (2, iv x2), (3, iv x3), (4, iv x4)] [] := fun x3 x4 e => kk (x3, x4) e
    have k1 : ∀ (x3 : Int), v = .inr (x3) → Go X 51 (wC g ad o) [(3, iv x3)] [] := fun x3 e => k1 x3 (kx _ e).symm
    unfold l_X1_worthBy_6 at h
    refine g_iload E gdX1_worthBy_6 4 rfl ?_
    refine g_aload_n E gdX1_worthBy_8 rfl 0 rfl ?_
    refine g_get (T := TX1) E fw_X1 10 (wC_10 g ad o) rfl 13 (by decide) w_173 rfl rfl gdX1_worthBy_9 ?_
    refine g_icmp_ge E 51 gdX1_worthBy_12 (by decide) h (fun h => ?_) (fun h => ?_)
    ·
      refine g_sub E [3] rfl ?_
      exact k1 x3 (Option.some.inj h).symm
    ·
      refine g_aload_n E gdX1_worthBy_15 rfl 0 rfl ?_
      refine g_get (T := TX1) E fw_X1 10 (wC_10 g ad o) rfl 9 (by decide) w_169 rfl rfl gdX1_worthBy_16 ?_
      refine g_iload E gdX1_worthBy_19 4 rfl ?_
      obtain ⟨hi1, h⟩ := qIn_of h
      refine g_iald E 20 (wC_20 g ad o) (by decide) hi1 gdX1_worthBy_21 ?_
      obtain ⟨n2, e_n2, h⟩ := qNm_of h
      refine g_nmi e_n2 ?_
      refine g_iload_n E gdX1_worthBy_22 rfl 2 rfl ?_
      refine g_icmp_gt E 51 gdX1_worthBy_23 (by decide) h (fun h => ?_) (fun h => ?_)
      ·
        refine g_sub E [3] rfl ?_
        exact k1 x3 (Option.some.inj h).symm
      ·
        refine g_aload_n E gdX1_worthBy_26 rfl 0 rfl ?_
        refine g_get (T := TX1) E fw_X1 10 (wC_10 g ad o) rfl 8 (by decide) w_168 rfl rfl gdX1_worthBy_27 ?_
        refine g_iload E gdX1_worthBy_30 4 rfl ?_
        obtain ⟨hi3, h⟩ := qIn_of h
        refine g_iald E 19 (wC_19 g ad o) (by decide) hi3 gdX1_worthBy_32 ?_
        obtain ⟨n4, e_n4, h⟩ := qNm_of h
        refine g_nmi e_n4 ?_
        refine g_iload_n E gdX1_worthBy_33 rfl 1 rfl ?_
        refine g_icmp_ne E 45 gdX1_worthBy_34 (by decide) h (fun h => ?_) (fun h => ?_)
        ·
          exact j45 x1 x2 x3 x4 v h k0 k1
        ·
          refine g_aload_n E gdX1_worthBy_37 rfl 0 rfl ?_
          refine g_get (T := TX1) E fw_X1 10 (wC_10 g ad o) rfl 10 (by decide) w_170 rfl rfl gdX1_worthBy_38 ?_
          refine g_iload E gdX1_worthBy_41 4 rfl ?_
          obtain ⟨hi5, h⟩ := qIn_of h
          refine g_iald E 21 (wC_21 g ad o) (by decide) hi5 gdX1_worthBy_43 ?_
          obtain ⟨n6, e_n6, h⟩ := qNm_of h
          refine g_nmi e_n6 ?_
          refine g_istore_n E [(3, iv n6), (0, .ref (ad 10)), (1, iv x1), (2, iv x2), (4, iv x4)] gdX1_worthBy_44 rfl (by decide) rfl ?_
          refine g_sub E [1, 2, 3, 0, 4] rfl ?_
          exact j45 x1 x2 n6 x4 v h k0 k1
  have j6 : ∀ (x1 : Int) (x2 : Int) (x3 : Int) (x4 : Int), e_X1_worthBy_6 o x1 x2 x3 x4 = some v → Go X 6 (wC g ad o) [(0, .ref (ad 10)), (1, iv x1), (2, iv x2), (3, iv x3), (4, iv x4)] [] := by
    intro x1 x2 x3 x4 h
    unfold e_X1_worthBy_6 at h
    obtain ⟨r, hr, h⟩ := qB_of h
    refine l6 x1 x2 r _ hr ?_
    ·
      intro u0 e
      have e := e.symm
      subst e
      have h : b_X1_worthBy_51 o u0 = some v := h
      exact j51 u0 h
  unfold s_X1_worthBy at h
  refine g_bipush E gdX1_worthBy_0 (by decide) ?_
  refine g_istore_n E [(3, iv (-9)), (0, .ref (ad 10)), (1, iv x1), (2, iv x2)] gdX1_worthBy_2 rfl (by decide) rfl ?_
  refine g_iconst E gdX1_worthBy_3 ?_
  refine g_istore E [(4, iv 0), (3, iv (-9)), (0, .ref (ad 10)), (1, iv x1), (2, iv x2)] gdX1_worthBy_4 (by decide) rfl ?_
  refine g_sub E [2, 3, 4, 1, 0] rfl ?_
  exact j6 x1 x2 (-9) 0 h
set_option maxHeartbeats 4000000 in
set_option maxRecDepth 100000 in
theorem c_X1_firstWorth (l : Launch) (g : GG) (ad : Nat → Nat) (o : OO) (x1 : Int) (v : Int) (h : s_X1_firstWorth o x1 = some v) : CI l g yX1_firstWorth cX1_firstWorth 3 (some .int) 0 0 (wC g ad o) [.ref (ad 10), iv x1] v (wC g ad o) := by
  refine met_I (by decide) (Nat.le_of_ble_eq_true rfl) ?_
  intro X E hQ
  show Go X 0 (wC g ad o) [(0, .ref (ad 10)), (1, iv x1)] []
  have j20 : ∀ (x2 : Int), b_X1_firstWorth_20 o x2 = some v → Go X 20 (wC g ad o) [(0, .ref (ad 10)), (2, iv x2)] [] := by
    intro x2 h
    unfold b_X1_firstWorth_20 at h
    refine g_aload_n E gdX1_firstWorth_20 rfl 0 rfl ?_
    refine g_get (T := TX1) E fw_X1 10 (wC_10 g ad o) rfl 10 (by decide) w_170 rfl rfl gdX1_firstWorth_21 ?_
    refine g_iload_n E gdX1_firstWorth_24 rfl 1 rfl ?_
    obtain ⟨hi1, h⟩ := qIn_of h
    refine g_iald E 21 (wC_21 g ad o) (by decide) hi1 gdX1_firstWorth_25 ?_
    obtain ⟨n2, e_n2, h⟩ := qNm_of h
    refine g_nmi e_n2 ?_
    exact g_iret E hQ (Option.some.inj h) rfl gdX1_firstWorth_26
  have j33 : b_X1_firstWorth_33 o = some v → Go X 33 (wC g ad o) [] [] := by
    intro h
    unfold b_X1_firstWorth_33 at h
    refine g_bipush E gdX1_firstWorth_33 (by decide) ?_
    exact g_iret E hQ (Option.some.inj h) rfl gdX1_firstWorth_35
  have l2 : ∀ (x1 : Int) (r : (Int) ⊕ (Unit)) (s0 : Int), loopW (fun s => l_X1_firstWorth_2 o x1 s) s0 = some r → (∀ (x2 : Int), r = (.inl x2) → Go X 20 (wC g ad o) [(0, .ref (ad 10)), (2, iv x2)] []) → (r = (.inr ()) → Go X 33 (wC g ad o) [] []) → Go X 2 (wC g ad o) [(0, .ref (ad 10)), (1, iv x1), (2, iv s0)] [] := by
    intro x1 r s0 h k1 k2
    refine loop_rule (Head := fun s0 => Go X 2 (wC g ad o) [(0, .ref (ad 10)), (1, iv x1), (2, iv s0)] []) h ?_
    intro s v h kk kx
    obtain ⟨x2, hs⟩ : ∃ q, q = s := ⟨_, rfl⟩
    subst hs
    have h : l_X1_firstWorth_2 o x1 x2 = some v := h
    have k0 : ∀ (x2 : Int), v = .inl x2 → Go X 2 (wC g ad o) [(0, .ref (ad 10)), (1, iv x1), (2, iv x2)] [] := fun x2 e => kk x2 e
    have k1 : ∀ (x2 : Int), v = .inr (.inl x2) → Go X 20 (wC g ad o) [(0, .ref (ad 10)), (2, iv x2)] [] := fun x2 e => k1 x2 (kx _ e).symm
    have k2 : v = .inr (.inr ()) → Go X 33 (wC g ad o) [] [] := fun e => k2 (kx _ e).symm
    unfold l_X1_firstWorth_2 at h
    refine g_iload_n E gdX1_firstWorth_2 rfl 2 rfl ?_
    refine g_aload_n E gdX1_firstWorth_3 rfl 0 rfl ?_
    refine g_get (T := TX1) E fw_X1 10 (wC_10 g ad o) rfl 13 (by decide) w_173 rfl rfl gdX1_firstWorth_4 ?_
    refine g_icmp_ge E 33 gdX1_firstWorth_7 (by decide) h (fun h => ?_) (fun h => ?_)
    ·
      refine g_sub E [] rfl ?_
      exact k2  (Option.some.inj h).symm
    ·
      refine g_aload_n E gdX1_firstWorth_10 rfl 0 rfl ?_
      refine g_get (T := TX1) E fw_X1 10 (wC_10 g ad o) rfl 8 (by decide) w_168 rfl rfl gdX1_firstWorth_11 ?_
      refine g_iload_n E gdX1_firstWorth_14 rfl 2 rfl ?_
      obtain ⟨hi3, h⟩ := qIn_of h
      refine g_iald E 19 (wC_19 g ad o) (by decide) hi3 gdX1_firstWorth_15 ?_
      obtain ⟨n4, e_n4, h⟩ := qNm_of h
      refine g_nmi e_n4 ?_
      refine g_iload_n E gdX1_firstWorth_16 rfl 1 rfl ?_
      refine g_icmp_ne E 27 gdX1_firstWorth_17 (by decide) h (fun h => ?_) (fun h => ?_)
      ·
        refine g_iinc E [(2, iv (x2 + 1)), (0, .ref (ad 10)), (1, iv x1)] gdX1_firstWorth_27 2 rfl (by decide) rfl ?_
        refine g_goto E 2 gdX1_firstWorth_30 (by decide) ?_
        refine g_sub E [1, 2, 0] rfl ?_
        exact k0 (x2 + 1) (Option.some.inj h).symm
      ·
        refine g_sub E [0, 2] rfl ?_
        exact k1 x2 (Option.some.inj h).symm
  have j2 : ∀ (x1 : Int) (x2 : Int), e_X1_firstWorth_2 o x1 x2 = some v → Go X 2 (wC g ad o) [(0, .ref (ad 10)), (1, iv x1), (2, iv x2)] [] := by
    intro x1 x2 h
    unfold e_X1_firstWorth_2 at h
    obtain ⟨r, hr, h⟩ := qB_of h
    refine l2 x1 r _ hr ?_ ?_
    ·
      intro u0 e
      subst e
      have h : b_X1_firstWorth_20 o u0 = some v := h
      exact j20 u0 h
    ·
      intro e
      subst e
      have h : b_X1_firstWorth_33 o = some v := h
      exact j33  h
  unfold s_X1_firstWorth at h
  refine g_iconst E gdX1_firstWorth_0 ?_
  refine g_istore_n E [(2, iv 0), (0, .ref (ad 10)), (1, iv x1)] gdX1_firstWorth_1 rfl (by decide) rfl ?_
  refine g_sub E [1, 2, 0] rfl ?_
  exact j2 x1 0 h
set_option maxHeartbeats 4000000 in
set_option maxRecDepth 100000 in
theorem c_X5_turnOut (l : Launch) (g : GG) (ad : Nat → Nat) (o : OO) (x1 : Int) (v : Int64 × OO) (h : s_X5_turnOut o x1 = some v) : CL l g yX5_turnOut cX5_turnOut 5 (some .long) 0 0 (wC g ad o) [.ref (ad 23), iv x1] v.1 (wC g ad v.2) := by
  refine met_L (by decide) (Nat.le_of_ble_eq_true rfl) ?_
  intro X E hQ
  show Go X 0 (wC g ad o) [(0, .ref (ad 23)), (1, iv x1)] []
  have j50 : ∀ (o : OO) (z2 : Int64), b_X5_turnOut_50 o z2 = some v → Go X 50 (wC g ad o) [(2, .long z2)] [] := by
    intro o z2 h
    unfold b_X5_turnOut_50 at h
    refine g_lload_n E gdX5_turnOut_50 rfl 0 rfl ?_
    exact g_lret E hQ (by rw [← Option.some.inj h]) (by rw [← Option.some.inj h]) gdX5_turnOut_51
  have j44 : ∀ (o : OO) (x1 : Int) (z2 : Int64) (x4 : Int) (v : (OO × Int64 × Int) ⊕ ((OO × Int64))), b_X5_turnOut_44 o x1 z2 x4 = some v → (∀ (o : OO) (z2 : Int64) (x4 : Int), v = .inl (o, z2, x4) → Go X 5 (wC g ad o) [(0, .ref (ad 23)), (1, iv x1), (2, .long z2), (4, iv x4)] []) → (∀ (o : OO) (z2 : Int64), v = .inr ((o, z2)) → Go X 50 (wC g ad o) [(2, .long z2)] []) → Go X 44 (wC g ad o) [(0, .ref (ad 23)), (1, iv x1), (2, .long z2), (4, iv x4)] [] := by
    intro o x1 z2 x4 v h k0 k1
    unfold b_X5_turnOut_44 at h
    refine g_iinc E [(4, iv (x4 + 1)), (0, .ref (ad 23)), (1, iv x1), (2, .long z2)] gdX5_turnOut_44 3 rfl (by decide) rfl ?_
    refine g_goto E 5 gdX5_turnOut_47 (by decide) ?_
    refine g_sub E [1, 2, 3, 0] rfl ?_
    exact k0 o z2 (x4 + 1) (Option.some.inj h).symm
  have l5 : ∀ (x1 : Int) (r : (OO × Int64)) (s0 : OO × Int64 × Int), loopW (fun s => l_X5_turnOut_5 x1 s.1 s.2.1 s.2.2) s0 = some r → (∀ (o : OO) (z2 : Int64), r = ((o, z2)) → Go X 50 (wC g ad o) [(2, .long z2)] []) → Go X 5 (wC g ad s0.1) [(0, .ref (ad 23)), (1, iv x1), (2, .long s0.2.1), (4, iv s0.2.2)] [] := by
    intro x1 r s0 h k1
    refine loop_rule (Head := fun s0 => Go X 5 (wC g ad s0.1) [(0, .ref (ad 23)), (1, iv x1), (2, .long s0.2.1), (4, iv s0.2.2)] []) h ?_
    intro s v h kk kx
    obtain ⟨o, z2, x4⟩ := s
    have h : l_X5_turnOut_5 x1 o z2 x4 = some v := h
    have k0 : ∀ (o : OO) (z2 : Int64) (x4 : Int), v = .inl (o, z2, x4) → Go X 5 (wC g ad o) [(0, .ref (ad 23)), (1, iv x1), (2, .long z2), (4, iv x4)] [] := fun o z2 x4 e => kk (o, z2, x4) e
    have k1 : ∀ (o : OO) (z2 : Int64), v = .inr ((o, z2)) → Go X 50 (wC g ad o) [(2, .long z2)] [] := fun o z2 e => k1 o z2 (kx _ e).symm
    unfold l_X5_turnOut_5 at h
    refine g_iload E gdX5_turnOut_5 3 rfl ?_
    refine g_aload_n E gdX5_turnOut_7 rfl 0 rfl ?_
    refine g_get (T := TX5) E fw_X5 23 (wC_23 g ad o) rfl 4 (by decide) w_214 rfl rfl gdX5_turnOut_8 ?_
    refine g_icmp_ge E 50 gdX5_turnOut_11 (by decide) h (fun h => ?_) (fun h => ?_)
    ·
      refine g_sub E [2] rfl ?_
      exact k1 o z2 (Option.some.inj h).symm
    ·
      refine g_aload_n E gdX5_turnOut_14 rfl 0 rfl ?_
      refine g_get (T := TX5) E fw_X5 23 (wC_23 g ad o) rfl 0 (by decide) w_210 rfl rfl gdX5_turnOut_15 ?_
      refine g_iload E gdX5_turnOut_18 3 rfl ?_
      obtain ⟨hi1, h⟩ := qIn_of h
      refine g_iald E 24 (wC_24 g ad o) (by decide) hi1 gdX5_turnOut_20 ?_
      obtain ⟨n2, e_n2, h⟩ := qNm_of h
      refine g_nmi e_n2 ?_
      refine g_iload_n E gdX5_turnOut_21 rfl 1 rfl ?_
      refine g_icmp_eq E 28 gdX5_turnOut_22 (by decide) h (fun h => ?_) (fun h => ?_)
      ·
        refine g_aload_n E gdX5_turnOut_28 rfl 0 rfl ?_
        refine g_get (T := TX5) E fw_X5 23 (wC_23 g ad o) rfl 0 (by decide) w_210 rfl rfl gdX5_turnOut_29 ?_
        refine g_iload E gdX5_turnOut_32 3 rfl ?_
        refine g_bipush E gdX5_turnOut_34 (by decide) ?_
        obtain ⟨hi3, h⟩ := qIn_of h
        obtain ⟨o4, e_o4, h⟩ := qNm_of h
        refine g_iast (ws' := wC g ad o4) E 24 (wC_24 g ad o) (by decide) hi3 (by rw [e_o4]; exact wC_s24 g ad o _ _) gdX5_turnOut_36 ?_
        refine g_lload_n E gdX5_turnOut_37 rfl 2 rfl ?_
        refine g_lconst (v := 1) E gdX5_turnOut_38 (by decide) ?_
        refine g_iload E gdX5_turnOut_39 3 rfl ?_
        refine g_lshl E gdX5_turnOut_41 ?_
        refine g_lor E gdX5_turnOut_42 ?_
        obtain ⟨m5, e_m5, h⟩ := qNm_of h
        refine g_nml e_m5 ?_
        refine g_lstore_n E [(2, .long m5), (0, .ref (ad 23)), (1, iv x1), (4, iv x4)] gdX5_turnOut_43 rfl (by decide) rfl ?_
        refine g_sub E [1, 2, 0, 3] rfl ?_
        exact j44 o4 x1 m5 x4 v h k0 k1
      ·
        refine g_goto E 44 gdX5_turnOut_25 (by decide) ?_
        exact j44 o x1 z2 x4 v h k0 k1
  have j5 : ∀ (o : OO) (x1 : Int) (z2 : Int64) (x4 : Int), e_X5_turnOut_5 o x1 z2 x4 = some v → Go X 5 (wC g ad o) [(0, .ref (ad 23)), (1, iv x1), (2, .long z2), (4, iv x4)] [] := by
    intro o x1 z2 x4 h
    unfold e_X5_turnOut_5 at h
    obtain ⟨r, hr, h⟩ := qB_of h
    refine l5 x1 r _ hr ?_
    ·
      intro u0 u1 e
      subst e
      have h : b_X5_turnOut_50 u0 u1 = some v := h
      exact j50 u0 u1 h
  unfold s_X5_turnOut at h
  refine g_lconst (v := 0) E gdX5_turnOut_0 (by decide) ?_
  obtain ⟨m6, e_m6, h⟩ := qNm_of h
  refine g_nml e_m6 ?_
  refine g_lstore_n E [(2, .long m6), (0, .ref (ad 23)), (1, iv x1)] gdX5_turnOut_1 rfl (by decide) rfl ?_
  refine g_iconst E gdX5_turnOut_2 ?_
  refine g_istore E [(4, iv 0), (2, .long m6), (0, .ref (ad 23)), (1, iv x1)] gdX5_turnOut_3 (by decide) rfl ?_
  refine g_sub E [2, 3, 1, 0] rfl ?_
  exact j5 o x1 m6 0 h
set_option maxHeartbeats 4000000 in
set_option maxRecDepth 100000 in
theorem c_X4_setTaking (l : Launch) (g : GG) (ad : Nat → Nat) (o : OO) (x1 : Int) (x2 : Int) (z3 : Int64) (v : OO) (h : s_X4_setTaking o x1 x2 z3 = some v) : CV l g yX4_setTaking cX4_setTaking 5 0 0 (wC g ad o) [.ref (ad 32), iv x1, iv x2, .long z3] (wC g ad v) := by
  refine met_V (by decide) (Nat.le_of_ble_eq_true rfl) ?_
  intro X E hQ
  show Go X 0 (wC g ad o) [(0, .ref (ad 32)), (1, iv x1), (2, iv x2), (3, .long z3)] []
  unfold s_X4_setTaking at h
  refine g_aload_n E gdX4_setTaking_0 rfl 0 rfl ?_
  refine g_get (T := TX4) E fw_X4 32 (wC_32 g ad o) rfl 8 (by decide) w_259 rfl rfl gdX4_setTaking_1 ?_
  refine g_iload_n E gdX4_setTaking_4 rfl 1 rfl ?_
  refine g_iload_n E gdX4_setTaking_5 rfl 2 rfl ?_
  obtain ⟨hi1, h⟩ := qIn_of h
  obtain ⟨o2, e_o2, h⟩ := qNm_of h
  refine g_iast (ws' := wC g ad o2) E 41 (wC_41 g ad o) (by decide) hi1 (by rw [e_o2]; exact wC_s41 g ad o _ _) gdX4_setTaking_6 ?_
  refine g_aload_n E gdX4_setTaking_7 rfl 0 rfl ?_
  refine g_get (T := TX4) E fw_X4 32 (wC_32 g ad o2) rfl 12 (by decide) w_263 rfl rfl gdX4_setTaking_8 ?_
  refine g_iload_n E gdX4_setTaking_11 rfl 1 rfl ?_
  refine g_lload_n E gdX4_setTaking_12 rfl 3 rfl ?_
  obtain ⟨hi3, h⟩ := qIn_of h
  obtain ⟨o4, e_o4, h⟩ := qNm_of h
  refine g_last (ws' := wC g ad o4) E 45 (wC_45 g ad o2) (by decide) hi3 (by rw [e_o4]; exact wC_s45 g ad o2 _ _) gdX4_setTaking_13 ?_
  exact g_vret E hQ (by rw [← Option.some.inj h]) gdX4_setTaking_14
set_option maxHeartbeats 4000000 in
set_option maxRecDepth 100000 in
theorem c_X1_remove (l : Launch) (g : GG) (ad : Nat → Nat) (o : OO) (x1 : Int) (v : OO) (h : s_X1_remove o x1 = some v) : CV l g yX1_remove cX1_remove 2 0 0 (wC g ad o) [.ref (ad 10), iv x1] (wC g ad v) := by
  refine met_V (by decide) (Nat.le_of_ble_eq_true rfl) ?_
  intro X E hQ
  show Go X 0 (wC g ad o) [(0, .ref (ad 10)), (1, iv x1)] []
  unfold s_X1_remove at h
  refine g_aload_n E gdX1_remove_0 rfl 0 rfl ?_
  refine g_get (T := TX1) E fw_X1 10 (wC_10 g ad o) rfl 6 (by decide) w_166 rfl rfl gdX1_remove_1 ?_
  refine g_iload_n E gdX1_remove_4 rfl 1 rfl ?_
  refine g_iconst E gdX1_remove_5 ?_
  obtain ⟨hi1, h⟩ := qIn_of h
  obtain ⟨hz2, h⟩ := qZ_of h
  obtain ⟨o3, e_o3, h⟩ := qNm_of h
  refine g_zast (ws' := wC g ad o3) E 17 (wC_17 g ad o) (by decide) hi1 hz2 (by rw [e_o3]; exact wC_s17 g ad o _ _) gdX1_remove_6 ?_
  refine g_aload_n E gdX1_remove_7 rfl 0 rfl ?_
  refine g_get (T := TX1) E fw_X1 10 (wC_10 g ad o3) rfl 3 (by decide) w_163 rfl rfl gdX1_remove_8 ?_
  refine g_iload_n E gdX1_remove_11 rfl 1 rfl ?_
  refine g_iconst E gdX1_remove_12 ?_
  obtain ⟨hi4, h⟩ := qIn_of h
  obtain ⟨o5, e_o5, h⟩ := qNm_of h
  refine g_iast (ws' := wC g ad o5) E 14 (wC_14 g ad o3) (by decide) hi4 (by rw [e_o5]; exact wC_s14 g ad o3 _ _) gdX1_remove_13 ?_
  refine g_aload_n E gdX1_remove_14 rfl 0 rfl ?_
  refine g_get (T := TX1) E fw_X1 10 (wC_10 g ad o5) rfl 7 (by decide) w_167 rfl rfl gdX1_remove_15 ?_
  refine g_aload_n E gdX1_remove_18 rfl 0 rfl ?_
  refine g_get (T := TX1) E fw_X1 10 (wC_10 g ad o5) rfl 0 (by decide) w_160 rfl rfl gdX1_remove_19 ?_
  refine g_iload_n E gdX1_remove_22 rfl 1 rfl ?_
  obtain ⟨hi6, h⟩ := qIn_of h
  refine g_iald E 11 (wC_11 g ad o5) (by decide) hi6 gdX1_remove_23 ?_
  obtain ⟨n7, e_n7, h⟩ := qNm_of h
  refine g_nmi e_n7 ?_
  refine g_bipush E gdX1_remove_24 (by decide) ?_
  obtain ⟨hi8, h⟩ := qIn_of h
  obtain ⟨o9, e_o9, h⟩ := qNm_of h
  refine g_iast (ws' := wC g ad o9) E 18 (wC_18 g ad o5) (by decide) hi8 (by rw [e_o9]; exact wC_s18 g ad o5 _ _) gdX1_remove_26 ?_
  exact g_vret E hQ (by rw [← Option.some.inj h]) gdX1_remove_27
set_option maxHeartbeats 4000000 in
set_option maxRecDepth 100000 in
theorem c_X11_take (l : Launch) (g : GG) (ad : Nat → Nat) (o : OO) (x1 : Int) (x2 : Int) (v : Int × OO) (h : s_X11_take o x1 x2 = some v) : CI l g yX11_take cX11_take 7 (some .int) 3 70 (wC g ad o) [.ref (ad 0), iv x1, iv x2] v.1 (wC g ad v.2) := by
  refine met_I (by decide) (Nat.le_of_ble_eq_true rfl) ?_
  intro X E hQ
  show Go X 0 (wC g ad o) [(0, .ref (ad 0)), (1, iv x1), (2, iv x2)] []
  have j22 : ∀ (o : OO), b_X11_take_22 o = some v → Go X 22 (wC g ad o) [] [] := by
    intro o h
    unfold b_X11_take_22 at h
    refine g_iconst E gdX11_take_22 ?_
    exact g_iret E hQ (by rw [← Option.some.inj h]) (by rw [← Option.some.inj h]) gdX11_take_23
  have j105 : ∀ (o : OO), b_X11_take_105 o = some v → Go X 105 (wC g ad o) [] [] := by
    intro o h
    unfold b_X11_take_105 at h
    refine g_bipush E gdX11_take_105 (by decide) ?_
    exact g_iret E hQ (by rw [← Option.some.inj h]) (by rw [← Option.some.inj h]) gdX11_take_107
  have j138 : ∀ (o : OO) (x1 : Int) (x2 : Int) (x4 : Int), b_X11_take_138 o x1 x2 x4 = some v → Go X 138 (wC g ad o) [(0, .ref (ad 0)), (1, iv x1), (2, iv x2), (4, iv x4)] [] := by
    intro o x1 x2 x4 h
    unfold b_X11_take_138 at h
    refine g_iload E gdX11_take_138 3 rfl ?_
    refine g_aload_n E gdX11_take_140 rfl 0 rfl ?_
    refine g_iconst E gdX11_take_141 ?_
    obtain ⟨r1, hc2, h⟩ := qB_of h
    refine g_Vi (r := r1) (As := [iv 2]) (rest := [iv x4]) (w := wC g ad o) E (c_X11_inForce l g ad o 2 r1 hc2) okm_X11_inForce okw_X11_inForce w_809 rfl (wC_0 g ad o) rfl rfl (Nat.le_of_ble_eq_true rfl) ⟨Nat.le_of_ble_eq_true rfl, Nat.le_of_ble_eq_true rfl⟩ gdX11_take_142 ?_
    refine g_imul E gdX11_take_145 ?_
    refine g_bipush E gdX11_take_146 (by decide) ?_
    obtain ⟨hd3, h⟩ := qDv_of h
    refine g_idiv E hd3 gdX11_take_148 ?_
    obtain ⟨n4, e_n4, h⟩ := qNm_of h
    refine g_nmi e_n4 ?_
    refine g_istore E [(5, iv n4), (0, .ref (ad 0)), (1, iv x1), (2, iv x2), (4, iv x4)] gdX11_take_149 (by decide) rfl ?_
    refine g_aload_n E gdX11_take_151 rfl 1 rfl ?_
    refine g_get (T := TX11) E fw_X11 0 (wC_0 g ad o) rfl 6 (by decide) w_464 rfl rfl gdX11_take_152 ?_
    refine g_iconst E gdX11_take_155 ?_
    refine g_aload_n E gdX11_take_156 rfl 1 rfl ?_
    refine g_get (T := TX11) E fw_X11 0 (wC_0 g ad o) rfl 13 (by decide) w_471 rfl rfl gdX11_take_157 ?_
    refine g_iload_n E gdX11_take_160 rfl 3 rfl ?_
    obtain ⟨r5, o7, hc6, h⟩ := qB2_of h
    refine g_Vi (r := r5) (As := [iv 3, iv (o.1 0 13), iv x2]) (rest := []) (w := wC g ad o7) E (c_X4_add l g ad o 3 (o.1 0 13) x2 (r5, o7) hc6) okm_X4_add okw_X4_add w_869 rfl (wC_32 g ad o) rfl rfl (Nat.le_of_ble_eq_true rfl) ⟨Nat.le_of_ble_eq_true rfl, Nat.le_of_ble_eq_true rfl⟩ gdX11_take_161 ?_
    refine g_istore E [(6, iv r5), (5, iv n4), (0, .ref (ad 0)), (1, iv x1), (2, iv x2), (4, iv x4)] gdX11_take_164 (by decide) rfl ?_
    refine g_aload_n E gdX11_take_166 rfl 2 rfl ?_
    refine g_get (T := TX11) E fw_X11 0 (wC_0 g ad o7) rfl 6 (by decide) w_464 rfl rfl gdX11_take_167 ?_
    refine g_iload E gdX11_take_170 0 rfl ?_
    refine g_iload E gdX11_take_172 1 rfl ?_
    refine g_aload_n E gdX11_take_174 rfl 2 rfl ?_
    refine g_get (T := TX11) E fw_X11 0 (wC_0 g ad o7) rfl 4 (by decide) w_462 rfl rfl gdX11_take_175 ?_
    refine g_iload_n E gdX11_take_178 rfl 3 rfl ?_
    obtain ⟨p8, o10, hc9, h⟩ := qB2_of h
    refine g_Vl (r := p8) (As := [iv x1]) (rest := [iv n4, iv r5, .ref (ad 32)]) (w := wC g ad o10) E (c_X5_turnOut l g ad o7 x1 (p8, o10) hc9) okm_X5_turnOut okw_X5_turnOut w_963 rfl (wC_23 g ad o7) rfl rfl (Nat.le_of_ble_eq_true rfl) ⟨Nat.le_of_ble_eq_true rfl, Nat.le_of_ble_eq_true rfl⟩ gdX11_take_179 ?_
    obtain ⟨o13, hc12, h⟩ := qB_of h
    refine g_Vv (As := [iv r5, iv n4, .long p8]) (rest := []) (w := wC g ad o13) E (c_X4_setTaking l g ad o10 r5 n4 p8 o13 hc12) okm_X4_setTaking okw_X4_setTaking w_967 rfl (wC_32 g ad o10) rfl rfl (Nat.le_of_ble_eq_true rfl) ⟨Nat.le_of_ble_eq_true rfl, Nat.le_of_ble_eq_true rfl⟩ gdX11_take_182 ?_
    refine g_aload_n E gdX11_take_185 rfl 2 rfl ?_
    refine g_get (T := TX11) E fw_X11 0 (wC_0 g ad o13) rfl 3 (by decide) w_461 rfl rfl gdX11_take_186 ?_
    refine g_iload_n E gdX11_take_189 rfl 3 rfl ?_
    obtain ⟨o16, hc15, h⟩ := qB_of h
    refine g_Vv (As := [iv x1]) (rest := []) (w := wC g ad o16) E (c_X1_remove l g ad o13 x1 o16 hc15) okm_X1_remove okw_X1_remove w_971 rfl (wC_10 g ad o13) rfl rfl (Nat.le_of_ble_eq_true rfl) ⟨Nat.le_of_ble_eq_true rfl, Nat.le_of_ble_eq_true rfl⟩ gdX11_take_190 ?_
    refine g_aload_n E gdX11_take_193 rfl 2 rfl ?_
    refine g_iload E gdX11_take_194 1 rfl ?_
    obtain ⟨r17, o19, hc18, h⟩ := qB2_of h
    refine g_Vi (r := r17) (As := [iv n4]) (rest := []) (w := wC g ad o19) E (c_X11_tell l g ad o16 n4 (r17, o19) hc18) okm_X11_tell okw_X11_tell w_551 rfl (wC_0 g ad o16) rfl rfl (Nat.le_of_ble_eq_true rfl) ⟨Nat.le_of_ble_eq_true rfl, Nat.le_of_ble_eq_true rfl⟩ gdX11_take_196 ?_
    refine g_pop E gdX11_take_199 rfl ?_
    refine g_iload E gdX11_take_200 0 rfl ?_
    exact g_iret E hQ (by rw [← Option.some.inj h]) (by rw [← Option.some.inj h]) gdX11_take_202
  unfold s_X11_take at h
  refine g_aload_n E gdX11_take_0 rfl 0 rfl ?_
  refine g_get (T := TX11) E fw_X11 0 (wC_0 g ad o) rfl 3 (by decide) w_461 rfl rfl gdX11_take_1 ?_
  refine g_iload_n E gdX11_take_4 rfl 1 rfl ?_
  obtain ⟨r20, hc21, h⟩ := qB_of h
  refine g_Vi (r := r20) (As := [iv x1]) (rest := []) (w := wC g ad o) E (c_X1_exists l g ad o x1 r20 hc21) okm_X1_exists okw_X1_exists w_667 rfl (wC_10 g ad o) rfl rfl (Nat.le_of_ble_eq_true rfl) ⟨Nat.le_of_ble_eq_true rfl, Nat.le_of_ble_eq_true rfl⟩ gdX11_take_5 ?_
  refine g_if_eq E 22 gdX11_take_8 (by decide) h (fun h => ?_) (fun h => ?_)
  ·
    refine g_sub E [] rfl ?_
    exact j22 o h
  ·
    refine g_aload_n E gdX11_take_11 rfl 0 rfl ?_
    refine g_get (T := TX11) E fw_X11 0 (wC_0 g ad o) rfl 6 (by decide) w_464 rfl rfl gdX11_take_12 ?_
    refine g_iload_n E gdX11_take_15 rfl 2 rfl ?_
    obtain ⟨r22, hc23, h⟩ := qB_of h
    refine g_Vi (r := r22) (As := [iv x2]) (rest := []) (w := wC g ad o) E (c_X4_exists l g ad o x2 r22 hc23) okm_X4_exists okw_X4_exists w_882 rfl (wC_32 g ad o) rfl rfl (Nat.le_of_ble_eq_true rfl) ⟨Nat.le_of_ble_eq_true rfl, Nat.le_of_ble_eq_true rfl⟩ gdX11_take_16 ?_
    refine g_if_ne E 24 gdX11_take_19 (by decide) h (fun h => ?_) (fun h => ?_)
    ·
      refine g_aload_n E gdX11_take_24 rfl 0 rfl ?_
      refine g_get (T := TX11) E fw_X11 0 (wC_0 g ad o) rfl 6 (by decide) w_464 rfl rfl gdX11_take_25 ?_
      obtain ⟨r24, hc25, h⟩ := qB_of h
      refine g_Vi (r := r24) (As := []) (rest := []) (w := wC g ad o) E (c_X4_number l g ad o r24 hc25) okm_X4_number okw_X4_number w_790 rfl (wC_32 g ad o) rfl rfl (Nat.le_of_ble_eq_true rfl) ⟨Nat.le_of_ble_eq_true rfl, Nat.le_of_ble_eq_true rfl⟩ gdX11_take_28 ?_
      refine g_bipush E gdX11_take_31 (by decide) ?_
      refine g_icmp_lt E 39 gdX11_take_33 (by decide) h (fun h => ?_) (fun h => ?_)
      ·
        refine g_aload_n E gdX11_take_39 rfl 0 rfl ?_
        refine g_get (T := TX11) E fw_X11 0 (wC_0 g ad o) rfl 6 (by decide) w_464 rfl rfl gdX11_take_40 ?_
        refine g_iload_n E gdX11_take_43 rfl 2 rfl ?_
        refine g_iconst E gdX11_take_44 ?_
        obtain ⟨r26, hc27, h⟩ := qB_of h
        refine g_Vi (r := r26) (As := [iv x2, iv 1]) (rest := []) (w := wC g ad o) E (c_X4_isOf l g ad o x2 1 r26 hc27) okm_X4_isOf okw_X4_isOf w_886 rfl (wC_32 g ad o) rfl rfl (Nat.le_of_ble_eq_true rfl) ⟨Nat.le_of_ble_eq_true rfl, Nat.le_of_ble_eq_true rfl⟩ gdX11_take_45 ?_
        refine g_if_ne E 57 gdX11_take_48 (by decide) h (fun h => ?_) (fun h => ?_)
        ·
          refine g_aload_n E gdX11_take_57 rfl 0 rfl ?_
          refine g_get (T := TX11) E fw_X11 0 (wC_0 g ad o) rfl 6 (by decide) w_464 rfl rfl gdX11_take_58 ?_
          refine g_iload_n E gdX11_take_61 rfl 2 rfl ?_
          obtain ⟨r28, hc29, h⟩ := qB_of h
          refine g_Vi (r := r28) (As := [iv x2]) (rest := []) (w := wC g ad o) E (c_X4_shownOn l g ad o x2 r28 hc29) okm_X4_shownOn okw_X4_shownOn w_919 rfl (wC_32 g ad o) rfl rfl (Nat.le_of_ble_eq_true rfl) ⟨Nat.le_of_ble_eq_true rfl, Nat.le_of_ble_eq_true rfl⟩ gdX11_take_62 ?_
          refine g_istore_n E [(3, iv r28), (0, .ref (ad 0)), (1, iv x1), (2, iv x2)] gdX11_take_65 rfl (by decide) rfl ?_
          refine g_iload_n E gdX11_take_66 rfl 0 rfl ?_
          refine g_bipush E gdX11_take_67 (by decide) ?_
          refine g_icmp_eq E 105 gdX11_take_69 (by decide) h (fun h => ?_) (fun h => ?_)
          ·
            refine g_sub E [] rfl ?_
            exact j105 o h
          ·
            refine g_aload_n E gdX11_take_72 rfl 1 rfl ?_
            refine g_get (T := TX11) E fw_X11 0 (wC_0 g ad o) rfl 3 (by decide) w_461 rfl rfl gdX11_take_73 ?_
            refine g_iload_n E gdX11_take_76 rfl 2 rfl ?_
            obtain ⟨r30, hc31, h⟩ := qB_of h
            refine g_Vi (r := r30) (As := [iv x1]) (rest := []) (w := wC g ad o) E (c_X1_isTaken l g ad o x1 r30 hc31) okm_X1_isTaken okw_X1_isTaken w_671 rfl (wC_10 g ad o) rfl rfl (Nat.le_of_ble_eq_true rfl) ⟨Nat.le_of_ble_eq_true rfl, Nat.le_of_ble_eq_true rfl⟩ gdX11_take_77 ?_
            refine g_if_ne E 105 gdX11_take_80 (by decide) h (fun h => ?_) (fun h => ?_)
            ·
              refine g_sub E [] rfl ?_
              exact j105 o h
            ·
              refine g_aload_n E gdX11_take_83 rfl 1 rfl ?_
              refine g_get (T := TX11) E fw_X11 0 (wC_0 g ad o) rfl 6 (by decide) w_464 rfl rfl gdX11_take_84 ?_
              refine g_iload_n E gdX11_take_87 rfl 3 rfl ?_
              obtain ⟨p32, hc33, h⟩ := qB_of h
              refine g_Vl (r := p32) (As := [iv x2]) (rest := []) (w := wC g ad o) E (c_X4_cells l g ad o x2 p32 hc33) okm_X4_cells okw_X4_cells w_890 rfl (wC_32 g ad o) rfl rfl (Nat.le_of_ble_eq_true rfl) ⟨Nat.le_of_ble_eq_true rfl, Nat.le_of_ble_eq_true rfl⟩ gdX11_take_88 ?_
              refine g_aload_n E gdX11_take_91 rfl 1 rfl ?_
              refine g_get (T := TX11) E fw_X11 0 (wC_0 g ad o) rfl 3 (by decide) w_461 rfl rfl gdX11_take_92 ?_
              refine g_iload_n E gdX11_take_95 rfl 2 rfl ?_
              obtain ⟨r34, hc35, h⟩ := qB_of h
              refine g_Vi (r := r34) (As := [iv x1]) (rest := [.long p32]) (w := wC g ad o) E (c_X1_cellOfOne l g ad o x1 r34 hc35) okm_X1_cellOfOne okw_X1_cellOfOne w_941 rfl (wC_10 g ad o) rfl rfl (Nat.le_of_ble_eq_true rfl) ⟨Nat.le_of_ble_eq_true rfl, Nat.le_of_ble_eq_true rfl⟩ gdX11_take_96 ?_
              obtain ⟨r36, hc37, h⟩ := qB_of h
              refine g_Si (r := r36) (As := [.long p32, iv r34]) (rest := []) (w := wC g ad o) E (c_X3_has l g (wC g ad o) p32 r34 r36 hc37) okm_X3_has w_839 w_902 rfl rfl (Nat.le_of_ble_eq_true rfl) ⟨Nat.le_of_ble_eq_true rfl, Nat.le_of_ble_eq_true rfl⟩ gdX11_take_99 ?_
              refine g_if_ne E 108 gdX11_take_102 (by decide) h (fun h => ?_) (fun h => ?_)
              ·
                refine g_aload_n E gdX11_take_108 rfl 1 rfl ?_
                refine g_get (T := TX11) E fw_X11 0 (wC_0 g ad o) rfl 3 (by decide) w_461 rfl rfl gdX11_take_109 ?_
                refine g_iload_n E gdX11_take_112 rfl 2 rfl ?_
                refine g_iload_n E gdX11_take_113 rfl 0 rfl ?_
                refine g_iconst E gdX11_take_114 ?_
                refine g_isub E gdX11_take_115 ?_
                obtain ⟨r38, hc39, h⟩ := qB_of h
                refine g_Vi (r := r38) (As := [iv x1, iv (r28 - 1)]) (rest := []) (w := wC g ad o) E (c_X1_worthBy l g ad o x1 (r28 - 1) r38 hc39) okm_X1_worthBy okw_X1_worthBy w_687 rfl (wC_10 g ad o) rfl rfl (Nat.le_of_ble_eq_true rfl) ⟨Nat.le_of_ble_eq_true rfl, Nat.le_of_ble_eq_true rfl⟩ gdX11_take_116 ?_
                refine g_istore E [(4, iv r38), (3, iv r28), (0, .ref (ad 0)), (1, iv x1), (2, iv x2)] gdX11_take_119 (by decide) rfl ?_
                refine g_iload E gdX11_take_121 0 rfl ?_
                refine g_bipush E gdX11_take_123 (by decide) ?_
                refine g_icmp_ne E 138 gdX11_take_125 (by decide) h (fun h => ?_) (fun h => ?_)
                ·
                  refine g_sub E [2, 3, 4, 0] rfl ?_
                  exact j138 o x1 x2 r38 h
                ·
                  refine g_aload_n E gdX11_take_128 rfl 2 rfl ?_
                  refine g_get (T := TX11) E fw_X11 0 (wC_0 g ad o) rfl 3 (by decide) w_461 rfl rfl gdX11_take_129 ?_
                  refine g_iload_n E gdX11_take_132 rfl 3 rfl ?_
                  obtain ⟨r40, hc41, h⟩ := qB_of h
                  refine g_Vi (r := r40) (As := [iv x1]) (rest := []) (w := wC g ad o) E (c_X1_firstWorth l g ad o x1 r40 hc41) okm_X1_firstWorth okw_X1_firstWorth w_959 rfl (wC_10 g ad o) rfl rfl (Nat.le_of_ble_eq_true rfl) ⟨Nat.le_of_ble_eq_true rfl, Nat.le_of_ble_eq_true rfl⟩ gdX11_take_133 ?_
                  refine g_istore E [(4, iv r40), (3, iv r28), (0, .ref (ad 0)), (1, iv x1), (2, iv x2)] gdX11_take_136 (by decide) rfl ?_
                  refine g_sub E [2, 3, 4, 0] rfl ?_
                  exact j138 o x1 x2 r40 h
              ·
                refine g_sub E [] rfl ?_
                exact j105 o h
        ·
          refine g_aload_n E gdX11_take_51 rfl 0 rfl ?_
          refine g_iconst E gdX11_take_52 ?_
          obtain ⟨r42, o44, hc43, h⟩ := qB2_of h
          refine g_Vi (r := r42) (As := [iv 3]) (rest := []) (w := wC g ad o44) E (c_X11_found l g ad o 3 (r42, o44) hc43) okm_X11_found okw_X11_found w_521 rfl (wC_0 g ad o) rfl rfl (Nat.le_of_ble_eq_true rfl) ⟨Nat.le_of_ble_eq_true rfl, Nat.le_of_ble_eq_true rfl⟩ gdX11_take_53 ?_
          exact g_iret E hQ (by rw [← Option.some.inj h]) (by rw [← Option.some.inj h]) gdX11_take_56
      ·
        refine g_bipush E gdX11_take_36 (by decide) ?_
        exact g_iret E hQ (by rw [← Option.some.inj h]) (by rw [← Option.some.inj h]) gdX11_take_38
    ·
      refine g_sub E [] rfl ?_
      exact j22 o h
set_option maxHeartbeats 4000000 in
set_option maxRecDepth 100000 in
theorem c_X8_remove (l : Launch) (g : GG) (ad : Nat → Nat) (o : OO) (x1 : Int) (v : OO) (h : s_X8_remove o x1 = some v) : CV l g yX8_remove cX8_remove 2 0 0 (wC g ad o) [.ref (ad 1), iv x1] (wC g ad v) := by
  refine met_V (by decide) (Nat.le_of_ble_eq_true rfl) ?_
  intro X E hQ
  show Go X 0 (wC g ad o) [(0, .ref (ad 1)), (1, iv x1)] []
  unfold s_X8_remove at h
  refine g_aload_n E gdX8_remove_0 rfl 0 rfl ?_
  refine g_get (T := TX8) E fw_X8 1 (wC_1 g ad o) rfl 2 (by decide) w_128 rfl rfl gdX8_remove_1 ?_
  refine g_iload_n E gdX8_remove_4 rfl 1 rfl ?_
  refine g_iconst E gdX8_remove_5 ?_
  obtain ⟨hi1, h⟩ := qIn_of h
  obtain ⟨o2, e_o2, h⟩ := qNm_of h
  refine g_iast (ws' := wC g ad o2) E 2 (wC_2 g ad o) (by decide) hi1 (by rw [e_o2]; exact wC_s2 g ad o _ _) gdX8_remove_6 ?_
  exact g_vret E hQ (by rw [← Option.some.inj h]) gdX8_remove_7
set_option maxHeartbeats 4000000 in
set_option maxRecDepth 100000 in
theorem c_X11_tear (l : Launch) (g : GG) (ad : Nat → Nat) (o : OO) (x1 : Int) (v : Int × OO) (h : s_X11_tear o x1 = some v) : CI l g yX11_tear cX11_tear 2 (some .int) 1 21 (wC g ad o) [.ref (ad 0), iv x1] v.1 (wC g ad v.2) := by
  refine met_I (by decide) (Nat.le_of_ble_eq_true rfl) ?_
  intro X E hQ
  show Go X 0 (wC g ad o) [(0, .ref (ad 0)), (1, iv x1)] []
  unfold s_X11_tear at h
  refine g_aload_n E gdX11_tear_0 rfl 0 rfl ?_
  refine g_get (T := TX11) E fw_X11 0 (wC_0 g ad o) rfl 0 (by decide) w_458 rfl rfl gdX11_tear_1 ?_
  refine g_iload_n E gdX11_tear_4 rfl 1 rfl ?_
  obtain ⟨r1, hc2, h⟩ := qB_of h
  refine g_Vi (r := r1) (As := [iv x1]) (rest := []) (w := wC g ad o) E (c_X8_exists l g ad o x1 r1 hc2) okm_X8_exists okw_X8_exists w_517 rfl (wC_1 g ad o) rfl rfl (Nat.le_of_ble_eq_true rfl) ⟨Nat.le_of_ble_eq_true rfl, Nat.le_of_ble_eq_true rfl⟩ gdX11_tear_5 ?_
  refine g_if_ne E 13 gdX11_tear_8 (by decide) h (fun h => ?_) (fun h => ?_)
  ·
    refine g_aload_n E gdX11_tear_13 rfl 0 rfl ?_
    refine g_get (T := TX11) E fw_X11 0 (wC_0 g ad o) rfl 0 (by decide) w_458 rfl rfl gdX11_tear_14 ?_
    refine g_iload_n E gdX11_tear_17 rfl 1 rfl ?_
    obtain ⟨r3, hc4, h⟩ := qB_of h
    refine g_Vi (r := r3) (As := [iv x1]) (rest := []) (w := wC g ad o) E (c_X8_isThere l g ad o x1 r3 hc4) okm_X8_isThere okw_X8_isThere w_539 rfl (wC_1 g ad o) rfl rfl (Nat.le_of_ble_eq_true rfl) ⟨Nat.le_of_ble_eq_true rfl, Nat.le_of_ble_eq_true rfl⟩ gdX11_tear_18 ?_
    refine g_if_ne E 30 gdX11_tear_21 (by decide) h (fun h => ?_) (fun h => ?_)
    ·
      refine g_aload_n E gdX11_tear_30 rfl 0 rfl ?_
      refine g_get (T := TX11) E fw_X11 0 (wC_0 g ad o) rfl 0 (by decide) w_458 rfl rfl gdX11_tear_31 ?_
      refine g_iload_n E gdX11_tear_34 rfl 1 rfl ?_
      obtain ⟨o7, hc6, h⟩ := qB_of h
      refine g_Vv (As := [iv x1]) (rest := []) (w := wC g ad o7) E (c_X8_remove l g ad o x1 o7 hc6) okm_X8_remove okw_X8_remove w_559 rfl (wC_1 g ad o) rfl rfl (Nat.le_of_ble_eq_true rfl) ⟨Nat.le_of_ble_eq_true rfl, Nat.le_of_ble_eq_true rfl⟩ gdX11_tear_35 ?_
      refine g_iconst E gdX11_tear_38 ?_
      exact g_iret E hQ (by rw [← Option.some.inj h]) (by rw [← Option.some.inj h]) gdX11_tear_39
    ·
      refine g_aload_n E gdX11_tear_24 rfl 0 rfl ?_
      refine g_iconst E gdX11_tear_25 ?_
      obtain ⟨r8, o10, hc9, h⟩ := qB2_of h
      refine g_Vi (r := r8) (As := [iv 1]) (rest := []) (w := wC g ad o10) E (c_X11_found l g ad o 1 (r8, o10) hc9) okm_X11_found okw_X11_found w_521 rfl (wC_0 g ad o) rfl rfl (Nat.le_of_ble_eq_true rfl) ⟨Nat.le_of_ble_eq_true rfl, Nat.le_of_ble_eq_true rfl⟩ gdX11_tear_26 ?_
      exact g_iret E hQ (by rw [← Option.some.inj h]) (by rw [← Option.some.inj h]) gdX11_tear_29
  ·
    refine g_iconst E gdX11_tear_11 ?_
    exact g_iret E hQ (by rw [← Option.some.inj h]) (by rw [← Option.some.inj h]) gdX11_tear_12
set_option maxHeartbeats 4000000 in
set_option maxRecDepth 100000 in
theorem c_J7_fill_fda19__6 (l : Launch) (g : GG) (ad : Nat → Nat) (o : OO) (x1 : Int) (x2 : Int) (x3 : Int) (v : OO) (h : s_J7_fill_fda19__6 o x1 x2 x3 = some v) : CV l g yJ7_fill_fda19 cJ7_fill_fda19 5 1 22 (wC g ad o) [.ref (ad 6), iv x1, iv x2, iv x3] (wC g ad v) := by
  refine met_V (by decide) (Nat.le_of_ble_eq_true rfl) ?_
  intro X E hQ
  show Go X 0 (wC g ad o) [(0, .ref (ad 6)), (1, iv x1), (2, iv x2), (3, iv x3)] []
  have j27 : ∀ (o : OO), b_J7_fill_fda19__6_27 o = some v → Go X 27 (wC g ad o) [] [] := by
    intro o h
    unfold b_J7_fill_fda19__6_27 at h
    exact g_vret E hQ (by rw [← Option.some.inj h]) gdJ7_fill_fda19_27
  have l10 : ∀ (x2 : Int) (x3 : Int) (r : (OO)) (s0 : OO × Int), loopW (fun s => l_J7_fill_fda19__6_10 x2 x3 s.1 s.2) s0 = some r → (∀ (o : OO), r = (o) → Go X 27 (wC g ad o) [] []) → Go X 10 (wC g ad s0.1) [(0, .ref (ad 6)), (2, iv x2), (3, iv x3), (4, iv s0.2)] [] := by
    intro x2 x3 r s0 h k1
    refine loop_rule (Head := fun s0 => Go X 10 (wC g ad s0.1) [(0, .ref (ad 6)), (2, iv x2), (3, iv x3), (4, iv s0.2)] []) h ?_
    intro s v h kk kx
    obtain ⟨o, x4⟩ := s
    have h : l_J7_fill_fda19__6_10 x2 x3 o x4 = some v := h
    have k0 : ∀ (o : OO) (x4 : Int), v = .inl (o, x4) → Go X 10 (wC g ad o) [(0, .ref (ad 6)), (2, iv x2), (3, iv x3), (4, iv x4)] [] := fun o x4 e => kk (o, x4) e
    have k1 : ∀ (o : OO), v = .inr (o) → Go X 27 (wC g ad o) [] [] := fun o e => k1 o (kx _ e).symm
    unfold l_J7_fill_fda19__6_10 at h
    refine g_iload E gdJ7_fill_fda19_10 3 rfl ?_
    refine g_iload_n E gdJ7_fill_fda19_12 rfl 1 rfl ?_
    refine g_icmp_ge E 27 gdJ7_fill_fda19_13 (by decide) h (fun h => ?_) (fun h => ?_)
    ·
      refine g_sub E [] rfl ?_
      exact k1 o (Option.some.inj h).symm
    ·
      refine g_aload_n E gdJ7_fill_fda19_16 rfl 0 rfl ?_
      refine g_iload E gdJ7_fill_fda19_17 3 rfl ?_
      refine g_iload_n E gdJ7_fill_fda19_19 rfl 2 rfl ?_
      obtain ⟨hi1, h⟩ := qIn_of h
      obtain ⟨o2, e_o2, h⟩ := qNm_of h
      refine g_iast (ws' := wC g ad o2) E 6 (wC_6 g ad o) (by decide) hi1 (by rw [e_o2]; exact wC_s6 g ad o _ _) gdJ7_fill_fda19_20 ?_
      refine g_iinc E [(4, iv (x4 + 1)), (0, .ref (ad 6)), (2, iv x2), (3, iv x3)] gdJ7_fill_fda19_21 3 rfl (by decide) rfl ?_
      refine g_goto E 10 gdJ7_fill_fda19_24 (by decide) ?_
      refine g_sub E [1, 2, 3, 0] rfl ?_
      exact k0 o2 (x4 + 1) (Option.some.inj h).symm
  have j10 : ∀ (o : OO) (x2 : Int) (x3 : Int) (x4 : Int), e_J7_fill_fda19__6_10 o x2 x3 x4 = some v → Go X 10 (wC g ad o) [(0, .ref (ad 6)), (2, iv x2), (3, iv x3), (4, iv x4)] [] := by
    intro o x2 x3 x4 h
    unfold e_J7_fill_fda19__6_10 at h
    obtain ⟨r, hr, h⟩ := qB_of h
    refine l10 x2 x3 r _ hr ?_
    ·
      intro u0 e
      have e := e.symm
      subst e
      have h : b_J7_fill_fda19__6_27 u0 = some v := h
      exact j27 u0 h
  unfold s_J7_fill_fda19__6 at h
  refine g_aload_n E gdJ7_fill_fda19_0 rfl 0 rfl ?_
  refine g_alen (N := 240) E 6 (wC_6 g ad o) gdJ7_fill_fda19_1 ?_
  refine g_iload_n E gdJ7_fill_fda19_2 rfl 1 rfl ?_
  refine g_iload_n E gdJ7_fill_fda19_3 rfl 2 rfl ?_
  obtain ⟨r3, hc4, h⟩ := qB_of h
  refine g_Sv (As := [iv 240, iv x1, iv x2]) (rest := []) (w := wC g ad o) E (c_J7_rangeCheck_23922 l g (wC g ad o) 240 x1 x2 r3 hc4) okm_J7_rangeCheck_23922 w_533 w_532 rfl rfl (Nat.le_of_ble_eq_true rfl) ⟨Nat.le_of_ble_eq_true rfl, Nat.le_of_ble_eq_true rfl⟩ gdJ7_fill_fda19_4 ?_
  refine g_iload_n E gdJ7_fill_fda19_7 rfl 1 rfl ?_
  refine g_istore E [(4, iv x1), (0, .ref (ad 6)), (1, iv x1), (2, iv x2), (3, iv x3)] gdJ7_fill_fda19_8 (by decide) rfl ?_
  refine g_sub E [1, 3, 4, 0] rfl ?_
  exact j10 o x2 x3 x1 h
set_option maxHeartbeats 4000000 in
set_option maxRecDepth 100000 in
theorem c_X8_layOut__4 (l : Launch) (g : GG) (ad : Nat → Nat) (o : OO) (x1 : Int) (x2 : Int) (v : OO) (h : s_X8_layOut__4 o x1 x2 = some v) : CV l g yX8_layOut cX8_layOut 3 2 46 (wC g ad o) [.ref (ad 4), iv x1, iv x2] (wC g ad v) := by
  refine met_V (by decide) (Nat.le_of_ble_eq_true rfl) ?_
  intro X E hQ
  show Go X 0 (wC g ad o) [(0, .ref (ad 4)), (1, iv x1), (2, iv x2)] []
  unfold s_X8_layOut__4 at h
  refine g_aload_n E gdX8_layOut_0 rfl 0 rfl ?_
  refine g_get (T := TX8) E fw_X8 4 (wC_4 g ad o) rfl 2 (by decide) w_128 rfl rfl gdX8_layOut_1 ?_
  refine g_iload_n E gdX8_layOut_4 rfl 1 rfl ?_
  refine g_iload_n E gdX8_layOut_5 rfl 2 rfl ?_
  obtain ⟨hi1, h⟩ := qIn_of h
  obtain ⟨o2, e_o2, h⟩ := qNm_of h
  refine g_iast (ws' := wC g ad o2) E 5 (wC_5 g ad o) (by decide) hi1 (by rw [e_o2]; exact wC_s5 g ad o _ _) gdX8_layOut_6 ?_
  refine g_aload_n E gdX8_layOut_7 rfl 0 rfl ?_
  refine g_get (T := TX8) E fw_X8 4 (wC_4 g ad o2) rfl 3 (by decide) w_129 rfl rfl gdX8_layOut_8 ?_
  refine g_iload_n E gdX8_layOut_11 rfl 1 rfl ?_
  refine g_bipush E gdX8_layOut_12 (by decide) ?_
  refine g_imul E gdX8_layOut_14 ?_
  refine g_iload_n E gdX8_layOut_15 rfl 1 rfl ?_
  refine g_bipush E gdX8_layOut_16 (by decide) ?_
  refine g_imul E gdX8_layOut_18 ?_
  refine g_iload_n E gdX8_layOut_19 rfl 2 rfl ?_
  refine g_iadd E gdX8_layOut_20 ?_
  refine g_aload_n E gdX8_layOut_21 rfl 0 rfl ?_
  refine g_get (T := TX8) E fw_X8 4 (wC_4 g ad o2) rfl 1 (by decide) w_127 rfl rfl gdX8_layOut_22 ?_
  obtain ⟨o5, hc4, h⟩ := qB_of h
  refine g_Sv (As := [.ref (ad 6), iv (x1 * 40), iv ((x1 * 40) + x2), iv (o2.1 4 1)]) (rest := []) (w := wC g ad o5) E (c_J7_fill_fda19__6 l g ad o2 (x1 * 40) ((x1 * 40) + x2) (o2.1 4 1) o5 hc4) okm_J7_fill_fda19 w_530 w_529 rfl rfl (Nat.le_of_ble_eq_true rfl) ⟨Nat.le_of_ble_eq_true rfl, Nat.le_of_ble_eq_true rfl⟩ gdX8_layOut_25 ?_
  exact g_vret E hQ (by rw [← Option.some.inj h]) gdX8_layOut_28
set_option maxHeartbeats 4000000 in
set_option maxRecDepth 100000 in
theorem c_X11_text (l : Launch) (g : GG) (ad : Nat → Nat) (o : OO) (x1 : Int) (x2 : Int) (v : Int × OO) (h : s_X11_text o x1 x2 = some v) : CI l g yX11_text cX11_text 3 (some .int) 3 68 (wC g ad o) [.ref (ad 0), iv x1, iv x2] v.1 (wC g ad v.2) := by
  refine met_I (by decide) (Nat.le_of_ble_eq_true rfl) ?_
  intro X E hQ
  show Go X 0 (wC g ad o) [(0, .ref (ad 0)), (1, iv x1), (2, iv x2)] []
  have j17 : ∀ (o : OO), b_X11_text_17 o = some v → Go X 17 (wC g ad o) [] [] := by
    intro o h
    unfold b_X11_text_17 at h
    refine g_iconst E gdX11_text_17 ?_
    exact g_iret E hQ (by rw [← Option.some.inj h]) (by rw [← Option.some.inj h]) gdX11_text_18
  unfold s_X11_text at h
  refine g_aload_n E gdX11_text_0 rfl 0 rfl ?_
  refine g_get (T := TX11) E fw_X11 0 (wC_0 g ad o) rfl 1 (by decide) w_459 rfl rfl gdX11_text_1 ?_
  refine g_iload_n E gdX11_text_4 rfl 1 rfl ?_
  obtain ⟨r1, hc2, h⟩ := qB_of h
  refine g_Vi (r := r1) (As := [iv x1]) (rest := []) (w := wC g ad o) E (c_X8_exists__4 l g ad o x1 r1 hc2) okm_X8_exists okw_X8_exists w_517 rfl (wC_4 g ad o) rfl rfl (Nat.le_of_ble_eq_true rfl) ⟨Nat.le_of_ble_eq_true rfl, Nat.le_of_ble_eq_true rfl⟩ gdX11_text_5 ?_
  refine g_if_eq E 17 gdX11_text_8 (by decide) h (fun h => ?_) (fun h => ?_)
  ·
    refine g_sub E [] rfl ?_
    exact j17 o h
  ·
    refine g_iload_n E gdX11_text_11 rfl 2 rfl ?_
    refine g_bipush E gdX11_text_12 (by decide) ?_
    refine g_icmp_le E 19 gdX11_text_14 (by decide) h (fun h => ?_) (fun h => ?_)
    ·
      refine g_iload_n E gdX11_text_19 rfl 2 rfl ?_
      refine g_if_ge E 29 gdX11_text_20 (by decide) h (fun h => ?_) (fun h => ?_)
      ·
        refine g_aload_n E gdX11_text_29 rfl 0 rfl ?_
        refine g_get (T := TX11) E fw_X11 0 (wC_0 g ad o) rfl 1 (by decide) w_459 rfl rfl gdX11_text_30 ?_
        refine g_iload_n E gdX11_text_33 rfl 1 rfl ?_
        refine g_iload_n E gdX11_text_34 rfl 2 rfl ?_
        obtain ⟨o5, hc4, h⟩ := qB_of h
        refine g_Vv (As := [iv x1, iv x2]) (rest := []) (w := wC g ad o5) E (c_X8_layOut__4 l g ad o x1 x2 o5 hc4) okm_X8_layOut okw_X8_layOut w_525 rfl (wC_4 g ad o) rfl rfl (Nat.le_of_ble_eq_true rfl) ⟨Nat.le_of_ble_eq_true rfl, Nat.le_of_ble_eq_true rfl⟩ gdX11_text_35 ?_
        refine g_iload_n E gdX11_text_38 rfl 2 rfl ?_
        exact g_iret E hQ (by rw [← Option.some.inj h]) (by rw [← Option.some.inj h]) gdX11_text_39
      ·
        refine g_aload_n E gdX11_text_23 rfl 0 rfl ?_
        refine g_iconst E gdX11_text_24 ?_
        obtain ⟨r6, o8, hc7, h⟩ := qB2_of h
        refine g_Vi (r := r6) (As := [iv 5]) (rest := []) (w := wC g ad o8) E (c_X11_found l g ad o 5 (r6, o8) hc7) okm_X11_found okw_X11_found w_521 rfl (wC_0 g ad o) rfl rfl (Nat.le_of_ble_eq_true rfl) ⟨Nat.le_of_ble_eq_true rfl, Nat.le_of_ble_eq_true rfl⟩ gdX11_text_25 ?_
        exact g_iret E hQ (by rw [← Option.some.inj h]) (by rw [← Option.some.inj h]) gdX11_text_28
    ·
      refine g_sub E [] rfl ?_
      exact j17 o h
set_option maxHeartbeats 4000000 in
set_option maxRecDepth 100000 in
theorem c_X11_told (l : Launch) (g : GG) (ad : Nat → Nat) (o : OO) (x1 : Int) (x2 : Int) (v : Int × OO) (h : s_X11_told o x1 x2 = some v) : CI l g yX11_told cX11_told 3 (some .int) 1 22 (wC g ad o) [.ref (ad 0), iv x1, iv x2] v.1 (wC g ad v.2) := by
  refine met_I (by decide) (Nat.le_of_ble_eq_true rfl) ?_
  intro X E hQ
  show Go X 0 (wC g ad o) [(0, .ref (ad 0)), (1, iv x1), (2, iv x2)] []
  have j20 : ∀ (o : OO), b_X11_told_20 o = some v → Go X 20 (wC g ad o) [] [] := by
    intro o h
    unfold b_X11_told_20 at h
    refine g_iconst E gdX11_told_20 ?_
    exact g_iret E hQ (by rw [← Option.some.inj h]) (by rw [← Option.some.inj h]) gdX11_told_21
  unfold s_X11_told at h
  refine g_aload_n E gdX11_told_0 rfl 0 rfl ?_
  refine g_get (T := TX11) E fw_X11 0 (wC_0 g ad o) rfl 6 (by decide) w_464 rfl rfl gdX11_told_1 ?_
  refine g_iload_n E gdX11_told_4 rfl 1 rfl ?_
  obtain ⟨r1, hc2, h⟩ := qB_of h
  refine g_Vi (r := r1) (As := [iv x1]) (rest := []) (w := wC g ad o) E (c_X4_exists l g ad o x1 r1 hc2) okm_X4_exists okw_X4_exists w_882 rfl (wC_32 g ad o) rfl rfl (Nat.le_of_ble_eq_true rfl) ⟨Nat.le_of_ble_eq_true rfl, Nat.le_of_ble_eq_true rfl⟩ gdX11_told_5 ?_
  refine g_if_eq E 20 gdX11_told_8 (by decide) h (fun h => ?_) (fun h => ?_)
  ·
    refine g_sub E [] rfl ?_
    exact j20 o h
  ·
    refine g_iload_n E gdX11_told_11 rfl 2 rfl ?_
    refine g_if_lt E 20 gdX11_told_12 (by decide) h (fun h => ?_) (fun h => ?_)
    ·
      refine g_sub E [] rfl ?_
      exact j20 o h
    ·
      refine g_iload_n E gdX11_told_15 rfl 2 rfl ?_
      refine g_iconst E gdX11_told_16 ?_
      refine g_icmp_le E 22 gdX11_told_17 (by decide) h (fun h => ?_) (fun h => ?_)
      ·
        refine g_aload_n E gdX11_told_22 rfl 0 rfl ?_
        refine g_aload_n E gdX11_told_23 rfl 0 rfl ?_
        refine g_get (T := TX11) E fw_X11 0 (wC_0 g ad o) rfl 6 (by decide) w_464 rfl rfl gdX11_told_24 ?_
        refine g_iload_n E gdX11_told_27 rfl 1 rfl ?_
        refine g_iload_n E gdX11_told_28 rfl 2 rfl ?_
        obtain ⟨r3, hc4, h⟩ := qB_of h
        refine g_Vi (r := r3) (As := [iv x1, iv x2]) (rest := [.ref (ad 0)]) (w := wC g ad o) E (c_X4_trait l g ad o x1 x2 r3 hc4) okm_X4_trait okw_X4_trait w_1015 rfl (wC_32 g ad o) rfl rfl (Nat.le_of_ble_eq_true rfl) ⟨Nat.le_of_ble_eq_true rfl, Nat.le_of_ble_eq_true rfl⟩ gdX11_told_29 ?_
        obtain ⟨r5, o7, hc6, h⟩ := qB2_of h
        refine g_Vi (r := r5) (As := [iv r3]) (rest := []) (w := wC g ad o7) E (c_X11_tell l g ad o r3 (r5, o7) hc6) okm_X11_tell okw_X11_tell w_551 rfl (wC_0 g ad o) rfl rfl (Nat.le_of_ble_eq_true rfl) ⟨Nat.le_of_ble_eq_true rfl, Nat.le_of_ble_eq_true rfl⟩ gdX11_told_32 ?_
        exact g_iret E hQ (by rw [← Option.some.inj h]) (by rw [← Option.some.inj h]) gdX11_told_35
      ·
        refine g_sub E [] rfl ?_
        exact j20 o h
set_option maxHeartbeats 4000000 in
set_option maxRecDepth 100000 in
theorem c_X11_value (l : Launch) (g : GG) (ad : Nat → Nat) (o : OO) (x1 : Int) (x2 : Int) (v : Int) (h : s_X11_value o x1 x2 = some v) : CI l g yX11_value cX11_value 3 (some .int) 1 24 (wC g ad o) [.ref (ad 0), iv x1, iv x2] v (wC g ad o) := by
  refine met_I (by decide) (Nat.le_of_ble_eq_true rfl) ?_
  intro X E hQ
  show Go X 0 (wC g ad o) [(0, .ref (ad 0)), (1, iv x1), (2, iv x2)] []
  have j18 : b_X11_value_18 o = some v → Go X 18 (wC g ad o) [] [] := by
    intro h
    unfold b_X11_value_18 at h
    refine g_iconst E gdX11_value_18 ?_
    exact g_iret E hQ (Option.some.inj h) rfl gdX11_value_19
  unfold s_X11_value at h
  refine g_aload_n E gdX11_value_0 rfl 0 rfl ?_
  refine g_get (T := TX11) E fw_X11 0 (wC_0 g ad o) rfl 3 (by decide) w_461 rfl rfl gdX11_value_1 ?_
  refine g_iload_n E gdX11_value_4 rfl 1 rfl ?_
  obtain ⟨r1, hc2, h⟩ := qB_of h
  refine g_Vi (r := r1) (As := [iv x1]) (rest := []) (w := wC g ad o) E (c_X1_exists l g ad o x1 r1 hc2) okm_X1_exists okw_X1_exists w_667 rfl (wC_10 g ad o) rfl rfl (Nat.le_of_ble_eq_true rfl) ⟨Nat.le_of_ble_eq_true rfl, Nat.le_of_ble_eq_true rfl⟩ gdX11_value_5 ?_
  refine g_if_eq E 18 gdX11_value_8 (by decide) h (fun h => ?_) (fun h => ?_)
  ·
    refine g_sub E [] rfl ?_
    exact j18  h
  ·
    refine g_iload_n E gdX11_value_11 rfl 2 rfl ?_
    obtain ⟨r3, hc4, h⟩ := qB_of h
    refine g_Si (r := r3) (As := [iv x2]) (rest := []) (w := wC g ad o) E (c_X11_isDay l g (wC g ad o) x2 r3 hc4) okm_X11_isDay w_685 w_684 rfl rfl (Nat.le_of_ble_eq_true rfl) ⟨Nat.le_of_ble_eq_true rfl, Nat.le_of_ble_eq_true rfl⟩ gdX11_value_12 ?_
    refine g_if_ne E 20 gdX11_value_15 (by decide) h (fun h => ?_) (fun h => ?_)
    ·
      refine g_aload_n E gdX11_value_20 rfl 0 rfl ?_
      refine g_get (T := TX11) E fw_X11 0 (wC_0 g ad o) rfl 3 (by decide) w_461 rfl rfl gdX11_value_21 ?_
      refine g_iload_n E gdX11_value_24 rfl 1 rfl ?_
      refine g_iload_n E gdX11_value_25 rfl 2 rfl ?_
      obtain ⟨r5, hc6, h⟩ := qB_of h
      refine g_Vi (r := r5) (As := [iv x1, iv x2]) (rest := []) (w := wC g ad o) E (c_X1_worthBy l g ad o x1 x2 r5 hc6) okm_X1_worthBy okw_X1_worthBy w_687 rfl (wC_10 g ad o) rfl rfl (Nat.le_of_ble_eq_true rfl) ⟨Nat.le_of_ble_eq_true rfl, Nat.le_of_ble_eq_true rfl⟩ gdX11_value_26 ?_
      exact g_iret E hQ (Option.some.inj h) rfl gdX11_value_29
    ·
      refine g_sub E [] rfl ?_
      exact j18  h
set_option maxHeartbeats 4000000 in
set_option maxRecDepth 100000 in
theorem c_X6_listHouses (l : Launch) (g : GG) (ad : Nat → Nat) (o : OO) (z2 : Int64) (v : Int × OO) (h : s_X6_listHouses o z2 = some v) : CI l g yX6_listHouses cX6_listHouses 7 (some .int) 2 43 (wC g ad o) [.ref (ad 59), .ref (ad 10), .long z2] v.1 (wC g ad v.2) := by
  refine met_I (by decide) (Nat.le_of_ble_eq_true rfl) ?_
  intro X E hQ
  show Go X 0 (wC g ad o) [(0, .ref (ad 59)), (1, .ref (ad 10)), (2, .long z2)] []
  have j99 : ∀ (o : OO) (x4 : Int), b_X6_listHouses_99 o x4 = some v → Go X 99 (wC g ad o) [(4, iv x4)] [] := by
    intro o x4 h
    unfold b_X6_listHouses_99 at h
    refine g_iload E gdX6_listHouses_99 0 rfl ?_
    exact g_iret E hQ (by rw [← Option.some.inj h]) (by rw [← Option.some.inj h]) gdX6_listHouses_101
  have j93 : ∀ (o : OO) (z2 : Int64) (x4 : Int) (x5 : Int) (v : (OO × Int × Int) ⊕ ((OO × Int))), b_X6_listHouses_93 o z2 x4 x5 = some v → (∀ (o : OO) (x4 : Int) (x5 : Int), v = .inl (o, x4, x5) → Go X 11 (wC g ad o) [(0, .ref (ad 59)), (1, .ref (ad 10)), (2, .long z2), (4, iv x4), (5, iv x5)] []) → (∀ (o : OO) (x4 : Int), v = .inr ((o, x4)) → Go X 99 (wC g ad o) [(4, iv x4)] []) → Go X 93 (wC g ad o) [(0, .ref (ad 59)), (1, .ref (ad 10)), (2, .long z2), (4, iv x4), (5, iv x5)] [] := by
    intro o z2 x4 x5 v h k0 k1
    unfold b_X6_listHouses_93 at h
    refine g_iinc E [(5, iv (x5 + 1)), (0, .ref (ad 59)), (1, .ref (ad 10)), (2, .long z2), (4, iv x4)] gdX6_listHouses_93 4 rfl (by decide) rfl ?_
    refine g_goto E 11 gdX6_listHouses_96 (by decide) ?_
    refine g_sub E [1, 2, 3, 4, 0] rfl ?_
    exact k0 o x4 (x5 + 1) (Option.some.inj h).symm
  have l11 : ∀ (z2 : Int64) (r : (OO × Int)) (s0 : OO × Int × Int), loopW (fun s => l_X6_listHouses_11 z2 s.1 s.2.1 s.2.2) s0 = some r → (∀ (o : OO) (x4 : Int), r = ((o, x4)) → Go X 99 (wC g ad o) [(4, iv x4)] []) → Go X 11 (wC g ad s0.1) [(0, .ref (ad 59)), (1, .ref (ad 10)), (2, .long z2), (4, iv s0.2.1), (5, iv s0.2.2)] [] := by
    intro z2 r s0 h k1
    refine loop_rule (Head := fun s0 => Go X 11 (wC g ad s0.1) [(0, .ref (ad 59)), (1, .ref (ad 10)), (2, .long z2), (4, iv s0.2.1), (5, iv s0.2.2)] []) h ?_
    intro s v h kk kx
    obtain ⟨o, x4, x5⟩ := s
    have h : l_X6_listHouses_11 z2 o x4 x5 = some v := h
    have k0 : ∀ (o : OO) (x4 : Int) (x5 : Int), v = .inl (o, x4, x5) → Go X 11 (wC g ad o) [(0, .ref (ad 59)), (1, .ref (ad 10)), (2, .long z2), (4, iv x4), (5, iv x5)] [] := fun o x4 x5 e => kk (o, x4, x5) e
    have k1 : ∀ (o : OO) (x4 : Int), v = .inr ((o, x4)) → Go X 99 (wC g ad o) [(4, iv x4)] [] := fun o x4 e => k1 o x4 (kx _ e).symm
    unfold l_X6_listHouses_11 at h
    refine g_iload E gdX6_listHouses_11 4 rfl ?_
    refine g_aload_n E gdX6_listHouses_13 rfl 1 rfl ?_
    obtain ⟨r1, hc2, h⟩ := qB_of h
    refine g_Vi (r := r1) (As := []) (rest := [iv x5]) (w := wC g ad o) E (c_X1_number l g ad o r1 hc2) okm_X1_number okw_X1_number w_1139 rfl (wC_10 g ad o) rfl rfl (Nat.le_of_ble_eq_true rfl) ⟨Nat.le_of_ble_eq_true rfl, Nat.le_of_ble_eq_true rfl⟩ gdX6_listHouses_14 ?_
    refine g_icmp_ge E 99 gdX6_listHouses_17 (by decide) h (fun h => ?_) (fun h => ?_)
    ·
      refine g_sub E [3] rfl ?_
      exact k1 o x4 (Option.some.inj h).symm
    ·
      refine g_aload_n E gdX6_listHouses_20 rfl 1 rfl ?_
      refine g_iload E gdX6_listHouses_21 4 rfl ?_
      obtain ⟨r3, hc4, h⟩ := qB_of h
      refine g_Vi (r := r3) (As := [iv x5]) (rest := []) (w := wC g ad o) E (c_X1_roomsLeft l g ad o x5 r3 hc4) okm_X1_roomsLeft okw_X1_roomsLeft w_1140 rfl (wC_10 g ad o) rfl rfl (Nat.le_of_ble_eq_true rfl) ⟨Nat.le_of_ble_eq_true rfl, Nat.le_of_ble_eq_true rfl⟩ gdX6_listHouses_23 ?_
      refine g_istore E [(6, iv r3), (0, .ref (ad 59)), (1, .ref (ad 10)), (2, .long z2), (4, iv x4), (5, iv x5)] gdX6_listHouses_26 (by decide) rfl ?_
      refine g_iload E gdX6_listHouses_28 0 rfl ?_
      refine g_iconst E gdX6_listHouses_30 ?_
      refine g_icmp_lt E 93 gdX6_listHouses_31 (by decide) h (fun h => ?_) (fun h => ?_)
      ·
        refine g_sub E [1, 2, 3, 4, 5] rfl ?_
        exact j93 o z2 x4 x5 v h k0 k1
      ·
        refine g_lload_n E gdX6_listHouses_34 rfl 3 rfl ?_
        refine g_aload_n E gdX6_listHouses_35 rfl 2 rfl ?_
        refine g_iload E gdX6_listHouses_36 5 rfl ?_
        obtain ⟨r5, hc6, h⟩ := qB_of h
        refine g_Vi (r := r5) (As := [iv x5]) (rest := [.long z2]) (w := wC g ad o) E (c_X1_cellOfOne l g ad o x5 r5 hc6) okm_X1_cellOfOne okw_X1_cellOfOne w_1141 rfl (wC_10 g ad o) rfl rfl (Nat.le_of_ble_eq_true rfl) ⟨Nat.le_of_ble_eq_true rfl, Nat.le_of_ble_eq_true rfl⟩ gdX6_listHouses_38 ?_
        obtain ⟨r7, hc8, h⟩ := qB_of h
        refine g_Si (r := r7) (As := [.long z2, iv r5]) (rest := []) (w := wC g ad o) E (c_X3_has l g (wC g ad o) z2 r5 r7 hc8) okm_X3_has w_839 w_1142 rfl rfl (Nat.le_of_ble_eq_true rfl) ⟨Nat.le_of_ble_eq_true rfl, Nat.le_of_ble_eq_true rfl⟩ gdX6_listHouses_41 ?_
        refine g_if_eq E 50 gdX6_listHouses_44 (by decide) h (fun h => ?_) (fun h => ?_)
        ·
          refine g_aload_n E gdX6_listHouses_50 rfl 1 rfl ?_
          refine g_get (T := TX6) E fw_X6 59 (wC_59 g ad o) rfl 3 (by decide) w_381 rfl rfl gdX6_listHouses_51 ?_
          refine g_aload_n E gdX6_listHouses_54 rfl 1 rfl ?_
          refine g_get (T := TX6) E fw_X6 59 (wC_59 g ad o) rfl 8 (by decide) w_386 rfl rfl gdX6_listHouses_55 ?_
          refine g_iload E gdX6_listHouses_58 0 rfl ?_
          obtain ⟨hi9, h⟩ := qIn_of h
          obtain ⟨o10, e_o10, h⟩ := qNm_of h
          refine g_iast (ws' := wC g ad o10) E 61 (wC_61 g ad o) (by decide) hi9 (by rw [e_o10]; exact wC_s61 g ad o _ _) gdX6_listHouses_60 ?_
          refine g_aload_n E gdX6_listHouses_61 rfl 1 rfl ?_
          refine g_get (T := TX6) E fw_X6 59 (wC_59 g ad o10) rfl 4 (by decide) w_382 rfl rfl gdX6_listHouses_62 ?_
          refine g_aload_n E gdX6_listHouses_65 rfl 1 rfl ?_
          refine g_get (T := TX6) E fw_X6 59 (wC_59 g ad o10) rfl 8 (by decide) w_386 rfl rfl gdX6_listHouses_66 ?_
          refine g_aload_n E gdX6_listHouses_69 rfl 2 rfl ?_
          refine g_iload E gdX6_listHouses_70 5 rfl ?_
          obtain ⟨r11, hc12, h⟩ := qB_of h
          refine g_Vi (r := r11) (As := [iv x5]) (rest := [iv (o10.1 59 8), .ref (ad 62)]) (w := wC g ad o10) E (c_X1_cellOfOne l g ad o10 x5 r11 hc12) okm_X1_cellOfOne okw_X1_cellOfOne w_1141 rfl (wC_10 g ad o10) rfl rfl (Nat.le_of_ble_eq_true rfl) ⟨Nat.le_of_ble_eq_true rfl, Nat.le_of_ble_eq_true rfl⟩ gdX6_listHouses_72 ?_
          obtain ⟨hi13, h⟩ := qIn_of h
          obtain ⟨o14, e_o14, h⟩ := qNm_of h
          refine g_iast (ws' := wC g ad o14) E 62 (wC_62 g ad o10) (by decide) hi13 (by rw [e_o14]; exact wC_s62 g ad o10 _ _) gdX6_listHouses_75 ?_
          refine g_aload_n E gdX6_listHouses_76 rfl 1 rfl ?_
          refine g_dup E gdX6_listHouses_77 rfl ?_
          refine g_get (T := TX6) E fw_X6 59 (wC_59 g ad o14) rfl 8 (by decide) w_386 rfl rfl gdX6_listHouses_78 ?_
          refine g_iconst E gdX6_listHouses_81 ?_
          refine g_iadd E gdX6_listHouses_82 ?_
          obtain ⟨o15, e_o15, h⟩ := qNm_of h
          refine g_puti (T := TX6) (ws' := wC g ad o15) E fw_X6 tyX6 tyX6_ok nmX6 59 (wC_59 g ad o14) rfl 8 (by decide) w_386 rfl rfl (by decide +kernel) (Nat.le_of_ble_eq_true rfl) (by rw [e_o15]; exact wC_p59_8 g ad o14 _) gdX6_listHouses_83 ?_
          refine g_iload E gdX6_listHouses_86 4 rfl ?_
          refine g_iload E gdX6_listHouses_88 0 rfl ?_
          refine g_iadd E gdX6_listHouses_90 ?_
          obtain ⟨n16, e_n16, h⟩ := qNm_of h
          refine g_nmi e_n16 ?_
          refine g_istore E [(4, iv n16), (6, iv r3), (0, .ref (ad 59)), (1, .ref (ad 10)), (2, .long z2), (5, iv x5)] gdX6_listHouses_91 (by decide) rfl ?_
          refine g_sub E [2, 3, 4, 0, 5] rfl ?_
          exact j93 o15 z2 n16 x5 v h k0 k1
        ·
          refine g_goto E 93 gdX6_listHouses_47 (by decide) ?_
          refine g_sub E [1, 2, 3, 4, 5] rfl ?_
          exact j93 o z2 x4 x5 v h k0 k1
  have j11 : ∀ (o : OO) (z2 : Int64) (x4 : Int) (x5 : Int), e_X6_listHouses_11 o z2 x4 x5 = some v → Go X 11 (wC g ad o) [(0, .ref (ad 59)), (1, .ref (ad 10)), (2, .long z2), (4, iv x4), (5, iv x5)] [] := by
    intro o z2 x4 x5 h
    unfold e_X6_listHouses_11 at h
    obtain ⟨r, hr, h⟩ := qB_of h
    refine l11 z2 r _ hr ?_
    ·
      intro u0 u1 e
      subst e
      have h : b_X6_listHouses_99 u0 u1 = some v := h
      exact j99 u0 u1 h
  unfold s_X6_listHouses at h
  refine g_iconst E gdX6_listHouses_0 ?_
  refine g_istore E [(4, iv 0), (0, .ref (ad 59)), (1, .ref (ad 10)), (2, .long z2)] gdX6_listHouses_1 (by decide) rfl ?_
  refine g_aload_n E gdX6_listHouses_3 rfl 1 rfl ?_
  refine g_iconst E gdX6_listHouses_4 ?_
  obtain ⟨o17, e_o17, h⟩ := qNm_of h
  refine g_puti (T := TX6) (ws' := wC g ad o17) E fw_X6 tyX6 tyX6_ok nmX6 59 (wC_59 g ad o) rfl 8 (by decide) w_386 rfl rfl (by decide +kernel) (Nat.le_of_ble_eq_true rfl) (by rw [e_o17]; exact wC_p59_8 g ad o _) gdX6_listHouses_5 ?_
  refine g_iconst E gdX6_listHouses_8 ?_
  refine g_istore E [(5, iv 0), (4, iv 0), (0, .ref (ad 59)), (1, .ref (ad 10)), (2, .long z2)] gdX6_listHouses_9 (by decide) rfl ?_
  refine g_sub E [2, 3, 4, 1, 0] rfl ?_
  exact j11 o17 z2 0 0 h
