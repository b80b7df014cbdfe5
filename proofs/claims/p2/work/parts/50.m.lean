set_option maxRecDepth 200000 in
theorem w_604 : Cond.fieldLink "CityRoad$Rules" 25 "CityRoad$Rules" "LETTERS" "[I" ∈ tb := tb_mem 604 (by decide +kernel) rfl
set_option maxRecDepth 200000 in
theorem w_546 : Cond.code yX8_holds cX8_holds 3 (some .boolean) ∈ tb := tb_mem 546 (by rfl) rfl
set_option maxRecDepth 200000 in
theorem w_544 : Cond.instanceMethod yX8_holds ∈ tb := tb_mem 544 (by decide +kernel) rfl
set_option maxRecDepth 200000 in
theorem w_545 : Cond.selects "CityRoad$Shelf" yX8_holds yX8_holds ∈ tb := tb_mem 545 (by decide +kernel) rfl
set_option maxRecDepth 200000 in
theorem w_609 : Cond.methodLink "CityRoad$Rules" 28 yX8_holds ∈ tb := tb_mem 609 (by decide +kernel) rfl
set_option maxRecDepth 200000 in
theorem w_597 : Cond.methodLink "CityRoad$Rules" 34 yX8_at ∈ tb := tb_mem 597 (by decide +kernel) rfl
set_option maxRecDepth 200000 in
theorem w_612 : Cond.code yX7_isDigit cX7_isDigit 1 (some .boolean) ∈ tb := tb_mem 612 (by rfl) rfl
set_option maxRecDepth 200000 in
theorem w_611 : Cond.static yX7_isDigit ∈ tb := tb_mem 611 (by decide +kernel) rfl
set_option maxRecDepth 200000 in
theorem w_610 : Cond.methodLink "CityRoad$Rules" 38 yX7_isDigit ∈ tb := tb_mem 610 (by decide +kernel) rfl
set_option maxRecDepth 200000 in
theorem w_593 : Cond.methodLink "CityRoad$Rules" 42 yX8_sizeOf ∈ tb := tb_mem 593 (by decide +kernel) rfl
set_option maxRecDepth 200000 in
theorem w_603 : Cond.code yX7_letterOf cX7_letterOf 2 (some .int) ∈ tb := tb_mem 603 (by rfl) rfl
set_option maxRecDepth 200000 in
theorem w_602 : Cond.static yX7_letterOf ∈ tb := tb_mem 602 (by decide +kernel) rfl
set_option maxRecDepth 200000 in
theorem w_601 : Cond.methodLink "CityRoad$Rules" 46 yX7_letterOf ∈ tb := tb_mem 601 (by decide +kernel) rfl
set_option maxRecDepth 200000 in
theorem w_608 : Cond.code yX7_digitsAt cX7_digitsAt 4 (some .int) ∈ tb := tb_mem 608 (by rfl) rfl
set_option maxRecDepth 200000 in
theorem w_607 : Cond.static yX7_digitsAt ∈ tb := tb_mem 607 (by decide +kernel) rfl
set_option maxRecDepth 200000 in
theorem w_606 : Cond.methodLink "CityRoad$Rules" 49 yX7_digitsAt ∈ tb := tb_mem 606 (by decide +kernel) rfl
set_option maxRecDepth 200000 in
theorem w_592 : Cond.code yX7_firstFault cX7_firstFault 5 (some .int) ∈ tb := tb_mem 592 (by rfl) rfl
set_option maxRecDepth 200000 in
theorem w_591 : Cond.static yX7_firstFault ∈ tb := tb_mem 591 (by decide +kernel) rfl
set_option maxRecDepth 200000 in
theorem w_590 : Cond.methodLink "CityRoad" 132 yX7_firstFault ∈ tb := tb_mem 590 (by decide +kernel) rfl
set_option maxRecDepth 200000 in
theorem w_770 : Cond.code yX7_isLetter cX7_isLetter 1 (some .boolean) ∈ tb := tb_mem 770 (by rfl) rfl
set_option maxRecDepth 200000 in
theorem w_769 : Cond.static yX7_isLetter ∈ tb := tb_mem 769 (by decide +kernel) rfl
set_option maxRecDepth 200000 in
theorem w_768 : Cond.methodLink "CityRoad" 209 yX7_isLetter ∈ tb := tb_mem 768 (by decide +kernel) rfl
set_option maxRecDepth 200000 in
theorem w_686 : Cond.code yX11_isDay cX11_isDay 1 (some .boolean) ∈ tb := tb_mem 686 (by rfl) rfl
set_option maxRecDepth 200000 in
theorem w_685 : Cond.static yX11_isDay ∈ tb := tb_mem 685 (by decide +kernel) rfl
set_option maxRecDepth 200000 in
theorem w_684 : Cond.methodLink "CityRoad" 180 yX11_isDay ∈ tb := tb_mem 684 (by decide +kernel) rfl
set_option maxRecDepth 200000 in
theorem w_259 : Cond.fieldLink "CityRoad$Marks" 39 "CityRoad$Marks" "amounts" "[I" ∈ tb := tb_mem 259 (by decide +kernel) rfl
set_option maxRecDepth 200000 in
theorem w_261 : Cond.fieldLink "CityRoad$Marks" 45 "CityRoad$Marks" "dates" "[I" ∈ tb := tb_mem 261 (by decide +kernel) rfl
set_option maxRecDepth 200000 in
theorem w_872 : Cond.code yX4_add cX4_add 5 (some .int) ∈ tb := tb_mem 872 (by rfl) rfl
set_option maxRecDepth 200000 in
theorem w_870 : Cond.instanceMethod yX4_add ∈ tb := tb_mem 870 (by decide +kernel) rfl
set_option maxRecDepth 200000 in
theorem w_871 : Cond.selects "CityRoad$Marks" yX4_add yX4_add ∈ tb := tb_mem 871 (by decide +kernel) rfl
set_option maxRecDepth 200000 in
theorem w_869 : Cond.methodLink "CityRoad" 235 yX4_add ∈ tb := tb_mem 869 (by decide +kernel) rfl
set_option maxRecDepth 200000 in
theorem w_1002 : Cond.code yX4_setGrant cX4_setGrant 4 none ∈ tb := tb_mem 1002 (by rfl) rfl
set_option maxRecDepth 200000 in
theorem w_1000 : Cond.instanceMethod yX4_setGrant ∈ tb := tb_mem 1000 (by decide +kernel) rfl
set_option maxRecDepth 200000 in
theorem w_1001 : Cond.selects "CityRoad$Marks" yX4_setGrant yX4_setGrant ∈ tb := tb_mem 1001 (by decide +kernel) rfl
set_option maxRecDepth 200000 in
theorem w_999 : Cond.methodLink "CityRoad" 314 yX4_setGrant ∈ tb := tb_mem 999 (by decide +kernel) rfl
set_option maxRecDepth 200000 in
theorem w_1241 : Cond.code yX4_dateOf cX4_dateOf 2 (some .int) ∈ tb := tb_mem 1241 (by rfl) rfl
set_option maxRecDepth 200000 in
theorem w_1239 : Cond.instanceMethod yX4_dateOf ∈ tb := tb_mem 1239 (by decide +kernel) rfl
set_option maxRecDepth 200000 in
theorem w_1240 : Cond.selects "CityRoad$Marks" yX4_dateOf yX4_dateOf ∈ tb := tb_mem 1240 (by decide +kernel) rfl
set_option maxRecDepth 200000 in
theorem w_1238 : Cond.methodLink "CityRoad" 436 yX4_dateOf ∈ tb := tb_mem 1238 (by decide +kernel) rfl
set_option maxRecDepth 200000 in
theorem w_1049 : Cond.code yX4_amountOf cX4_amountOf 2 (some .int) ∈ tb := tb_mem 1049 (by rfl) rfl
set_option maxRecDepth 200000 in
theorem w_1047 : Cond.instanceMethod yX4_amountOf ∈ tb := tb_mem 1047 (by decide +kernel) rfl
set_option maxRecDepth 200000 in
theorem w_1048 : Cond.selects "CityRoad$Marks" yX4_amountOf yX4_amountOf ∈ tb := tb_mem 1048 (by decide +kernel) rfl
set_option maxRecDepth 200000 in
theorem w_1046 : Cond.methodLink "CityRoad" 331 yX4_amountOf ∈ tb := tb_mem 1046 (by decide +kernel) rfl
set_option maxRecDepth 200000 in
theorem w_1318 : Cond.constantLong "CityRoad" 439 (10) ∈ tb := tb_mem 1318 (by decide +kernel) rfl
set_option maxRecDepth 200000 in
theorem w_413 : Cond.fieldLink "CityRoad" 434 "CityRoad$Acts" "number" "I" ∈ tb := tb_mem 413 (by decide +kernel) rfl
set_option maxRecDepth 200000 in
theorem w_1086 : Cond.methodLink "CityRoad" 350 yX2_heardOn ∈ tb := tb_mem 1086 (by decide +kernel) rfl
set_option maxRecDepth 200000 in
theorem w_1093 : Cond.code yX2_heards cX2_heards 1 (some .int) ∈ tb := tb_mem 1093 (by rfl) rfl
set_option maxRecDepth 200000 in
theorem w_1091 : Cond.instanceMethod yX2_heards ∈ tb := tb_mem 1091 (by decide +kernel) rfl
set_option maxRecDepth 200000 in
theorem w_1092 : Cond.selects "CityRoad$Dealings" yX2_heards yX2_heards ∈ tb := tb_mem 1092 (by decide +kernel) rfl
set_option maxRecDepth 200000 in
theorem w_1090 : Cond.methodLink "CityRoad" 353 yX2_heards ∈ tb := tb_mem 1090 (by decide +kernel) rfl
set_option maxRecDepth 200000 in
theorem w_1097 : Cond.code yX2_addHeard cX2_addHeard 4 none ∈ tb := tb_mem 1097 (by rfl) rfl
set_option maxRecDepth 200000 in
theorem w_1095 : Cond.instanceMethod yX2_addHeard ∈ tb := tb_mem 1095 (by decide +kernel) rfl
set_option maxRecDepth 200000 in
theorem w_1096 : Cond.selects "CityRoad$Dealings" yX2_addHeard yX2_addHeard ∈ tb := tb_mem 1096 (by decide +kernel) rfl
set_option maxRecDepth 200000 in
theorem w_1094 : Cond.methodLink "CityRoad" 356 yX2_addHeard ∈ tb := tb_mem 1094 (by decide +kernel) rfl
set_option maxRecDepth 200000 in
theorem w_260 : Cond.fieldLink "CityRoad$Marks" 42 "CityRoad$Marks" "parties" "[I" ∈ tb := tb_mem 260 (by decide +kernel) rfl
set_option maxRecDepth 200000 in
theorem w_262 : Cond.fieldLink "CityRoad$Marks" 48 "CityRoad$Marks" "hours" "[I" ∈ tb := tb_mem 262 (by decide +kernel) rfl
set_option maxRecDepth 200000 in
theorem w_1010 : Cond.code yX4_setHearing cX4_setHearing 5 none ∈ tb := tb_mem 1010 (by rfl) rfl
set_option maxRecDepth 200000 in
theorem w_1008 : Cond.instanceMethod yX4_setHearing ∈ tb := tb_mem 1008 (by decide +kernel) rfl
set_option maxRecDepth 200000 in
theorem w_1009 : Cond.selects "CityRoad$Marks" yX4_setHearing yX4_setHearing ∈ tb := tb_mem 1009 (by decide +kernel) rfl
set_option maxRecDepth 200000 in
theorem w_1007 : Cond.methodLink "CityRoad" 317 yX4_setHearing ∈ tb := tb_mem 1007 (by decide +kernel) rfl
set_option maxRecDepth 200000 in
theorem w_695 : Cond.methodLink "CityRoad" 187 yX1_trait ∈ tb := tb_mem 695 (by decide +kernel) rfl
set_option maxRecDepth 200000 in
theorem w_835 : Cond.methodLink "CityRoad$Ground" 18 Lib.Math.abs.name ∈ tb := tb_mem 835 (by decide +kernel) rfl
set_option maxRecDepth 200000 in
theorem w_836 : Cond.static Lib.Math.abs.name ∈ tb := tb_mem 836 (by decide +kernel) rfl
set_option maxRecDepth 200000 in
theorem w_837 : Cond.code Lib.Math.abs.name Lib.Math.abs.code 1 (some .int) ∈ tb := tb_mem 837 (by rfl) rfl
set_option maxRecDepth 200000 in
theorem w_990 : Cond.code yX5_homeOf cX5_homeOf 2 (some .int) ∈ tb := tb_mem 990 (by rfl) rfl
set_option maxRecDepth 200000 in
theorem w_988 : Cond.instanceMethod yX5_homeOf ∈ tb := tb_mem 988 (by decide +kernel) rfl
set_option maxRecDepth 200000 in
theorem w_989 : Cond.selects "CityRoad$Persons" yX5_homeOf yX5_homeOf ∈ tb := tb_mem 989 (by decide +kernel) rfl
set_option maxRecDepth 200000 in
theorem w_987 : Cond.methodLink "CityRoad" 308 yX5_homeOf ∈ tb := tb_mem 987 (by decide +kernel) rfl
set_option maxRecDepth 200000 in
theorem w_1030 : Cond.code yX4_partyOf cX4_partyOf 2 (some .int) ∈ tb := tb_mem 1030 (by rfl) rfl
set_option maxRecDepth 200000 in
theorem w_1028 : Cond.instanceMethod yX4_partyOf ∈ tb := tb_mem 1028 (by decide +kernel) rfl
set_option maxRecDepth 200000 in
theorem w_1029 : Cond.selects "CityRoad$Marks" yX4_partyOf yX4_partyOf ∈ tb := tb_mem 1029 (by decide +kernel) rfl
set_option maxRecDepth 200000 in
theorem w_1027 : Cond.methodLink "CityRoad" 325 yX4_partyOf ∈ tb := tb_mem 1027 (by decide +kernel) rfl
set_option maxRecDepth 200000 in
theorem w_1037 : Cond.code yX3_steps cX3_steps 2 (some .int) ∈ tb := tb_mem 1037 (by rfl) rfl
set_option maxRecDepth 200000 in
theorem w_1036 : Cond.static yX3_steps ∈ tb := tb_mem 1036 (by decide +kernel) rfl
set_option maxRecDepth 200000 in
theorem w_1035 : Cond.methodLink "CityRoad" 521 yX3_steps ∈ tb := tb_mem 1035 (by decide +kernel) rfl
set_option maxRecDepth 200000 in
theorem w_1041 : Cond.code yX4_hourOf cX4_hourOf 2 (some .int) ∈ tb := tb_mem 1041 (by rfl) rfl
set_option maxRecDepth 200000 in
theorem w_1039 : Cond.instanceMethod yX4_hourOf ∈ tb := tb_mem 1039 (by decide +kernel) rfl
set_option maxRecDepth 200000 in
theorem w_1040 : Cond.selects "CityRoad$Marks" yX4_hourOf yX4_hourOf ∈ tb := tb_mem 1040 (by decide +kernel) rfl
set_option maxRecDepth 200000 in
theorem w_1038 : Cond.methodLink "CityRoad" 524 yX4_hourOf ∈ tb := tb_mem 1038 (by decide +kernel) rfl
set_option maxRecDepth 200000 in
theorem w_1045 : Cond.code yX5_canCome cX5_canCome 4 (some .boolean) ∈ tb := tb_mem 1045 (by rfl) rfl
set_option maxRecDepth 200000 in
theorem w_1043 : Cond.instanceMethod yX5_canCome ∈ tb := tb_mem 1043 (by decide +kernel) rfl
set_option maxRecDepth 200000 in
theorem w_1044 : Cond.selects "CityRoad$Persons" yX5_canCome yX5_canCome ∈ tb := tb_mem 1044 (by decide +kernel) rfl
set_option maxRecDepth 200000 in
theorem w_1042 : Cond.methodLink "CityRoad" 527 yX5_canCome ∈ tb := tb_mem 1042 (by decide +kernel) rfl
set_option maxRecDepth 200000 in
theorem w_1237 : Cond.code yX4_dayOf cX4_dayOf 2 (some .int) ∈ tb := tb_mem 1237 (by rfl) rfl
set_option maxRecDepth 200000 in
theorem w_1235 : Cond.instanceMethod yX4_dayOf ∈ tb := tb_mem 1235 (by decide +kernel) rfl
set_option maxRecDepth 200000 in
theorem w_1236 : Cond.selects "CityRoad$Marks" yX4_dayOf yX4_dayOf ∈ tb := tb_mem 1236 (by decide +kernel) rfl
set_option maxRecDepth 200000 in
theorem w_1234 : Cond.methodLink "CityRoad" 530 yX4_dayOf ∈ tb := tb_mem 1234 (by decide +kernel) rfl
set_option maxRecDepth 200000 in
theorem w_1034 : Cond.code yX11_couldCome cX11_couldCome 6 (some .int) ∈ tb := tb_mem 1034 (by rfl) rfl
set_option maxRecDepth 200000 in
theorem w_1033 : Cond.instanceMethod yX11_couldCome ∈ tb := tb_mem 1033 (by decide +kernel) rfl
set_option maxRecDepth 200000 in
theorem w_11 : Cond.selects "CityRoad" yX11_couldCome yX11_couldCome ∈ tb := tb_mem 11 (by decide +kernel) rfl
set_option maxRecDepth 200000 in
theorem w_1031 : Cond.methodLink "CityRoad" 328 yX11_couldCome ∈ tb := tb_mem 1031 (by decide +kernel) rfl
set_option maxRecDepth 200000 in
theorem w_1249 : Cond.code yX4_hangsOn cX4_hangsOn 2 (some .int) ∈ tb := tb_mem 1249 (by rfl) rfl
set_option maxRecDepth 200000 in
theorem w_1247 : Cond.instanceMethod yX4_hangsOn ∈ tb := tb_mem 1247 (by decide +kernel) rfl
set_option maxRecDepth 200000 in
theorem w_1248 : Cond.selects "CityRoad$Marks" yX4_hangsOn yX4_hangsOn ∈ tb := tb_mem 1248 (by decide +kernel) rfl
set_option maxRecDepth 200000 in
theorem w_1246 : Cond.methodLink "CityRoad" 533 yX4_hangsOn ∈ tb := tb_mem 1246 (by decide +kernel) rfl
set_option maxRecDepth 200000 in
theorem w_1233 : Cond.code yX11_isVoidHearing cX11_isVoidHearing 3 (some .boolean) ∈ tb := tb_mem 1233 (by rfl) rfl
set_option maxRecDepth 200000 in
theorem w_1232 : Cond.instanceMethod yX11_isVoidHearing ∈ tb := tb_mem 1232 (by decide +kernel) rfl
set_option maxRecDepth 200000 in
theorem w_22 : Cond.selects "CityRoad" yX11_isVoidHearing yX11_isVoidHearing ∈ tb := tb_mem 22 (by decide +kernel) rfl
set_option maxRecDepth 200000 in
theorem w_1230 : Cond.methodLink "CityRoad" 411 yX11_isVoidHearing ∈ tb := tb_mem 1230 (by decide +kernel) rfl
set_option maxRecDepth 200000 in
theorem w_1245 : Cond.code yX11_isVoidTaking cX11_isVoidTaking 3 (some .boolean) ∈ tb := tb_mem 1245 (by rfl) rfl
set_option maxRecDepth 200000 in
theorem w_1244 : Cond.instanceMethod yX11_isVoidTaking ∈ tb := tb_mem 1244 (by decide +kernel) rfl
set_option maxRecDepth 200000 in
theorem w_23 : Cond.selects "CityRoad" yX11_isVoidTaking yX11_isVoidTaking ∈ tb := tb_mem 23 (by decide +kernel) rfl
set_option maxRecDepth 200000 in
theorem w_1242 : Cond.methodLink "CityRoad" 414 yX11_isVoidTaking ∈ tb := tb_mem 1242 (by decide +kernel) rfl
set_option maxRecDepth 200000 in
theorem w_543 : Cond.methodLink "CityRoad" 109 yX8_holds ∈ tb := tb_mem 543 (by decide +kernel) rfl
set_option maxRecDepth 200000 in
theorem w_550 : Cond.code yX8_exchange cX8_exchange 5 (some .int) ∈ tb := tb_mem 550 (by rfl) rfl
set_option maxRecDepth 200000 in
theorem w_548 : Cond.instanceMethod yX8_exchange ∈ tb := tb_mem 548 (by decide +kernel) rfl
set_option maxRecDepth 200000 in
theorem w_549 : Cond.selects "CityRoad$Shelf" yX8_exchange yX8_exchange ∈ tb := tb_mem 549 (by decide +kernel) rfl
set_option maxRecDepth 200000 in
theorem w_547 : Cond.methodLink "CityRoad" 113 yX8_exchange ∈ tb := tb_mem 547 (by decide +kernel) rfl
set_option maxRecDepth 200000 in
theorem w_466 : Cond.fieldLink "CityRoad" 66 "CityRoad" "ways" "LCityRoad$WaySearch;" ∈ tb := tb_mem 466 (by decide +kernel) rfl
set_option maxRecDepth 200000 in
theorem w_333 : Cond.fieldLink "CityRoad" 507 "CityRoad$WaySearch" "prices" "[I" ∈ tb := tb_mem 333 (by decide +kernel) rfl
set_option maxRecDepth 200000 in
theorem w_678 : Cond.code yX1_latestWorth cX1_latestWorth 2 (some .int) ∈ tb := tb_mem 678 (by rfl) rfl
set_option maxRecDepth 200000 in
theorem w_676 : Cond.instanceMethod yX1_latestWorth ∈ tb := tb_mem 676 (by decide +kernel) rfl
set_option maxRecDepth 200000 in
theorem w_677 : Cond.selects "CityRoad$Buildings" yX1_latestWorth yX1_latestWorth ∈ tb := tb_mem 677 (by decide +kernel) rfl
set_option maxRecDepth 200000 in
theorem w_675 : Cond.methodLink "CityRoad" 174 yX1_latestWorth ∈ tb := tb_mem 675 (by decide +kernel) rfl
set_option maxRecDepth 200000 in
theorem w_807 : Cond.code yX3_sortOf cX3_sortOf 2 (some .int) ∈ tb := tb_mem 807 (by rfl) rfl
set_option maxRecDepth 200000 in
theorem w_805 : Cond.instanceMethod yX3_sortOf ∈ tb := tb_mem 805 (by decide +kernel) rfl
set_option maxRecDepth 200000 in
theorem w_806 : Cond.selects "CityRoad$Ground" yX3_sortOf yX3_sortOf ∈ tb := tb_mem 806 (by decide +kernel) rfl
set_option maxRecDepth 200000 in
theorem w_804 : Cond.methodLink "CityRoad" 501 yX3_sortOf ∈ tb := tb_mem 804 (by decide +kernel) rfl
theorem gdX7_letterOf_17 : decode cX7_letterOf 17 = .ok (.iload_n 1, 1) := by decide +kernel
theorem gdX7_letterOf_18 : decode cX7_letterOf 18 = .ok (.ireturn, 1) := by decide +kernel
theorem gdX7_letterOf_25 : decode cX7_letterOf 25 = .ok (.bipush (-9), 2) := by decide +kernel
theorem gdX7_letterOf_27 : decode cX7_letterOf 27 = .ok (.ireturn, 1) := by decide +kernel
theorem gdX7_letterOf_2 : decode cX7_letterOf 2 = .ok (.iload_n 1, 1) := by decide +kernel
theorem gdX7_letterOf_3 : decode cX7_letterOf 3 = .ok (.bipush 8, 2) := by decide +kernel
theorem gdX7_letterOf_5 : decode cX7_letterOf 5 = .ok (.if_icmp .ge 20, 3) := by decide +kernel
theorem gdX7_letterOf_8 : decode cX7_letterOf 8 = .ok (.getstatic 25, 3) := by decide +kernel
theorem gdX7_letterOf_11 : decode cX7_letterOf 11 = .ok (.iload_n 1, 1) := by decide +kernel
theorem gdX7_letterOf_12 : decode cX7_letterOf 12 = .ok (.iaload, 1) := by decide +kernel
theorem gdX7_letterOf_13 : decode cX7_letterOf 13 = .ok (.iload_n 0, 1) := by decide +kernel
theorem gdX7_letterOf_14 : decode cX7_letterOf 14 = .ok (.if_icmp .ne 5, 3) := by decide +kernel
theorem gdX7_letterOf_19 : decode cX7_letterOf 19 = .ok (.iinc 1 1, 3) := by decide +kernel
theorem gdX7_letterOf_22 : decode cX7_letterOf 22 = .ok (.goto (-20), 3) := by decide +kernel
theorem gdX7_letterOf_0 : decode cX7_letterOf 0 = .ok (.iconst 0, 1) := by decide +kernel
theorem gdX7_letterOf_1 : decode cX7_letterOf 1 = .ok (.istore_n 1, 1) := by decide +kernel
theorem gdX8_holds_19 : decode cX8_holds 19 = .ok (.ireturn, 1) := by decide +kernel
theorem gdX8_holds_18 : decode cX8_holds 18 = .ok (.iconst 0, 1) := by decide +kernel
theorem gdX8_holds_0 : decode cX8_holds 0 = .ok (.iload_n 2, 1) := by decide +kernel
theorem gdX8_holds_1 : decode cX8_holds 1 = .ok (.ifCond .lt 17, 3) := by decide +kernel
theorem gdX8_holds_4 : decode cX8_holds 4 = .ok (.iload_n 2, 1) := by decide +kernel
theorem gdX8_holds_5 : decode cX8_holds 5 = .ok (.aload_n 0, 1) := by decide +kernel
theorem gdX8_holds_6 : decode cX8_holds 6 = .ok (.getfield 9, 3) := by decide +kernel
theorem gdX8_holds_9 : decode cX8_holds 9 = .ok (.iload_n 1, 1) := by decide +kernel
theorem gdX8_holds_10 : decode cX8_holds 10 = .ok (.iaload, 1) := by decide +kernel
theorem gdX8_holds_11 : decode cX8_holds 11 = .ok (.if_icmp .ge 7, 3) := by decide +kernel
theorem gdX8_holds_14 : decode cX8_holds 14 = .ok (.iconst 1, 1) := by decide +kernel
theorem gdX8_holds_15 : decode cX8_holds 15 = .ok (.goto 4, 3) := by decide +kernel
theorem gdX7_isDigit_17 : decode cX7_isDigit 17 = .ok (.ireturn, 1) := by decide +kernel
theorem gdX7_isDigit_16 : decode cX7_isDigit 16 = .ok (.iconst 0, 1) := by decide +kernel
theorem gdX7_isDigit_0 : decode cX7_isDigit 0 = .ok (.iload_n 0, 1) := by decide +kernel
theorem gdX7_isDigit_1 : decode cX7_isDigit 1 = .ok (.bipush 48, 2) := by decide +kernel
theorem gdX7_isDigit_3 : decode cX7_isDigit 3 = .ok (.if_icmp .lt 13, 3) := by decide +kernel
theorem gdX7_isDigit_6 : decode cX7_isDigit 6 = .ok (.iload_n 0, 1) := by decide +kernel
theorem gdX7_isDigit_7 : decode cX7_isDigit 7 = .ok (.bipush 57, 2) := by decide +kernel
theorem gdX7_isDigit_9 : decode cX7_isDigit 9 = .ok (.if_icmp .gt 7, 3) := by decide +kernel
theorem gdX7_isDigit_12 : decode cX7_isDigit 12 = .ok (.iconst 1, 1) := by decide +kernel
theorem gdX7_isDigit_13 : decode cX7_isDigit 13 = .ok (.goto 4, 3) := by decide +kernel
theorem gdX7_digitsAt_38 : decode cX7_digitsAt 38 = .ok (.iload_n 3, 1) := by decide +kernel
theorem gdX7_digitsAt_39 : decode cX7_digitsAt 39 = .ok (.ireturn, 1) := by decide +kernel
theorem gdX7_digitsAt_2 : decode cX7_digitsAt 2 = .ok (.iload_n 3, 1) := by decide +kernel
theorem gdX7_digitsAt_3 : decode cX7_digitsAt 3 = .ok (.iconst 4, 1) := by decide +kernel
theorem gdX7_digitsAt_4 : decode cX7_digitsAt 4 = .ok (.if_icmp .ge 34, 3) := by decide +kernel
theorem gdX7_digitsAt_7 : decode cX7_digitsAt 7 = .ok (.aload_n 0, 1) := by decide +kernel
theorem gdX7_digitsAt_8 : decode cX7_digitsAt 8 = .ok (.iload_n 1, 1) := by decide +kernel
theorem gdX7_digitsAt_9 : decode cX7_digitsAt 9 = .ok (.iload_n 2, 1) := by decide +kernel
theorem gdX7_digitsAt_10 : decode cX7_digitsAt 10 = .ok (.iload_n 3, 1) := by decide +kernel
theorem gdX7_digitsAt_11 : decode cX7_digitsAt 11 = .ok (.iadd, 1) := by decide +kernel
theorem gdX7_digitsAt_12 : decode cX7_digitsAt 12 = .ok (.invokevirtual 28, 3) := by decide +kernel
theorem gdX7_digitsAt_15 : decode cX7_digitsAt 15 = .ok (.ifCond .eq 23, 3) := by decide +kernel
theorem gdX7_digitsAt_18 : decode cX7_digitsAt 18 = .ok (.aload_n 0, 1) := by decide +kernel
theorem gdX7_digitsAt_19 : decode cX7_digitsAt 19 = .ok (.iload_n 1, 1) := by decide +kernel
theorem gdX7_digitsAt_20 : decode cX7_digitsAt 20 = .ok (.iload_n 2, 1) := by decide +kernel
theorem gdX7_digitsAt_21 : decode cX7_digitsAt 21 = .ok (.iload_n 3, 1) := by decide +kernel
theorem gdX7_digitsAt_22 : decode cX7_digitsAt 22 = .ok (.iadd, 1) := by decide +kernel
theorem gdX7_digitsAt_23 : decode cX7_digitsAt 23 = .ok (.invokevirtual 34, 3) := by decide +kernel
theorem gdX7_digitsAt_26 : decode cX7_digitsAt 26 = .ok (.invokestatic 38, 3) := by decide +kernel
theorem gdX7_digitsAt_29 : decode cX7_digitsAt 29 = .ok (.ifCond .eq 9, 3) := by decide +kernel
theorem gdX7_digitsAt_32 : decode cX7_digitsAt 32 = .ok (.iinc 3 1, 3) := by decide +kernel
theorem gdX7_digitsAt_35 : decode cX7_digitsAt 35 = .ok (.goto (-33), 3) := by decide +kernel
theorem gdX7_digitsAt_0 : decode cX7_digitsAt 0 = .ok (.iconst 0, 1) := by decide +kernel
theorem gdX7_digitsAt_1 : decode cX7_digitsAt 1 = .ok (.istore_n 3, 1) := by decide +kernel
theorem gdX7_firstFault_39 : decode cX7_firstFault 39 = .ok (.iload_n 2, 1) := by decide +kernel
theorem gdX7_firstFault_40 : decode cX7_firstFault 40 = .ok (.iconst 1, 1) := by decide +kernel
theorem gdX7_firstFault_41 : decode cX7_firstFault 41 = .ok (.isub, 1) := by decide +kernel
theorem gdX7_firstFault_42 : decode cX7_firstFault 42 = .ok (.ireturn, 1) := by decide +kernel
theorem gdX7_firstFault_56 : decode cX7_firstFault 56 = .ok (.iload_n 2, 1) := by decide +kernel
theorem gdX7_firstFault_57 : decode cX7_firstFault 57 = .ok (.ireturn, 1) := by decide +kernel
theorem gdX7_firstFault_66 : decode cX7_firstFault 66 = .ok (.bipush (-9), 2) := by decide +kernel
theorem gdX7_firstFault_68 : decode cX7_firstFault 68 = .ok (.ireturn, 1) := by decide +kernel
theorem gdX7_firstFault_2 : decode cX7_firstFault 2 = .ok (.iload_n 2, 1) := by decide +kernel
theorem gdX7_firstFault_3 : decode cX7_firstFault 3 = .ok (.aload_n 0, 1) := by decide +kernel
theorem gdX7_firstFault_4 : decode cX7_firstFault 4 = .ok (.iload_n 1, 1) := by decide +kernel
theorem gdX7_firstFault_5 : decode cX7_firstFault 5 = .ok (.invokevirtual 42, 3) := by decide +kernel
theorem gdX7_firstFault_8 : decode cX7_firstFault 8 = .ok (.if_icmp .ge 58, 3) := by decide +kernel
theorem gdX7_firstFault_11 : decode cX7_firstFault 11 = .ok (.aload_n 0, 1) := by decide +kernel
theorem gdX7_firstFault_12 : decode cX7_firstFault 12 = .ok (.iload_n 1, 1) := by decide +kernel
theorem gdX7_firstFault_13 : decode cX7_firstFault 13 = .ok (.iload_n 2, 1) := by decide +kernel
theorem gdX7_firstFault_14 : decode cX7_firstFault 14 = .ok (.invokevirtual 34, 3) := by decide +kernel
theorem gdX7_firstFault_17 : decode cX7_firstFault 17 = .ok (.istore_n 3, 1) := by decide +kernel
theorem gdX7_firstFault_18 : decode cX7_firstFault 18 = .ok (.iinc 2 1, 3) := by decide +kernel
theorem gdX7_firstFault_21 : decode cX7_firstFault 21 = .ok (.iload_n 3, 1) := by decide +kernel
theorem gdX7_firstFault_22 : decode cX7_firstFault 22 = .ok (.bipush 32, 2) := by decide +kernel
theorem gdX7_firstFault_24 : decode cX7_firstFault 24 = .ok (.if_icmp .ne 6, 3) := by decide +kernel
theorem gdX7_firstFault_30 : decode cX7_firstFault 30 = .ok (.iload_n 3, 1) := by decide +kernel
theorem gdX7_firstFault_31 : decode cX7_firstFault 31 = .ok (.invokestatic 46, 3) := by decide +kernel
theorem gdX7_firstFault_34 : decode cX7_firstFault 34 = .ok (.bipush (-9), 2) := by decide +kernel
theorem gdX7_firstFault_36 : decode cX7_firstFault 36 = .ok (.if_icmp .ne 7, 3) := by decide +kernel
theorem gdX7_firstFault_43 : decode cX7_firstFault 43 = .ok (.aload_n 0, 1) := by decide +kernel
theorem gdX7_firstFault_44 : decode cX7_firstFault 44 = .ok (.iload_n 1, 1) := by decide +kernel
theorem gdX7_firstFault_45 : decode cX7_firstFault 45 = .ok (.iload_n 2, 1) := by decide +kernel
theorem gdX7_firstFault_46 : decode cX7_firstFault 46 = .ok (.invokestatic 49, 3) := by decide +kernel
theorem gdX7_firstFault_49 : decode cX7_firstFault 49 = .ok (.istore 4, 2) := by decide +kernel
theorem gdX7_firstFault_51 : decode cX7_firstFault 51 = .ok (.iload 4, 2) := by decide +kernel
theorem gdX7_firstFault_53 : decode cX7_firstFault 53 = .ok (.ifCond .ne 5, 3) := by decide +kernel
theorem gdX7_firstFault_58 : decode cX7_firstFault 58 = .ok (.iload_n 2, 1) := by decide +kernel
theorem gdX7_firstFault_59 : decode cX7_firstFault 59 = .ok (.iload 4, 2) := by decide +kernel
theorem gdX7_firstFault_61 : decode cX7_firstFault 61 = .ok (.iadd, 1) := by decide +kernel
theorem gdX7_firstFault_62 : decode cX7_firstFault 62 = .ok (.istore_n 2, 1) := by decide +kernel
theorem gdX7_firstFault_63 : decode cX7_firstFault 63 = .ok (.goto (-61), 3) := by decide +kernel
theorem gdX7_firstFault_27 : decode cX7_firstFault 27 = .ok (.goto (-25), 3) := by decide +kernel
theorem gdX7_firstFault_0 : decode cX7_firstFault 0 = .ok (.iconst 0, 1) := by decide +kernel
theorem gdX7_firstFault_1 : decode cX7_firstFault 1 = .ok (.istore_n 2, 1) := by decide +kernel
theorem gdX11_fault_0 : decode cX11_fault 0 = .ok (.aload_n 0, 1) := by decide +kernel
theorem gdX11_fault_1 : decode cX11_fault 1 = .ok (.getfield 20, 3) := by decide +kernel
theorem gdX11_fault_4 : decode cX11_fault 4 = .ok (.iload_n 1, 1) := by decide +kernel
theorem gdX11_fault_5 : decode cX11_fault 5 = .ok (.invokevirtual 95, 3) := by decide +kernel
theorem gdX11_fault_8 : decode cX11_fault 8 = .ok (.ifCond .ne 5, 3) := by decide +kernel
theorem gdX11_fault_13 : decode cX11_fault 13 = .ok (.aload_n 0, 1) := by decide +kernel
theorem gdX11_fault_14 : decode cX11_fault 14 = .ok (.getfield 20, 3) := by decide +kernel
theorem gdX11_fault_17 : decode cX11_fault 17 = .ok (.iload_n 1, 1) := by decide +kernel
theorem gdX11_fault_18 : decode cX11_fault 18 = .ok (.invokevirtual 106, 3) := by decide +kernel
theorem gdX11_fault_21 : decode cX11_fault 21 = .ok (.ifCond .ne 9, 3) := by decide +kernel
theorem gdX11_fault_30 : decode cX11_fault 30 = .ok (.aload_n 0, 1) := by decide +kernel
theorem gdX11_fault_31 : decode cX11_fault 31 = .ok (.getfield 20, 3) := by decide +kernel
theorem gdX11_fault_34 : decode cX11_fault 34 = .ok (.iload_n 1, 1) := by decide +kernel
theorem gdX11_fault_35 : decode cX11_fault 35 = .ok (.invokestatic 132, 3) := by decide +kernel
theorem gdX11_fault_38 : decode cX11_fault 38 = .ok (.ireturn, 1) := by decide +kernel
theorem gdX11_fault_24 : decode cX11_fault 24 = .ok (.aload_n 0, 1) := by decide +kernel
theorem gdX11_fault_25 : decode cX11_fault 25 = .ok (.iconst 1, 1) := by decide +kernel
theorem gdX11_fault_26 : decode cX11_fault 26 = .ok (.invokevirtual 99, 3) := by decide +kernel
theorem gdX11_fault_29 : decode cX11_fault 29 = .ok (.ireturn, 1) := by decide +kernel
theorem gdX11_fault_11 : decode cX11_fault 11 = .ok (.iconst (-1), 1) := by decide +kernel
theorem gdX11_fault_12 : decode cX11_fault 12 = .ok (.ireturn, 1) := by decide +kernel
theorem gdX11_finding_0 : decode cX11_finding 0 = .ok (.aload_n 0, 1) := by decide +kernel
theorem gdX11_finding_1 : decode cX11_finding 1 = .ok (.getfield 477, 3) := by decide +kernel
theorem gdX11_finding_4 : decode cX11_finding 4 = .ok (.ireturn, 1) := by decide +kernel
theorem gdX11_findings_10 : decode cX11_findings 10 = .ok (.iconst (-1), 1) := by decide +kernel
theorem gdX11_findings_11 : decode cX11_findings 11 = .ok (.ireturn, 1) := by decide +kernel
theorem gdX11_findings_0 : decode cX11_findings 0 = .ok (.iload_n 1, 1) := by decide +kernel
theorem gdX11_findings_1 : decode cX11_findings 1 = .ok (.iconst 1, 1) := by decide +kernel
theorem gdX11_findings_2 : decode cX11_findings 2 = .ok (.if_icmp .lt 8, 3) := by decide +kernel
theorem gdX11_findings_5 : decode cX11_findings 5 = .ok (.iload_n 1, 1) := by decide +kernel
theorem gdX11_findings_6 : decode cX11_findings 6 = .ok (.iconst 5, 1) := by decide +kernel
theorem gdX11_findings_7 : decode cX11_findings 7 = .ok (.if_icmp .le 5, 3) := by decide +kernel
theorem gdX11_findings_12 : decode cX11_findings 12 = .ok (.aload_n 0, 1) := by decide +kernel
theorem gdX11_findings_13 : decode cX11_findings 13 = .ok (.getfield 91, 3) := by decide +kernel
theorem gdX11_findings_16 : decode cX11_findings 16 = .ok (.iload_n 1, 1) := by decide +kernel
theorem gdX11_findings_17 : decode cX11_findings 17 = .ok (.iaload, 1) := by decide +kernel
theorem gdX11_findings_18 : decode cX11_findings 18 = .ok (.ireturn, 1) := by decide +kernel
theorem gdX7_isLetter_15 : decode cX7_isLetter 15 = .ok (.ireturn, 1) := by decide +kernel
theorem gdX7_isLetter_14 : decode cX7_isLetter 14 = .ok (.iconst 0, 1) := by decide +kernel
theorem gdX7_isLetter_0 : decode cX7_isLetter 0 = .ok (.iload_n 0, 1) := by decide +kernel
theorem gdX7_isLetter_1 : decode cX7_isLetter 1 = .ok (.ifCond .lt 13, 3) := by decide +kernel
theorem gdX7_isLetter_4 : decode cX7_isLetter 4 = .ok (.iload_n 0, 1) := by decide +kernel
theorem gdX7_isLetter_5 : decode cX7_isLetter 5 = .ok (.bipush 8, 2) := by decide +kernel
theorem gdX7_isLetter_7 : decode cX7_isLetter 7 = .ok (.if_icmp .ge 7, 3) := by decide +kernel
theorem gdX7_isLetter_10 : decode cX7_isLetter 10 = .ok (.iconst 1, 1) := by decide +kernel
theorem gdX7_isLetter_11 : decode cX7_isLetter 11 = .ok (.goto 4, 3) := by decide +kernel
theorem gdX11_isDay_16 : decode cX11_isDay 16 = .ok (.ireturn, 1) := by decide +kernel
theorem gdX11_isDay_15 : decode cX11_isDay 15 = .ok (.iconst 0, 1) := by decide +kernel
theorem gdX11_isDay_0 : decode cX11_isDay 0 = .ok (.iload_n 0, 1) := by decide +kernel
theorem gdX11_isDay_1 : decode cX11_isDay 1 = .ok (.ifCond .lt 14, 3) := by decide +kernel
theorem gdX11_isDay_4 : decode cX11_isDay 4 = .ok (.iload_n 0, 1) := by decide +kernel
theorem gdX11_isDay_5 : decode cX11_isDay 5 = .ok (.sipush 999, 3) := by decide +kernel
theorem gdX11_isDay_8 : decode cX11_isDay 8 = .ok (.if_icmp .gt 7, 3) := by decide +kernel
theorem gdX11_isDay_11 : decode cX11_isDay 11 = .ok (.iconst 1, 1) := by decide +kernel
theorem gdX11_isDay_12 : decode cX11_isDay 12 = .ok (.goto 4, 3) := by decide +kernel
theorem gdX11_force_21 : decode cX11_force 21 = .ok (.iconst (-1), 1) := by decide +kernel
theorem gdX11_force_22 : decode cX11_force 22 = .ok (.ireturn, 1) := by decide +kernel
theorem gdX11_force_0 : decode cX11_force 0 = .ok (.iload_n 1, 1) := by decide +kernel
theorem gdX11_force_1 : decode cX11_force 1 = .ok (.invokestatic 209, 3) := by decide +kernel
theorem gdX11_force_4 : decode cX11_force 4 = .ok (.ifCond .eq 17, 3) := by decide +kernel
theorem gdX11_force_7 : decode cX11_force 7 = .ok (.iload_n 2, 1) := by decide +kernel
theorem gdX11_force_8 : decode cX11_force 8 = .ok (.invokestatic 180, 3) := by decide +kernel
theorem gdX11_force_11 : decode cX11_force 11 = .ok (.ifCond .eq 10, 3) := by decide +kernel
theorem gdX11_force_14 : decode cX11_force 14 = .ok (.iload_n 3, 1) := by decide +kernel
theorem gdX11_force_15 : decode cX11_force 15 = .ok (.invokestatic 180, 3) := by decide +kernel
theorem gdX11_force_18 : decode cX11_force 18 = .ok (.ifCond .ne 5, 3) := by decide +kernel
theorem gdX11_force_23 : decode cX11_force 23 = .ok (.aload_n 0, 1) := by decide +kernel
theorem gdX11_force_24 : decode cX11_force 24 = .ok (.getfield 45, 3) := by decide +kernel
theorem gdX11_force_27 : decode cX11_force 27 = .ok (.iload_n 1, 1) := by decide +kernel
theorem gdX11_force_28 : decode cX11_force 28 = .ok (.iload_n 2, 1) := by decide +kernel
theorem gdX11_force_29 : decode cX11_force 29 = .ok (.iload_n 3, 1) := by decide +kernel
theorem gdX11_force_30 : decode cX11_force 30 = .ok (.invokevirtual 212, 3) := by decide +kernel
theorem gdX11_force_33 : decode cX11_force 33 = .ok (.ireturn, 1) := by decide +kernel
theorem gdX4_add_0 : decode cX4_add 0 = .ok (.aload_n 0, 1) := by decide +kernel
theorem gdX4_add_1 : decode cX4_add 1 = .ok (.getfield 54, 3) := by decide +kernel
theorem gdX4_add_4 : decode cX4_add 4 = .ok (.istore 4, 2) := by decide +kernel
theorem gdX4_add_6 : decode cX4_add 6 = .ok (.aload_n 0, 1) := by decide +kernel
theorem gdX4_add_7 : decode cX4_add 7 = .ok (.dup, 1) := by decide +kernel
theorem gdX4_add_8 : decode cX4_add 8 = .ok (.getfield 54, 3) := by decide +kernel
theorem gdX4_add_11 : decode cX4_add 11 = .ok (.iconst 1, 1) := by decide +kernel
theorem gdX4_add_12 : decode cX4_add 12 = .ok (.iadd, 1) := by decide +kernel
theorem gdX4_add_13 : decode cX4_add 13 = .ok (.putfield 54, 3) := by decide +kernel
theorem gdX4_add_16 : decode cX4_add 16 = .ok (.aload_n 0, 1) := by decide +kernel
theorem gdX4_add_17 : decode cX4_add 17 = .ok (.getfield 11, 3) := by decide +kernel
theorem gdX4_add_20 : decode cX4_add 20 = .ok (.iload 4, 2) := by decide +kernel
theorem gdX4_add_22 : decode cX4_add 22 = .ok (.iload_n 1, 1) := by decide +kernel
theorem gdX4_add_23 : decode cX4_add 23 = .ok (.iastore, 1) := by decide +kernel
theorem gdX4_add_24 : decode cX4_add 24 = .ok (.aload_n 0, 1) := by decide +kernel
theorem gdX4_add_25 : decode cX4_add 25 = .ok (.getfield 15, 3) := by decide +kernel
theorem gdX4_add_28 : decode cX4_add 28 = .ok (.iload 4, 2) := by decide +kernel
theorem gdX4_add_30 : decode cX4_add 30 = .ok (.iload_n 2, 1) := by decide +kernel
theorem gdX4_add_31 : decode cX4_add 31 = .ok (.iastore, 1) := by decide +kernel
theorem gdX4_add_32 : decode cX4_add 32 = .ok (.aload_n 0, 1) := by decide +kernel
theorem gdX4_add_33 : decode cX4_add 33 = .ok (.getfield 18, 3) := by decide +kernel
theorem gdX4_add_36 : decode cX4_add 36 = .ok (.iload 4, 2) := by decide +kernel
theorem gdX4_add_38 : decode cX4_add 38 = .ok (.iload_n 3, 1) := by decide +kernel
theorem gdX4_add_39 : decode cX4_add 39 = .ok (.iastore, 1) := by decide +kernel
theorem gdX4_add_40 : decode cX4_add 40 = .ok (.aload_n 0, 1) := by decide +kernel
theorem gdX4_add_41 : decode cX4_add 41 = .ok (.getfield 36, 3) := by decide +kernel
theorem gdX4_add_44 : decode cX4_add 44 = .ok (.iload 4, 2) := by decide +kernel
theorem gdX4_add_46 : decode cX4_add 46 = .ok (.bipush (-9), 2) := by decide +kernel
theorem gdX4_add_48 : decode cX4_add 48 = .ok (.iastore, 1) := by decide +kernel
theorem gdX4_add_49 : decode cX4_add 49 = .ok (.iload 4, 2) := by decide +kernel
theorem gdX4_add_51 : decode cX4_add 51 = .ok (.ireturn, 1) := by decide +kernel
theorem gdX4_setGrant_0 : decode cX4_setGrant 0 = .ok (.aload_n 0, 1) := by decide +kernel
theorem gdX4_setGrant_1 : decode cX4_setGrant 1 = .ok (.getfield 39, 3) := by decide +kernel
theorem gdX4_setGrant_4 : decode cX4_setGrant 4 = .ok (.iload_n 1, 1) := by decide +kernel
theorem gdX4_setGrant_5 : decode cX4_setGrant 5 = .ok (.iload_n 2, 1) := by decide +kernel
theorem gdX4_setGrant_6 : decode cX4_setGrant 6 = .ok (.iastore, 1) := by decide +kernel
theorem gdX4_setGrant_7 : decode cX4_setGrant 7 = .ok (.aload_n 0, 1) := by decide +kernel
theorem gdX4_setGrant_8 : decode cX4_setGrant 8 = .ok (.getfield 45, 3) := by decide +kernel
theorem gdX4_setGrant_11 : decode cX4_setGrant 11 = .ok (.iload_n 1, 1) := by decide +kernel
theorem gdX4_setGrant_12 : decode cX4_setGrant 12 = .ok (.iload_n 3, 1) := by decide +kernel
theorem gdX4_setGrant_13 : decode cX4_setGrant 13 = .ok (.iastore, 1) := by decide +kernel
theorem gdX4_setGrant_14 : decode cX4_setGrant 14 = .ok (.return_, 1) := by decide +kernel
theorem gdX11_grant_18 : decode cX11_grant 18 = .ok (.iconst (-1), 1) := by decide +kernel
theorem gdX11_grant_19 : decode cX11_grant 19 = .ok (.ireturn, 1) := by decide +kernel
theorem gdX11_grant_0 : decode cX11_grant 0 = .ok (.iload_n 1, 1) := by decide +kernel
theorem gdX11_grant_1 : decode cX11_grant 1 = .ok (.iconst 1, 1) := by decide +kernel
theorem gdX11_grant_2 : decode cX11_grant 2 = .ok (.if_icmp .lt 16, 3) := by decide +kernel
theorem gdX11_grant_5 : decode cX11_grant 5 = .ok (.iload_n 1, 1) := by decide +kernel
theorem gdX11_grant_6 : decode cX11_grant 6 = .ok (.bipush 10, 2) := by decide +kernel
theorem gdX11_grant_8 : decode cX11_grant 8 = .ok (.if_icmp .gt 10, 3) := by decide +kernel
theorem gdX11_grant_11 : decode cX11_grant 11 = .ok (.iload_n 2, 1) := by decide +kernel
theorem gdX11_grant_12 : decode cX11_grant 12 = .ok (.invokestatic 180, 3) := by decide +kernel
theorem gdX11_grant_15 : decode cX11_grant 15 = .ok (.ifCond .ne 5, 3) := by decide +kernel
theorem gdX11_grant_20 : decode cX11_grant 20 = .ok (.aload_n 0, 1) := by decide +kernel
theorem gdX11_grant_21 : decode cX11_grant 21 = .ok (.getfield 52, 3) := by decide +kernel
theorem gdX11_grant_24 : decode cX11_grant 24 = .ok (.invokevirtual 218, 3) := by decide +kernel
theorem gdX11_grant_27 : decode cX11_grant 27 = .ok (.bipush 24, 2) := by decide +kernel
theorem gdX11_grant_29 : decode cX11_grant 29 = .ok (.if_icmp .lt 6, 3) := by decide +kernel
theorem gdX11_grant_35 : decode cX11_grant 35 = .ok (.aload_n 0, 1) := by decide +kernel
theorem gdX11_grant_36 : decode cX11_grant 36 = .ok (.getfield 52, 3) := by decide +kernel
theorem gdX11_grant_39 : decode cX11_grant 39 = .ok (.iconst 5, 1) := by decide +kernel
theorem gdX11_grant_40 : decode cX11_grant 40 = .ok (.aload_n 0, 1) := by decide +kernel
theorem gdX11_grant_41 : decode cX11_grant 41 = .ok (.getfield 136, 3) := by decide +kernel
theorem gdX11_grant_44 : decode cX11_grant 44 = .ok (.bipush (-9), 2) := by decide +kernel
theorem gdX11_grant_46 : decode cX11_grant 46 = .ok (.invokevirtual 235, 3) := by decide +kernel
theorem gdX11_grant_49 : decode cX11_grant 49 = .ok (.istore_n 3, 1) := by decide +kernel
theorem gdX11_grant_50 : decode cX11_grant 50 = .ok (.aload_n 0, 1) := by decide +kernel
theorem gdX11_grant_51 : decode cX11_grant 51 = .ok (.getfield 52, 3) := by decide +kernel
theorem gdX11_grant_54 : decode cX11_grant 54 = .ok (.iload_n 3, 1) := by decide +kernel
theorem gdX11_grant_55 : decode cX11_grant 55 = .ok (.iload_n 1, 1) := by decide +kernel
theorem gdX11_grant_56 : decode cX11_grant 56 = .ok (.iload_n 2, 1) := by decide +kernel
theorem gdX11_grant_57 : decode cX11_grant 57 = .ok (.invokevirtual 314, 3) := by decide +kernel
theorem gdX11_grant_60 : decode cX11_grant 60 = .ok (.iload_n 3, 1) := by decide +kernel
theorem gdX11_grant_61 : decode cX11_grant 61 = .ok (.ireturn, 1) := by decide +kernel
theorem gdX11_grant_32 : decode cX11_grant 32 = .ok (.bipush (-2), 2) := by decide +kernel
theorem gdX11_grant_34 : decode cX11_grant 34 = .ok (.ireturn, 1) := by decide +kernel
theorem gdX4_dateOf_0 : decode cX4_dateOf 0 = .ok (.aload_n 0, 1) := by decide +kernel
theorem gdX4_dateOf_1 : decode cX4_dateOf 1 = .ok (.getfield 45, 3) := by decide +kernel
theorem gdX4_dateOf_4 : decode cX4_dateOf 4 = .ok (.iload_n 1, 1) := by decide +kernel
theorem gdX4_dateOf_5 : decode cX4_dateOf 5 = .ok (.iaload, 1) := by decide +kernel
theorem gdX4_dateOf_6 : decode cX4_dateOf 6 = .ok (.ireturn, 1) := by decide +kernel
theorem gdX4_amountOf_0 : decode cX4_amountOf 0 = .ok (.aload_n 0, 1) := by decide +kernel
theorem gdX4_amountOf_1 : decode cX4_amountOf 1 = .ok (.getfield 39, 3) := by decide +kernel
theorem gdX4_amountOf_4 : decode cX4_amountOf 4 = .ok (.iload_n 1, 1) := by decide +kernel
theorem gdX4_amountOf_5 : decode cX4_amountOf 5 = .ok (.iaload, 1) := by decide +kernel
theorem gdX4_amountOf_6 : decode cX4_amountOf 6 = .ok (.ireturn, 1) := by decide +kernel
theorem gdX11_grants_22 : decode cX11_grants 22 = .ok (.iconst (-1), 1) := by decide +kernel
theorem gdX11_grants_23 : decode cX11_grants 23 = .ok (.ireturn, 1) := by decide +kernel
theorem gdX11_grants_48 : decode cX11_grants 48 = .ok (.aload_n 0, 1) := by decide +kernel
theorem gdX11_grants_49 : decode cX11_grants 49 = .ok (.iconst 3, 1) := by decide +kernel
theorem gdX11_grants_50 : decode cX11_grants 50 = .ok (.invokevirtual 99, 3) := by decide +kernel
theorem gdX11_grants_53 : decode cX11_grants 53 = .ok (.ireturn, 1) := by decide +kernel
theorem gdX11_grants_144 : decode cX11_grants 144 = .ok (.ireturn, 1) := by decide +kernel
theorem gdX11_grants_131 : decode cX11_grants 131 = .ok (.putfield 417, 3) := by decide +kernel
theorem gdX11_grants_134 : decode cX11_grants 134 = .ok (.iload 4, 2) := by decide +kernel
theorem gdX11_grants_136 : decode cX11_grants 136 = .ok (.ifCond .lt 7, 3) := by decide +kernel
theorem gdX11_grants_143 : decode cX11_grants 143 = .ok (.iconst 0, 1) := by decide +kernel
theorem gdX11_grants_139 : decode cX11_grants 139 = .ok (.iconst 1, 1) := by decide +kernel
theorem gdX11_grants_140 : decode cX11_grants 140 = .ok (.goto 4, 3) := by decide +kernel
theorem gdX11_grants_78 : decode cX11_grants 78 = .ok (.istore_n 3, 1) := by decide +kernel
theorem gdX11_grants_79 : decode cX11_grants 79 = .ok (.aload_n 0, 1) := by decide +kernel
theorem gdX11_grants_80 : decode cX11_grants 80 = .ok (.getfield 52, 3) := by decide +kernel
theorem gdX11_grants_83 : decode cX11_grants 83 = .ok (.iload_n 1, 1) := by decide +kernel
theorem gdX11_grants_84 : decode cX11_grants 84 = .ok (.invokevirtual 436, 3) := by decide +kernel
theorem gdX11_grants_87 : decode cX11_grants 87 = .ok (.iload_n 3, 1) := by decide +kernel
theorem gdX11_grants_88 : decode cX11_grants 88 = .ok (.isub, 1) := by decide +kernel
theorem gdX11_grants_89 : decode cX11_grants 89 = .ok (.istore 4, 2) := by decide +kernel
theorem gdX11_grants_91 : decode cX11_grants 91 = .ok (.aload_n 0, 1) := by decide +kernel
theorem gdX11_grants_92 : decode cX11_grants 92 = .ok (.iload 4, 2) := by decide +kernel
theorem gdX11_grants_94 : decode cX11_grants 94 = .ok (.invokevirtual 117, 3) := by decide +kernel
theorem gdX11_grants_97 : decode cX11_grants 97 = .ok (.pop, 1) := by decide +kernel
theorem gdX11_grants_98 : decode cX11_grants 98 = .ok (.aload_n 0, 1) := by decide +kernel
theorem gdX11_grants_99 : decode cX11_grants 99 = .ok (.iload 4, 2) := by decide +kernel
theorem gdX11_grants_101 : decode cX11_grants 101 = .ok (.ifCond .lt 29, 3) := by decide +kernel
theorem gdX11_grants_130 : decode cX11_grants 130 = .ok (.lconst 0, 1) := by decide +kernel
theorem gdX11_grants_104 : decode cX11_grants 104 = .ok (.aload_n 0, 1) := by decide +kernel
theorem gdX11_grants_105 : decode cX11_grants 105 = .ok (.getfield 52, 3) := by decide +kernel
theorem gdX11_grants_108 : decode cX11_grants 108 = .ok (.iload_n 2, 1) := by decide +kernel
theorem gdX11_grants_109 : decode cX11_grants 109 = .ok (.invokevirtual 334, 3) := by decide +kernel
theorem gdX11_grants_112 : decode cX11_grants 112 = .ok (.i2l, 1) := by decide +kernel
theorem gdX11_grants_113 : decode cX11_grants 113 = .ok (.aload_n 0, 1) := by decide +kernel
theorem gdX11_grants_114 : decode cX11_grants 114 = .ok (.getfield 52, 3) := by decide +kernel
theorem gdX11_grants_117 : decode cX11_grants 117 = .ok (.iload_n 1, 1) := by decide +kernel
theorem gdX11_grants_118 : decode cX11_grants 118 = .ok (.invokevirtual 331, 3) := by decide +kernel
theorem gdX11_grants_121 : decode cX11_grants 121 = .ok (.i2l, 1) := by decide +kernel
theorem gdX11_grants_122 : decode cX11_grants 122 = .ok (.lmul, 1) := by decide +kernel
theorem gdX11_grants_123 : decode cX11_grants 123 = .ok (.ldc2_w 439, 3) := by decide +kernel
theorem gdX11_grants_126 : decode cX11_grants 126 = .ok (.ldiv, 1) := by decide +kernel
theorem gdX11_grants_127 : decode cX11_grants 127 = .ok (.goto 4, 3) := by decide +kernel
theorem gdX11_grants_0 : decode cX11_grants 0 = .ok (.aload_n 0, 1) := by decide +kernel
theorem gdX11_grants_1 : decode cX11_grants 1 = .ok (.getfield 52, 3) := by decide +kernel
theorem gdX11_grants_4 : decode cX11_grants 4 = .ok (.iload_n 1, 1) := by decide +kernel
theorem gdX11_grants_5 : decode cX11_grants 5 = .ok (.invokevirtual 250, 3) := by decide +kernel
theorem gdX11_grants_8 : decode cX11_grants 8 = .ok (.ifCond .eq 14, 3) := by decide +kernel
theorem gdX11_grants_11 : decode cX11_grants 11 = .ok (.aload_n 0, 1) := by decide +kernel
theorem gdX11_grants_12 : decode cX11_grants 12 = .ok (.getfield 52, 3) := by decide +kernel
theorem gdX11_grants_15 : decode cX11_grants 15 = .ok (.iload_n 2, 1) := by decide +kernel
theorem gdX11_grants_16 : decode cX11_grants 16 = .ok (.invokevirtual 250, 3) := by decide +kernel
theorem gdX11_grants_19 : decode cX11_grants 19 = .ok (.ifCond .ne 5, 3) := by decide +kernel
theorem gdX11_grants_24 : decode cX11_grants 24 = .ok (.aload_n 0, 1) := by decide +kernel
theorem gdX11_grants_25 : decode cX11_grants 25 = .ok (.getfield 52, 3) := by decide +kernel
theorem gdX11_grants_28 : decode cX11_grants 28 = .ok (.iload_n 1, 1) := by decide +kernel
theorem gdX11_grants_29 : decode cX11_grants 29 = .ok (.iconst 5, 1) := by decide +kernel
theorem gdX11_grants_30 : decode cX11_grants 30 = .ok (.invokevirtual 251, 3) := by decide +kernel
theorem gdX11_grants_33 : decode cX11_grants 33 = .ok (.ifCond .eq 15, 3) := by decide +kernel
theorem gdX11_grants_36 : decode cX11_grants 36 = .ok (.aload_n 0, 1) := by decide +kernel
theorem gdX11_grants_37 : decode cX11_grants 37 = .ok (.getfield 52, 3) := by decide +kernel
theorem gdX11_grants_40 : decode cX11_grants 40 = .ok (.iload_n 2, 1) := by decide +kernel
theorem gdX11_grants_41 : decode cX11_grants 41 = .ok (.iconst 1, 1) := by decide +kernel
theorem gdX11_grants_42 : decode cX11_grants 42 = .ok (.invokevirtual 251, 3) := by decide +kernel
theorem gdX11_grants_45 : decode cX11_grants 45 = .ok (.ifCond .ne 9, 3) := by decide +kernel
theorem gdX11_grants_54 : decode cX11_grants 54 = .ok (.aload_n 0, 1) := by decide +kernel
theorem gdX11_grants_55 : decode cX11_grants 55 = .ok (.getfield 80, 3) := by decide +kernel
theorem gdX11_grants_58 : decode cX11_grants 58 = .ok (.getfield 434, 3) := by decide +kernel
theorem gdX11_grants_61 : decode cX11_grants 61 = .ok (.ifCond .le 13, 3) := by decide +kernel
theorem gdX11_grants_74 : decode cX11_grants 74 = .ok (.aload_n 0, 1) := by decide +kernel
theorem gdX11_grants_75 : decode cX11_grants 75 = .ok (.getfield 136, 3) := by decide +kernel
theorem gdX11_grants_64 : decode cX11_grants 64 = .ok (.aload_n 0, 1) := by decide +kernel
theorem gdX11_grants_65 : decode cX11_grants 65 = .ok (.getfield 80, 3) := by decide +kernel
theorem gdX11_grants_68 : decode cX11_grants 68 = .ok (.getfield 424, 3) := by decide +kernel
theorem gdX11_grants_71 : decode cX11_grants 71 = .ok (.goto 7, 3) := by decide +kernel
theorem gdX2_heards_0 : decode cX2_heards 0 = .ok (.aload_n 0, 1) := by decide +kernel
theorem gdX2_heards_1 : decode cX2_heards 1 = .ok (.getfield 34, 3) := by decide +kernel
theorem gdX2_heards_4 : decode cX2_heards 4 = .ok (.ireturn, 1) := by decide +kernel
theorem gdX2_addHeard_0 : decode cX2_addHeard 0 = .ok (.aload_n 0, 1) := by decide +kernel
theorem gdX2_addHeard_1 : decode cX2_addHeard 1 = .ok (.getfield 21, 3) := by decide +kernel
theorem gdX2_addHeard_4 : decode cX2_addHeard 4 = .ok (.aload_n 0, 1) := by decide +kernel
theorem gdX2_addHeard_5 : decode cX2_addHeard 5 = .ok (.getfield 34, 3) := by decide +kernel
theorem gdX2_addHeard_8 : decode cX2_addHeard 8 = .ok (.iload_n 1, 1) := by decide +kernel
theorem gdX2_addHeard_9 : decode cX2_addHeard 9 = .ok (.iastore, 1) := by decide +kernel
theorem gdX2_addHeard_10 : decode cX2_addHeard 10 = .ok (.aload_n 0, 1) := by decide +kernel
theorem gdX2_addHeard_11 : decode cX2_addHeard 11 = .ok (.getfield 24, 3) := by decide +kernel
theorem gdX2_addHeard_14 : decode cX2_addHeard 14 = .ok (.aload_n 0, 1) := by decide +kernel
theorem gdX2_addHeard_15 : decode cX2_addHeard 15 = .ok (.getfield 34, 3) := by decide +kernel
theorem gdX2_addHeard_18 : decode cX2_addHeard 18 = .ok (.iload_n 2, 1) := by decide +kernel
theorem gdX2_addHeard_19 : decode cX2_addHeard 19 = .ok (.iastore, 1) := by decide +kernel
theorem gdX2_addHeard_20 : decode cX2_addHeard 20 = .ok (.aload_n 0, 1) := by decide +kernel
theorem gdX2_addHeard_21 : decode cX2_addHeard 21 = .ok (.getfield 27, 3) := by decide +kernel
theorem gdX2_addHeard_24 : decode cX2_addHeard 24 = .ok (.aload_n 0, 1) := by decide +kernel
theorem gdX2_addHeard_25 : decode cX2_addHeard 25 = .ok (.getfield 34, 3) := by decide +kernel
theorem gdX2_addHeard_28 : decode cX2_addHeard 28 = .ok (.iload_n 3, 1) := by decide +kernel
theorem gdX2_addHeard_29 : decode cX2_addHeard 29 = .ok (.iastore, 1) := by decide +kernel
theorem gdX2_addHeard_30 : decode cX2_addHeard 30 = .ok (.aload_n 0, 1) := by decide +kernel
theorem gdX2_addHeard_31 : decode cX2_addHeard 31 = .ok (.dup, 1) := by decide +kernel
theorem gdX2_addHeard_32 : decode cX2_addHeard 32 = .ok (.getfield 34, 3) := by decide +kernel
theorem gdX2_addHeard_35 : decode cX2_addHeard 35 = .ok (.iconst 1, 1) := by decide +kernel
theorem gdX2_addHeard_36 : decode cX2_addHeard 36 = .ok (.iadd, 1) := by decide +kernel
theorem gdX2_addHeard_37 : decode cX2_addHeard 37 = .ok (.putfield 34, 3) := by decide +kernel
theorem gdX2_addHeard_40 : decode cX2_addHeard 40 = .ok (.return_, 1) := by decide +kernel
theorem gdX11_hear_22 : decode cX11_hear 22 = .ok (.iconst (-1), 1) := by decide +kernel
theorem gdX11_hear_23 : decode cX11_hear 23 = .ok (.ireturn, 1) := by decide +kernel
theorem gdX11_hear_0 : decode cX11_hear 0 = .ok (.aload_n 0, 1) := by decide +kernel
theorem gdX11_hear_1 : decode cX11_hear 1 = .ok (.getfield 40, 3) := by decide +kernel
theorem gdX11_hear_4 : decode cX11_hear 4 = .ok (.iload_n 1, 1) := by decide +kernel
theorem gdX11_hear_5 : decode cX11_hear 5 = .ok (.invokevirtual 200, 3) := by decide +kernel
theorem gdX11_hear_8 : decode cX11_hear 8 = .ok (.ifCond .eq 14, 3) := by decide +kernel
theorem gdX11_hear_11 : decode cX11_hear 11 = .ok (.aload_n 0, 1) := by decide +kernel
theorem gdX11_hear_12 : decode cX11_hear 12 = .ok (.getfield 52, 3) := by decide +kernel
theorem gdX11_hear_15 : decode cX11_hear 15 = .ok (.iload_n 2, 1) := by decide +kernel
theorem gdX11_hear_16 : decode cX11_hear 16 = .ok (.invokevirtual 250, 3) := by decide +kernel
theorem gdX11_hear_19 : decode cX11_hear 19 = .ok (.ifCond .ne 5, 3) := by decide +kernel
theorem gdX11_hear_24 : decode cX11_hear 24 = .ok (.aload_n 0, 1) := by decide +kernel
theorem gdX11_hear_25 : decode cX11_hear 25 = .ok (.getfield 52, 3) := by decide +kernel
theorem gdX11_hear_28 : decode cX11_hear 28 = .ok (.iload_n 2, 1) := by decide +kernel
theorem gdX11_hear_29 : decode cX11_hear 29 = .ok (.iconst 1, 1) := by decide +kernel
theorem gdX11_hear_30 : decode cX11_hear 30 = .ok (.invokevirtual 251, 3) := by decide +kernel
theorem gdX11_hear_33 : decode cX11_hear 33 = .ok (.ifCond .ne 9, 3) := by decide +kernel
theorem gdX11_hear_42 : decode cX11_hear 42 = .ok (.aload_n 0, 1) := by decide +kernel
theorem gdX11_hear_43 : decode cX11_hear 43 = .ok (.getfield 59, 3) := by decide +kernel
theorem gdX11_hear_46 : decode cX11_hear 46 = .ok (.iload_n 1, 1) := by decide +kernel
theorem gdX11_hear_47 : decode cX11_hear 47 = .ok (.iload_n 2, 1) := by decide +kernel
theorem gdX11_hear_48 : decode cX11_hear 48 = .ok (.invokevirtual 350, 3) := by decide +kernel
theorem gdX11_hear_51 : decode cX11_hear 51 = .ok (.istore_n 3, 1) := by decide +kernel
theorem gdX11_hear_52 : decode cX11_hear 52 = .ok (.iload_n 3, 1) := by decide +kernel
theorem gdX11_hear_53 : decode cX11_hear 53 = .ok (.bipush (-9), 2) := by decide +kernel
theorem gdX11_hear_55 : decode cX11_hear 55 = .ok (.if_icmp .eq 5, 3) := by decide +kernel
theorem gdX11_hear_60 : decode cX11_hear 60 = .ok (.aload_n 0, 1) := by decide +kernel
theorem gdX11_hear_61 : decode cX11_hear 61 = .ok (.getfield 59, 3) := by decide +kernel
theorem gdX11_hear_64 : decode cX11_hear 64 = .ok (.invokevirtual 353, 3) := by decide +kernel
theorem gdX11_hear_67 : decode cX11_hear 67 = .ok (.bipush 60, 2) := by decide +kernel
theorem gdX11_hear_69 : decode cX11_hear 69 = .ok (.if_icmp .lt 6, 3) := by decide +kernel
theorem gdX11_hear_75 : decode cX11_hear 75 = .ok (.aload_n 0, 1) := by decide +kernel
theorem gdX11_hear_76 : decode cX11_hear 76 = .ok (.getfield 59, 3) := by decide +kernel
theorem gdX11_hear_79 : decode cX11_hear 79 = .ok (.iload_n 1, 1) := by decide +kernel
theorem gdX11_hear_80 : decode cX11_hear 80 = .ok (.iload_n 2, 1) := by decide +kernel
theorem gdX11_hear_81 : decode cX11_hear 81 = .ok (.aload_n 0, 1) := by decide +kernel
theorem gdX11_hear_82 : decode cX11_hear 82 = .ok (.getfield 136, 3) := by decide +kernel
theorem gdX11_hear_85 : decode cX11_hear 85 = .ok (.invokevirtual 356, 3) := by decide +kernel
theorem gdX11_hear_88 : decode cX11_hear 88 = .ok (.aload_n 0, 1) := by decide +kernel
theorem gdX11_hear_89 : decode cX11_hear 89 = .ok (.getfield 136, 3) := by decide +kernel
theorem gdX11_hear_92 : decode cX11_hear 92 = .ok (.ireturn, 1) := by decide +kernel
theorem gdX11_hear_72 : decode cX11_hear 72 = .ok (.bipush (-2), 2) := by decide +kernel
theorem gdX11_hear_74 : decode cX11_hear 74 = .ok (.ireturn, 1) := by decide +kernel
theorem gdX11_hear_58 : decode cX11_hear 58 = .ok (.iload_n 3, 1) := by decide +kernel
theorem gdX11_hear_59 : decode cX11_hear 59 = .ok (.ireturn, 1) := by decide +kernel
theorem gdX11_hear_36 : decode cX11_hear 36 = .ok (.aload_n 0, 1) := by decide +kernel
theorem gdX11_hear_37 : decode cX11_hear 37 = .ok (.iconst 3, 1) := by decide +kernel
theorem gdX11_hear_38 : decode cX11_hear 38 = .ok (.invokevirtual 99, 3) := by decide +kernel
theorem gdX11_hear_41 : decode cX11_hear 41 = .ok (.ireturn, 1) := by decide +kernel
theorem gdX4_setHearing_0 : decode cX4_setHearing 0 = .ok (.aload_n 0, 1) := by decide +kernel
theorem gdX4_setHearing_1 : decode cX4_setHearing 1 = .ok (.getfield 42, 3) := by decide +kernel
theorem gdX4_setHearing_4 : decode cX4_setHearing 4 = .ok (.iload_n 1, 1) := by decide +kernel
theorem gdX4_setHearing_5 : decode cX4_setHearing 5 = .ok (.iload_n 2, 1) := by decide +kernel
theorem gdX4_setHearing_6 : decode cX4_setHearing 6 = .ok (.iastore, 1) := by decide +kernel
theorem gdX4_setHearing_7 : decode cX4_setHearing 7 = .ok (.aload_n 0, 1) := by decide +kernel
theorem gdX4_setHearing_8 : decode cX4_setHearing 8 = .ok (.getfield 48, 3) := by decide +kernel
theorem gdX4_setHearing_11 : decode cX4_setHearing 11 = .ok (.iload_n 1, 1) := by decide +kernel
theorem gdX4_setHearing_12 : decode cX4_setHearing 12 = .ok (.iload_n 3, 1) := by decide +kernel
theorem gdX4_setHearing_13 : decode cX4_setHearing 13 = .ok (.iastore, 1) := by decide +kernel
theorem gdX4_setHearing_14 : decode cX4_setHearing 14 = .ok (.aload_n 0, 1) := by decide +kernel
theorem gdX4_setHearing_15 : decode cX4_setHearing 15 = .ok (.getfield 45, 3) := by decide +kernel
theorem gdX4_setHearing_18 : decode cX4_setHearing 18 = .ok (.iload_n 1, 1) := by decide +kernel
theorem gdX4_setHearing_19 : decode cX4_setHearing 19 = .ok (.iload 4, 2) := by decide +kernel
theorem gdX4_setHearing_21 : decode cX4_setHearing 21 = .ok (.iastore, 1) := by decide +kernel
theorem gdX4_setHearing_22 : decode cX4_setHearing 22 = .ok (.return_, 1) := by decide +kernel
theorem gdX11_hearing_36 : decode cX11_hearing 36 = .ok (.iconst (-1), 1) := by decide +kernel
theorem gdX11_hearing_37 : decode cX11_hearing 37 = .ok (.ireturn, 1) := by decide +kernel
theorem gdX11_hearing_0 : decode cX11_hearing 0 = .ok (.aload_n 0, 1) := by decide +kernel
theorem gdX11_hearing_1 : decode cX11_hearing 1 = .ok (.getfield 52, 3) := by decide +kernel
theorem gdX11_hearing_4 : decode cX11_hearing 4 = .ok (.iload_n 1, 1) := by decide +kernel
theorem gdX11_hearing_5 : decode cX11_hearing 5 = .ok (.invokevirtual 250, 3) := by decide +kernel
theorem gdX11_hearing_8 : decode cX11_hearing 8 = .ok (.ifCond .eq 28, 3) := by decide +kernel
theorem gdX11_hearing_11 : decode cX11_hearing 11 = .ok (.iload_n 2, 1) := by decide +kernel
theorem gdX11_hearing_12 : decode cX11_hearing 12 = .ok (.invokestatic 140, 3) := by decide +kernel
theorem gdX11_hearing_15 : decode cX11_hearing 15 = .ok (.ifCond .eq 21, 3) := by decide +kernel
theorem gdX11_hearing_18 : decode cX11_hearing 18 = .ok (.iload_n 3, 1) := by decide +kernel
theorem gdX11_hearing_19 : decode cX11_hearing 19 = .ok (.ifCond .lt 17, 3) := by decide +kernel
theorem gdX11_hearing_22 : decode cX11_hearing 22 = .ok (.iload_n 3, 1) := by decide +kernel
theorem gdX11_hearing_23 : decode cX11_hearing 23 = .ok (.bipush 23, 2) := by decide +kernel
theorem gdX11_hearing_25 : decode cX11_hearing 25 = .ok (.if_icmp .gt 11, 3) := by decide +kernel
theorem gdX11_hearing_28 : decode cX11_hearing 28 = .ok (.iload 4, 2) := by decide +kernel
theorem gdX11_hearing_30 : decode cX11_hearing 30 = .ok (.invokestatic 180, 3) := by decide +kernel
theorem gdX11_hearing_33 : decode cX11_hearing 33 = .ok (.ifCond .ne 5, 3) := by decide +kernel
theorem gdX11_hearing_38 : decode cX11_hearing 38 = .ok (.aload_n 0, 1) := by decide +kernel
theorem gdX11_hearing_39 : decode cX11_hearing 39 = .ok (.getfield 52, 3) := by decide +kernel
theorem gdX11_hearing_42 : decode cX11_hearing 42 = .ok (.invokevirtual 218, 3) := by decide +kernel
theorem gdX11_hearing_45 : decode cX11_hearing 45 = .ok (.bipush 24, 2) := by decide +kernel
theorem gdX11_hearing_47 : decode cX11_hearing 47 = .ok (.if_icmp .lt 6, 3) := by decide +kernel
theorem gdX11_hearing_53 : decode cX11_hearing 53 = .ok (.aload_n 0, 1) := by decide +kernel
theorem gdX11_hearing_54 : decode cX11_hearing 54 = .ok (.getfield 52, 3) := by decide +kernel
theorem gdX11_hearing_57 : decode cX11_hearing 57 = .ok (.iload_n 1, 1) := by decide +kernel
theorem gdX11_hearing_58 : decode cX11_hearing 58 = .ok (.iconst 1, 1) := by decide +kernel
theorem gdX11_hearing_59 : decode cX11_hearing 59 = .ok (.invokevirtual 251, 3) := by decide +kernel
theorem gdX11_hearing_62 : decode cX11_hearing 62 = .ok (.ifCond .ne 9, 3) := by decide +kernel
theorem gdX11_hearing_71 : decode cX11_hearing 71 = .ok (.iload 4, 2) := by decide +kernel
theorem gdX11_hearing_73 : decode cX11_hearing 73 = .ok (.aload_n 0, 1) := by decide +kernel
theorem gdX11_hearing_74 : decode cX11_hearing 74 = .ok (.getfield 136, 3) := by decide +kernel
theorem gdX11_hearing_77 : decode cX11_hearing 77 = .ok (.if_icmp .ge 6, 3) := by decide +kernel
theorem gdX11_hearing_83 : decode cX11_hearing 83 = .ok (.aload_n 0, 1) := by decide +kernel
theorem gdX11_hearing_84 : decode cX11_hearing 84 = .ok (.getfield 52, 3) := by decide +kernel
theorem gdX11_hearing_87 : decode cX11_hearing 87 = .ok (.bipush 6, 2) := by decide +kernel
theorem gdX11_hearing_89 : decode cX11_hearing 89 = .ok (.aload_n 0, 1) := by decide +kernel
theorem gdX11_hearing_90 : decode cX11_hearing 90 = .ok (.getfield 136, 3) := by decide +kernel
theorem gdX11_hearing_93 : decode cX11_hearing 93 = .ok (.iload_n 1, 1) := by decide +kernel
theorem gdX11_hearing_94 : decode cX11_hearing 94 = .ok (.invokevirtual 235, 3) := by decide +kernel
theorem gdX11_hearing_97 : decode cX11_hearing 97 = .ok (.istore 5, 2) := by decide +kernel
theorem gdX11_hearing_99 : decode cX11_hearing 99 = .ok (.aload_n 0, 1) := by decide +kernel
theorem gdX11_hearing_100 : decode cX11_hearing 100 = .ok (.getfield 52, 3) := by decide +kernel
theorem gdX11_hearing_103 : decode cX11_hearing 103 = .ok (.iload 5, 2) := by decide +kernel
theorem gdX11_hearing_105 : decode cX11_hearing 105 = .ok (.iload_n 2, 1) := by decide +kernel
theorem gdX11_hearing_106 : decode cX11_hearing 106 = .ok (.iload_n 3, 1) := by decide +kernel
theorem gdX11_hearing_107 : decode cX11_hearing 107 = .ok (.iload 4, 2) := by decide +kernel
theorem gdX11_hearing_109 : decode cX11_hearing 109 = .ok (.invokevirtual 317, 3) := by decide +kernel
theorem gdX11_hearing_112 : decode cX11_hearing 112 = .ok (.iload 5, 2) := by decide +kernel
theorem gdX11_hearing_114 : decode cX11_hearing 114 = .ok (.ireturn, 1) := by decide +kernel
theorem gdX11_hearing_80 : decode cX11_hearing 80 = .ok (.bipush (-4), 2) := by decide +kernel
theorem gdX11_hearing_82 : decode cX11_hearing 82 = .ok (.ireturn, 1) := by decide +kernel
theorem gdX11_hearing_65 : decode cX11_hearing 65 = .ok (.aload_n 0, 1) := by decide +kernel
theorem gdX11_hearing_66 : decode cX11_hearing 66 = .ok (.iconst 3, 1) := by decide +kernel
theorem gdX11_hearing_67 : decode cX11_hearing 67 = .ok (.invokevirtual 99, 3) := by decide +kernel
theorem gdX11_hearing_70 : decode cX11_hearing 70 = .ok (.ireturn, 1) := by decide +kernel
theorem gdX11_hearing_50 : decode cX11_hearing 50 = .ok (.bipush (-2), 2) := by decide +kernel
theorem gdX11_hearing_52 : decode cX11_hearing 52 = .ok (.ireturn, 1) := by decide +kernel
theorem gdX11_house_20 : decode cX11_house 20 = .ok (.iconst (-1), 1) := by decide +kernel
theorem gdX11_house_21 : decode cX11_house 21 = .ok (.ireturn, 1) := by decide +kernel
theorem gdX11_house_0 : decode cX11_house 0 = .ok (.aload_n 0, 1) := by decide +kernel
theorem gdX11_house_1 : decode cX11_house 1 = .ok (.getfield 33, 3) := by decide +kernel
theorem gdX11_house_4 : decode cX11_house 4 = .ok (.iload_n 1, 1) := by decide +kernel
theorem gdX11_house_5 : decode cX11_house 5 = .ok (.invokevirtual 170, 3) := by decide +kernel
theorem gdX11_house_8 : decode cX11_house 8 = .ok (.ifCond .eq 12, 3) := by decide +kernel
theorem gdX11_house_11 : decode cX11_house 11 = .ok (.iload_n 2, 1) := by decide +kernel
theorem gdX11_house_12 : decode cX11_house 12 = .ok (.ifCond .lt 8, 3) := by decide +kernel
theorem gdX11_house_15 : decode cX11_house 15 = .ok (.iload_n 2, 1) := by decide +kernel
theorem gdX11_house_16 : decode cX11_house 16 = .ok (.iconst 5, 1) := by decide +kernel
theorem gdX11_house_17 : decode cX11_house 17 = .ok (.if_icmp .le 5, 3) := by decide +kernel
theorem gdX11_house_22 : decode cX11_house 22 = .ok (.aload_n 0, 1) := by decide +kernel
theorem gdX11_house_23 : decode cX11_house 23 = .ok (.aload_n 0, 1) := by decide +kernel
theorem gdX11_house_24 : decode cX11_house 24 = .ok (.getfield 33, 3) := by decide +kernel
theorem gdX11_house_27 : decode cX11_house 27 = .ok (.iload_n 1, 1) := by decide +kernel
theorem gdX11_house_28 : decode cX11_house 28 = .ok (.iload_n 2, 1) := by decide +kernel
theorem gdX11_house_29 : decode cX11_house 29 = .ok (.invokevirtual 187, 3) := by decide +kernel
theorem gdX11_house_32 : decode cX11_house 32 = .ok (.invokevirtual 117, 3) := by decide +kernel
theorem gdX11_house_35 : decode cX11_house 35 = .ok (.ireturn, 1) := by decide +kernel
theorem gdX4_dayOf_0 : decode cX4_dayOf 0 = .ok (.aload_n 0, 1) := by decide +kernel
theorem gdX4_dayOf_1 : decode cX4_dayOf 1 = .ok (.getfield 15, 3) := by decide +kernel
theorem gdX4_dayOf_4 : decode cX4_dayOf 4 = .ok (.iload_n 1, 1) := by decide +kernel
theorem gdX4_dayOf_5 : decode cX4_dayOf 5 = .ok (.iaload, 1) := by decide +kernel
theorem gdX4_dayOf_6 : decode cX4_dayOf 6 = .ok (.ireturn, 1) := by decide +kernel
theorem gdX5_homeOf_0 : decode cX5_homeOf 0 = .ok (.aload_n 0, 1) := by decide +kernel
theorem gdX5_homeOf_1 : decode cX5_homeOf 1 = .ok (.getfield 11, 3) := by decide +kernel
theorem gdX5_homeOf_4 : decode cX5_homeOf 4 = .ok (.iload_n 1, 1) := by decide +kernel
theorem gdX5_homeOf_5 : decode cX5_homeOf 5 = .ok (.iaload, 1) := by decide +kernel
theorem gdX5_homeOf_6 : decode cX5_homeOf 6 = .ok (.ireturn, 1) := by decide +kernel
theorem gdX4_partyOf_0 : decode cX4_partyOf 0 = .ok (.aload_n 0, 1) := by decide +kernel
theorem gdX4_partyOf_1 : decode cX4_partyOf 1 = .ok (.getfield 42, 3) := by decide +kernel
theorem gdX4_partyOf_4 : decode cX4_partyOf 4 = .ok (.iload_n 1, 1) := by decide +kernel
theorem gdX4_partyOf_5 : decode cX4_partyOf 5 = .ok (.iaload, 1) := by decide +kernel
theorem gdX4_partyOf_6 : decode cX4_partyOf 6 = .ok (.ireturn, 1) := by decide +kernel
theorem gdX3_steps_0 : decode cX3_steps 0 = .ok (.iload_n 0, 1) := by decide +kernel
theorem gdX3_steps_1 : decode cX3_steps 1 = .ok (.bipush 8, 2) := by decide +kernel
theorem gdX3_steps_3 : decode cX3_steps 3 = .ok (.irem, 1) := by decide +kernel
theorem gdX3_steps_4 : decode cX3_steps 4 = .ok (.iload_n 1, 1) := by decide +kernel
theorem gdX3_steps_5 : decode cX3_steps 5 = .ok (.bipush 8, 2) := by decide +kernel
theorem gdX3_steps_7 : decode cX3_steps 7 = .ok (.irem, 1) := by decide +kernel
theorem gdX3_steps_8 : decode cX3_steps 8 = .ok (.isub, 1) := by decide +kernel
theorem gdX3_steps_9 : decode cX3_steps 9 = .ok (.invokestatic 18, 3) := by decide +kernel
theorem gdX3_steps_12 : decode cX3_steps 12 = .ok (.iload_n 0, 1) := by decide +kernel
theorem gdX3_steps_13 : decode cX3_steps 13 = .ok (.bipush 8, 2) := by decide +kernel
theorem gdX3_steps_15 : decode cX3_steps 15 = .ok (.idiv, 1) := by decide +kernel
theorem gdX3_steps_16 : decode cX3_steps 16 = .ok (.iload_n 1, 1) := by decide +kernel
theorem gdX3_steps_17 : decode cX3_steps 17 = .ok (.bipush 8, 2) := by decide +kernel
theorem gdX3_steps_19 : decode cX3_steps 19 = .ok (.idiv, 1) := by decide +kernel
theorem gdX3_steps_20 : decode cX3_steps 20 = .ok (.isub, 1) := by decide +kernel
theorem gdX3_steps_21 : decode cX3_steps 21 = .ok (.invokestatic 18, 3) := by decide +kernel
theorem gdX3_steps_24 : decode cX3_steps 24 = .ok (.iadd, 1) := by decide +kernel
theorem gdX3_steps_25 : decode cX3_steps 25 = .ok (.ireturn, 1) := by decide +kernel
theorem gdX4_hourOf_0 : decode cX4_hourOf 0 = .ok (.aload_n 0, 1) := by decide +kernel
theorem gdX4_hourOf_1 : decode cX4_hourOf 1 = .ok (.getfield 48, 3) := by decide +kernel
theorem gdX4_hourOf_4 : decode cX4_hourOf 4 = .ok (.iload_n 1, 1) := by decide +kernel
theorem gdX4_hourOf_5 : decode cX4_hourOf 5 = .ok (.iaload, 1) := by decide +kernel
theorem gdX4_hourOf_6 : decode cX4_hourOf 6 = .ok (.ireturn, 1) := by decide +kernel
theorem gdX5_canCome_43 : decode cX5_canCome 43 = .ok (.ireturn, 1) := by decide +kernel
theorem gdX5_canCome_38 : decode cX5_canCome 38 = .ok (.iconst 1, 1) := by decide +kernel
theorem gdX5_canCome_39 : decode cX5_canCome 39 = .ok (.goto 4, 3) := by decide +kernel
theorem gdX5_canCome_42 : decode cX5_canCome 42 = .ok (.iconst 0, 1) := by decide +kernel
theorem gdX5_canCome_15 : decode cX5_canCome 15 = .ok (.aload_n 0, 1) := by decide +kernel
theorem gdX5_canCome_16 : decode cX5_canCome 16 = .ok (.getfield 15, 3) := by decide +kernel
theorem gdX5_canCome_19 : decode cX5_canCome 19 = .ok (.iload_n 1, 1) := by decide +kernel
theorem gdX5_canCome_20 : decode cX5_canCome 20 = .ok (.iaload, 1) := by decide +kernel
theorem gdX5_canCome_21 : decode cX5_canCome 21 = .ok (.bipush (-9), 2) := by decide +kernel
theorem gdX5_canCome_23 : decode cX5_canCome 23 = .ok (.if_icmp .eq 15, 3) := by decide +kernel
theorem gdX5_canCome_26 : decode cX5_canCome 26 = .ok (.iload_n 3, 1) := by decide +kernel
theorem gdX5_canCome_27 : decode cX5_canCome 27 = .ok (.bipush 9, 2) := by decide +kernel
theorem gdX5_canCome_29 : decode cX5_canCome 29 = .ok (.if_icmp .lt 9, 3) := by decide +kernel
theorem gdX5_canCome_32 : decode cX5_canCome 32 = .ok (.iload_n 3, 1) := by decide +kernel
theorem gdX5_canCome_33 : decode cX5_canCome 33 = .ok (.bipush 16, 2) := by decide +kernel
theorem gdX5_canCome_35 : decode cX5_canCome 35 = .ok (.if_icmp .le 7, 3) := by decide +kernel
theorem gdX5_canCome_0 : decode cX5_canCome 0 = .ok (.aload_n 0, 1) := by decide +kernel
theorem gdX5_canCome_1 : decode cX5_canCome 1 = .ok (.getfield 18, 3) := by decide +kernel
theorem gdX5_canCome_4 : decode cX5_canCome 4 = .ok (.iload_n 1, 1) := by decide +kernel
theorem gdX5_canCome_5 : decode cX5_canCome 5 = .ok (.baload, 1) := by decide +kernel
theorem gdX5_canCome_6 : decode cX5_canCome 6 = .ok (.ifCond .ne 9, 3) := by decide +kernel
theorem gdX5_canCome_9 : decode cX5_canCome 9 = .ok (.iload_n 2, 1) := by decide +kernel
theorem gdX5_canCome_10 : decode cX5_canCome 10 = .ok (.bipush 6, 2) := by decide +kernel
theorem gdX5_canCome_12 : decode cX5_canCome 12 = .ok (.if_icmp .gt 30, 3) := by decide +kernel
theorem gdX11_couldCome_87 : decode cX11_couldCome 87 = .ok (.iload_n 2, 1) := by decide +kernel
theorem gdX11_couldCome_88 : decode cX11_couldCome 88 = .ok (.ireturn, 1) := by decide +kernel
theorem gdX11_couldCome_81 : decode cX11_couldCome 81 = .ok (.iinc 3 1, 3) := by decide +kernel
theorem gdX11_couldCome_84 : decode cX11_couldCome 84 = .ok (.goto (-80), 3) := by decide +kernel
theorem gdX11_couldCome_4 : decode cX11_couldCome 4 = .ok (.iload_n 3, 1) := by decide +kernel
theorem gdX11_couldCome_5 : decode cX11_couldCome 5 = .ok (.aload_n 0, 1) := by decide +kernel
theorem gdX11_couldCome_6 : decode cX11_couldCome 6 = .ok (.getfield 40, 3) := by decide +kernel
theorem gdX11_couldCome_9 : decode cX11_couldCome 9 = .ok (.invokevirtual 190, 3) := by decide +kernel
theorem gdX11_couldCome_12 : decode cX11_couldCome 12 = .ok (.if_icmp .ge 75, 3) := by decide +kernel
theorem gdX11_couldCome_15 : decode cX11_couldCome 15 = .ok (.aload_n 0, 1) := by decide +kernel
theorem gdX11_couldCome_16 : decode cX11_couldCome 16 = .ok (.getfield 40, 3) := by decide +kernel
theorem gdX11_couldCome_19 : decode cX11_couldCome 19 = .ok (.iload_n 3, 1) := by decide +kernel
theorem gdX11_couldCome_20 : decode cX11_couldCome 20 = .ok (.invokevirtual 308, 3) := by decide +kernel
theorem gdX11_couldCome_23 : decode cX11_couldCome 23 = .ok (.istore 4, 2) := by decide +kernel
theorem gdX11_couldCome_25 : decode cX11_couldCome 25 = .ok (.iload 4, 2) := by decide +kernel
theorem gdX11_couldCome_27 : decode cX11_couldCome 27 = .ok (.bipush (-9), 2) := by decide +kernel
theorem gdX11_couldCome_29 : decode cX11_couldCome 29 = .ok (.if_icmp .ne 6, 3) := by decide +kernel
theorem gdX11_couldCome_35 : decode cX11_couldCome 35 = .ok (.aload_n 0, 1) := by decide +kernel
theorem gdX11_couldCome_36 : decode cX11_couldCome 36 = .ok (.getfield 33, 3) := by decide +kernel
theorem gdX11_couldCome_39 : decode cX11_couldCome 39 = .ok (.iload 4, 2) := by decide +kernel
theorem gdX11_couldCome_41 : decode cX11_couldCome 41 = .ok (.invokevirtual 282, 3) := by decide +kernel
theorem gdX11_couldCome_44 : decode cX11_couldCome 44 = .ok (.aload_n 0, 1) := by decide +kernel
theorem gdX11_couldCome_45 : decode cX11_couldCome 45 = .ok (.getfield 52, 3) := by decide +kernel
theorem gdX11_couldCome_48 : decode cX11_couldCome 48 = .ok (.iload_n 1, 1) := by decide +kernel
theorem gdX11_couldCome_49 : decode cX11_couldCome 49 = .ok (.invokevirtual 325, 3) := by decide +kernel
theorem gdX11_couldCome_52 : decode cX11_couldCome 52 = .ok (.invokestatic 521, 3) := by decide +kernel
theorem gdX11_couldCome_55 : decode cX11_couldCome 55 = .ok (.istore 5, 2) := by decide +kernel
theorem gdX11_couldCome_57 : decode cX11_couldCome 57 = .ok (.aload_n 0, 1) := by decide +kernel
theorem gdX11_couldCome_58 : decode cX11_couldCome 58 = .ok (.getfield 40, 3) := by decide +kernel
theorem gdX11_couldCome_61 : decode cX11_couldCome 61 = .ok (.iload_n 3, 1) := by decide +kernel
theorem gdX11_couldCome_62 : decode cX11_couldCome 62 = .ok (.iload 5, 2) := by decide +kernel
theorem gdX11_couldCome_64 : decode cX11_couldCome 64 = .ok (.aload_n 0, 1) := by decide +kernel
theorem gdX11_couldCome_65 : decode cX11_couldCome 65 = .ok (.getfield 52, 3) := by decide +kernel
theorem gdX11_couldCome_68 : decode cX11_couldCome 68 = .ok (.iload_n 1, 1) := by decide +kernel
theorem gdX11_couldCome_69 : decode cX11_couldCome 69 = .ok (.invokevirtual 524, 3) := by decide +kernel
theorem gdX11_couldCome_72 : decode cX11_couldCome 72 = .ok (.invokevirtual 527, 3) := by decide +kernel
theorem gdX11_couldCome_75 : decode cX11_couldCome 75 = .ok (.ifCond .eq 6, 3) := by decide +kernel
theorem gdX11_couldCome_78 : decode cX11_couldCome 78 = .ok (.iinc 2 1, 3) := by decide +kernel
theorem gdX11_couldCome_32 : decode cX11_couldCome 32 = .ok (.goto 49, 3) := by decide +kernel
theorem gdX11_couldCome_0 : decode cX11_couldCome 0 = .ok (.iconst 0, 1) := by decide +kernel
theorem gdX11_couldCome_1 : decode cX11_couldCome 1 = .ok (.istore_n 2, 1) := by decide +kernel
theorem gdX11_couldCome_2 : decode cX11_couldCome 2 = .ok (.iconst 0, 1) := by decide +kernel
theorem gdX11_couldCome_3 : decode cX11_couldCome 3 = .ok (.istore_n 3, 1) := by decide +kernel
theorem gdX11_isVoidHearing_48 : decode cX11_isVoidHearing 48 = .ok (.ireturn, 1) := by decide +kernel
theorem gdX11_isVoidHearing_0 : decode cX11_isVoidHearing 0 = .ok (.aload_n 0, 1) := by decide +kernel
theorem gdX11_isVoidHearing_1 : decode cX11_isVoidHearing 1 = .ok (.getfield 52, 3) := by decide +kernel
theorem gdX11_isVoidHearing_4 : decode cX11_isVoidHearing 4 = .ok (.iload_n 1, 1) := by decide +kernel
theorem gdX11_isVoidHearing_5 : decode cX11_isVoidHearing 5 = .ok (.invokevirtual 530, 3) := by decide +kernel
theorem gdX11_isVoidHearing_8 : decode cX11_isVoidHearing 8 = .ok (.istore_n 2, 1) := by decide +kernel
theorem gdX11_isVoidHearing_9 : decode cX11_isVoidHearing 9 = .ok (.aload_n 0, 1) := by decide +kernel
theorem gdX11_isVoidHearing_10 : decode cX11_isVoidHearing 10 = .ok (.getfield 52, 3) := by decide +kernel
theorem gdX11_isVoidHearing_13 : decode cX11_isVoidHearing 13 = .ok (.iload_n 1, 1) := by decide +kernel
theorem gdX11_isVoidHearing_14 : decode cX11_isVoidHearing 14 = .ok (.invokevirtual 436, 3) := by decide +kernel
theorem gdX11_isVoidHearing_17 : decode cX11_isVoidHearing 17 = .ok (.iload_n 2, 1) := by decide +kernel
theorem gdX11_isVoidHearing_18 : decode cX11_isVoidHearing 18 = .ok (.isub, 1) := by decide +kernel
theorem gdX11_isVoidHearing_19 : decode cX11_isVoidHearing 19 = .ok (.aload_n 0, 1) := by decide +kernel
theorem gdX11_isVoidHearing_20 : decode cX11_isVoidHearing 20 = .ok (.getfield 45, 3) := by decide +kernel
theorem gdX11_isVoidHearing_23 : decode cX11_isVoidHearing 23 = .ok (.bipush 7, 2) := by decide +kernel
theorem gdX11_isVoidHearing_25 : decode cX11_isVoidHearing 25 = .ok (.iload_n 2, 1) := by decide +kernel
theorem gdX11_isVoidHearing_26 : decode cX11_isVoidHearing 26 = .ok (.iload_n 2, 1) := by decide +kernel
theorem gdX11_isVoidHearing_27 : decode cX11_isVoidHearing 27 = .ok (.invokevirtual 212, 3) := by decide +kernel
theorem gdX11_isVoidHearing_30 : decode cX11_isVoidHearing 30 = .ok (.if_icmp .ge 5, 3) := by decide +kernel
theorem gdX11_isVoidHearing_35 : decode cX11_isVoidHearing 35 = .ok (.aload_n 0, 1) := by decide +kernel
theorem gdX11_isVoidHearing_36 : decode cX11_isVoidHearing 36 = .ok (.iload_n 1, 1) := by decide +kernel
theorem gdX11_isVoidHearing_37 : decode cX11_isVoidHearing 37 = .ok (.invokevirtual 328, 3) := by decide +kernel
theorem gdX11_isVoidHearing_40 : decode cX11_isVoidHearing 40 = .ok (.ifCond .ne 7, 3) := by decide +kernel
theorem gdX11_isVoidHearing_47 : decode cX11_isVoidHearing 47 = .ok (.iconst 0, 1) := by decide +kernel
theorem gdX11_isVoidHearing_43 : decode cX11_isVoidHearing 43 = .ok (.iconst 1, 1) := by decide +kernel
theorem gdX11_isVoidHearing_44 : decode cX11_isVoidHearing 44 = .ok (.goto 4, 3) := by decide +kernel
theorem gdX11_isVoidHearing_33 : decode cX11_isVoidHearing 33 = .ok (.iconst 1, 1) := by decide +kernel
theorem gdX11_isVoidHearing_34 : decode cX11_isVoidHearing 34 = .ok (.ireturn, 1) := by decide +kernel
theorem gdX4_hangsOn_0 : decode cX4_hangsOn 0 = .ok (.aload_n 0, 1) := by decide +kernel
theorem gdX4_hangsOn_1 : decode cX4_hangsOn 1 = .ok (.getfield 18, 3) := by decide +kernel
theorem gdX4_hangsOn_4 : decode cX4_hangsOn 4 = .ok (.iload_n 1, 1) := by decide +kernel
theorem gdX4_hangsOn_5 : decode cX4_hangsOn 5 = .ok (.iaload, 1) := by decide +kernel
theorem gdX4_hangsOn_6 : decode cX4_hangsOn 6 = .ok (.ireturn, 1) := by decide +kernel
theorem gdX11_isVoidTaking_75 : decode cX11_isVoidTaking 75 = .ok (.iconst 0, 1) := by decide +kernel
theorem gdX11_isVoidTaking_76 : decode cX11_isVoidTaking 76 = .ok (.ireturn, 1) := by decide +kernel
theorem gdX11_isVoidTaking_83 : decode cX11_isVoidTaking 83 = .ok (.iconst 1, 1) := by decide +kernel
theorem gdX11_isVoidTaking_84 : decode cX11_isVoidTaking 84 = .ok (.ireturn, 1) := by decide +kernel
theorem gdX11_isVoidTaking_77 : decode cX11_isVoidTaking 77 = .ok (.iinc 2 1, 3) := by decide +kernel
theorem gdX11_isVoidTaking_80 : decode cX11_isVoidTaking 80 = .ok (.goto (-78), 3) := by decide +kernel
theorem gdX11_isVoidTaking_2 : decode cX11_isVoidTaking 2 = .ok (.iload_n 2, 1) := by decide +kernel
theorem gdX11_isVoidTaking_3 : decode cX11_isVoidTaking 3 = .ok (.aload_n 0, 1) := by decide +kernel
theorem gdX11_isVoidTaking_4 : decode cX11_isVoidTaking 4 = .ok (.getfield 52, 3) := by decide +kernel
theorem gdX11_isVoidTaking_7 : decode cX11_isVoidTaking 7 = .ok (.invokevirtual 218, 3) := by decide +kernel
theorem gdX11_isVoidTaking_10 : decode cX11_isVoidTaking 10 = .ok (.if_icmp .ge 73, 3) := by decide +kernel
theorem gdX11_isVoidTaking_13 : decode cX11_isVoidTaking 13 = .ok (.aload_n 0, 1) := by decide +kernel
theorem gdX11_isVoidTaking_14 : decode cX11_isVoidTaking 14 = .ok (.getfield 52, 3) := by decide +kernel
theorem gdX11_isVoidTaking_17 : decode cX11_isVoidTaking 17 = .ok (.iload_n 2, 1) := by decide +kernel
theorem gdX11_isVoidTaking_18 : decode cX11_isVoidTaking 18 = .ok (.invokevirtual 302, 3) := by decide +kernel
theorem gdX11_isVoidTaking_21 : decode cX11_isVoidTaking 21 = .ok (.bipush 6, 2) := by decide +kernel
theorem gdX11_isVoidTaking_23 : decode cX11_isVoidTaking 23 = .ok (.if_icmp .ne 54, 3) := by decide +kernel
theorem gdX11_isVoidTaking_26 : decode cX11_isVoidTaking 26 = .ok (.aload_n 0, 1) := by decide +kernel
theorem gdX11_isVoidTaking_27 : decode cX11_isVoidTaking 27 = .ok (.getfield 52, 3) := by decide +kernel
theorem gdX11_isVoidTaking_30 : decode cX11_isVoidTaking 30 = .ok (.iload_n 2, 1) := by decide +kernel
theorem gdX11_isVoidTaking_31 : decode cX11_isVoidTaking 31 = .ok (.invokevirtual 533, 3) := by decide +kernel
theorem gdX11_isVoidTaking_34 : decode cX11_isVoidTaking 34 = .ok (.aload_n 0, 1) := by decide +kernel
theorem gdX11_isVoidTaking_35 : decode cX11_isVoidTaking 35 = .ok (.getfield 52, 3) := by decide +kernel
theorem gdX11_isVoidTaking_38 : decode cX11_isVoidTaking 38 = .ok (.iload_n 1, 1) := by decide +kernel
theorem gdX11_isVoidTaking_39 : decode cX11_isVoidTaking 39 = .ok (.invokevirtual 533, 3) := by decide +kernel
theorem gdX11_isVoidTaking_42 : decode cX11_isVoidTaking 42 = .ok (.if_icmp .eq 6, 3) := by decide +kernel
theorem gdX11_isVoidTaking_48 : decode cX11_isVoidTaking 48 = .ok (.aload_n 0, 1) := by decide +kernel
theorem gdX11_isVoidTaking_49 : decode cX11_isVoidTaking 49 = .ok (.getfield 52, 3) := by decide +kernel
theorem gdX11_isVoidTaking_52 : decode cX11_isVoidTaking 52 = .ok (.iload_n 2, 1) := by decide +kernel
theorem gdX11_isVoidTaking_53 : decode cX11_isVoidTaking 53 = .ok (.invokevirtual 436, 3) := by decide +kernel
theorem gdX11_isVoidTaking_56 : decode cX11_isVoidTaking 56 = .ok (.aload_n 0, 1) := by decide +kernel
theorem gdX11_isVoidTaking_57 : decode cX11_isVoidTaking 57 = .ok (.getfield 52, 3) := by decide +kernel
theorem gdX11_isVoidTaking_60 : decode cX11_isVoidTaking 60 = .ok (.iload_n 1, 1) := by decide +kernel
theorem gdX11_isVoidTaking_61 : decode cX11_isVoidTaking 61 = .ok (.invokevirtual 530, 3) := by decide +kernel
theorem gdX11_isVoidTaking_64 : decode cX11_isVoidTaking 64 = .ok (.if_icmp .gt 13, 3) := by decide +kernel
theorem gdX11_isVoidTaking_67 : decode cX11_isVoidTaking 67 = .ok (.aload_n 0, 1) := by decide +kernel
theorem gdX11_isVoidTaking_68 : decode cX11_isVoidTaking 68 = .ok (.iload_n 2, 1) := by decide +kernel
theorem gdX11_isVoidTaking_69 : decode cX11_isVoidTaking 69 = .ok (.invokevirtual 411, 3) := by decide +kernel
theorem gdX11_isVoidTaking_72 : decode cX11_isVoidTaking 72 = .ok (.ifCond .ne 5, 3) := by decide +kernel
theorem gdX11_isVoidTaking_45 : decode cX11_isVoidTaking 45 = .ok (.goto 32, 3) := by decide +kernel
theorem gdX11_isVoidTaking_0 : decode cX11_isVoidTaking 0 = .ok (.iconst 0, 1) := by decide +kernel
theorem gdX11_isVoidTaking_1 : decode cX11_isVoidTaking 1 = .ok (.istore_n 2, 1) := by decide +kernel
theorem gdX11_isVoid_41 : decode cX11_isVoid 41 = .ok (.ireturn, 1) := by decide +kernel
theorem gdX11_isVoid_60 : decode cX11_isVoid 60 = .ok (.ireturn, 1) := by decide +kernel
theorem gdX11_isVoid_0 : decode cX11_isVoid 0 = .ok (.aload_n 0, 1) := by decide +kernel
theorem gdX11_isVoid_1 : decode cX11_isVoid 1 = .ok (.getfield 52, 3) := by decide +kernel
theorem gdX11_isVoid_4 : decode cX11_isVoid 4 = .ok (.iload_n 1, 1) := by decide +kernel
theorem gdX11_isVoid_5 : decode cX11_isVoid 5 = .ok (.invokevirtual 250, 3) := by decide +kernel
theorem gdX11_isVoid_8 : decode cX11_isVoid 8 = .ok (.ifCond .ne 5, 3) := by decide +kernel
theorem gdX11_isVoid_13 : decode cX11_isVoid 13 = .ok (.aload_n 0, 1) := by decide +kernel
theorem gdX11_isVoid_14 : decode cX11_isVoid 14 = .ok (.getfield 52, 3) := by decide +kernel
theorem gdX11_isVoid_17 : decode cX11_isVoid 17 = .ok (.iload_n 1, 1) := by decide +kernel
theorem gdX11_isVoid_18 : decode cX11_isVoid 18 = .ok (.invokevirtual 302, 3) := by decide +kernel
theorem gdX11_isVoid_21 : decode cX11_isVoid 21 = .ok (.istore_n 2, 1) := by decide +kernel
theorem gdX11_isVoid_22 : decode cX11_isVoid 22 = .ok (.iload_n 2, 1) := by decide +kernel
theorem gdX11_isVoid_23 : decode cX11_isVoid 23 = .ok (.bipush 6, 2) := by decide +kernel
theorem gdX11_isVoid_25 : decode cX11_isVoid 25 = .ok (.if_icmp .ne 17, 3) := by decide +kernel
theorem gdX11_isVoid_42 : decode cX11_isVoid 42 = .ok (.iload_n 2, 1) := by decide +kernel
theorem gdX11_isVoid_43 : decode cX11_isVoid 43 = .ok (.iconst 3, 1) := by decide +kernel
theorem gdX11_isVoid_44 : decode cX11_isVoid 44 = .ok (.if_icmp .ne 17, 3) := by decide +kernel
theorem gdX11_isVoid_61 : decode cX11_isVoid 61 = .ok (.aload_n 0, 1) := by decide +kernel
theorem gdX11_isVoid_62 : decode cX11_isVoid 62 = .ok (.iconst 3, 1) := by decide +kernel
theorem gdX11_isVoid_63 : decode cX11_isVoid 63 = .ok (.invokevirtual 99, 3) := by decide +kernel
theorem gdX11_isVoid_66 : decode cX11_isVoid 66 = .ok (.ireturn, 1) := by decide +kernel
theorem gdX11_isVoid_47 : decode cX11_isVoid 47 = .ok (.aload_n 0, 1) := by decide +kernel
theorem gdX11_isVoid_48 : decode cX11_isVoid 48 = .ok (.iload_n 1, 1) := by decide +kernel
theorem gdX11_isVoid_49 : decode cX11_isVoid 49 = .ok (.invokevirtual 414, 3) := by decide +kernel
theorem gdX11_isVoid_52 : decode cX11_isVoid 52 = .ok (.ifCond .eq 7, 3) := by decide +kernel
theorem gdX11_isVoid_59 : decode cX11_isVoid 59 = .ok (.iconst 0, 1) := by decide +kernel
theorem gdX11_isVoid_55 : decode cX11_isVoid 55 = .ok (.iconst 1, 1) := by decide +kernel
theorem gdX11_isVoid_56 : decode cX11_isVoid 56 = .ok (.goto 4, 3) := by decide +kernel
theorem gdX11_isVoid_28 : decode cX11_isVoid 28 = .ok (.aload_n 0, 1) := by decide +kernel
theorem gdX11_isVoid_29 : decode cX11_isVoid 29 = .ok (.iload_n 1, 1) := by decide +kernel
theorem gdX11_isVoid_30 : decode cX11_isVoid 30 = .ok (.invokevirtual 411, 3) := by decide +kernel
theorem gdX11_isVoid_33 : decode cX11_isVoid 33 = .ok (.ifCond .eq 7, 3) := by decide +kernel
theorem gdX11_isVoid_40 : decode cX11_isVoid 40 = .ok (.iconst 0, 1) := by decide +kernel
theorem gdX11_isVoid_36 : decode cX11_isVoid 36 = .ok (.iconst 1, 1) := by decide +kernel
theorem gdX11_isVoid_37 : decode cX11_isVoid 37 = .ok (.goto 4, 3) := by decide +kernel
theorem gdX11_isVoid_11 : decode cX11_isVoid 11 = .ok (.iconst (-1), 1) := by decide +kernel
theorem gdX11_isVoid_12 : decode cX11_isVoid 12 = .ok (.ireturn, 1) := by decide +kernel
theorem gdX11_judge_33 : decode cX11_judge 33 = .ok (.iconst (-1), 1) := by decide +kernel
theorem gdX11_judge_34 : decode cX11_judge 34 = .ok (.ireturn, 1) := by decide +kernel
theorem gdX11_judge_0 : decode cX11_judge 0 = .ok (.aload_n 0, 1) := by decide +kernel
theorem gdX11_judge_1 : decode cX11_judge 1 = .ok (.getfield 52, 3) := by decide +kernel
theorem gdX11_judge_4 : decode cX11_judge 4 = .ok (.iload_n 1, 1) := by decide +kernel
theorem gdX11_judge_5 : decode cX11_judge 5 = .ok (.invokevirtual 250, 3) := by decide +kernel
theorem gdX11_judge_8 : decode cX11_judge 8 = .ok (.ifCond .eq 25, 3) := by decide +kernel
theorem gdX11_judge_11 : decode cX11_judge 11 = .ok (.aload_n 0, 1) := by decide +kernel
theorem gdX11_judge_12 : decode cX11_judge 12 = .ok (.getfield 12, 3) := by decide +kernel
theorem gdX11_judge_15 : decode cX11_judge 15 = .ok (.iload_n 2, 1) := by decide +kernel
theorem gdX11_judge_16 : decode cX11_judge 16 = .ok (.invokevirtual 95, 3) := by decide +kernel
theorem gdX11_judge_19 : decode cX11_judge 19 = .ok (.ifCond .eq 14, 3) := by decide +kernel
theorem gdX11_judge_22 : decode cX11_judge 22 = .ok (.aload_n 0, 1) := by decide +kernel
theorem gdX11_judge_23 : decode cX11_judge 23 = .ok (.getfield 12, 3) := by decide +kernel
theorem gdX11_judge_26 : decode cX11_judge 26 = .ok (.iload_n 3, 1) := by decide +kernel
theorem gdX11_judge_27 : decode cX11_judge 27 = .ok (.invokevirtual 95, 3) := by decide +kernel
theorem gdX11_judge_30 : decode cX11_judge 30 = .ok (.ifCond .ne 5, 3) := by decide +kernel
theorem gdX11_judge_35 : decode cX11_judge 35 = .ok (.aload_n 0, 1) := by decide +kernel
theorem gdX11_judge_36 : decode cX11_judge 36 = .ok (.getfield 52, 3) := by decide +kernel
theorem gdX11_judge_39 : decode cX11_judge 39 = .ok (.iload_n 1, 1) := by decide +kernel
theorem gdX11_judge_40 : decode cX11_judge 40 = .ok (.iconst 1, 1) := by decide +kernel
theorem gdX11_judge_41 : decode cX11_judge 41 = .ok (.invokevirtual 251, 3) := by decide +kernel
theorem gdX11_judge_44 : decode cX11_judge 44 = .ok (.ifCond .ne 9, 3) := by decide +kernel
theorem gdX11_judge_53 : decode cX11_judge 53 = .ok (.aload_n 0, 1) := by decide +kernel
theorem gdX11_judge_54 : decode cX11_judge 54 = .ok (.iload_n 2, 1) := by decide +kernel
theorem gdX11_judge_55 : decode cX11_judge 55 = .ok (.iload_n 3, 1) := by decide +kernel
theorem gdX11_judge_56 : decode cX11_judge 56 = .ok (.invokevirtual 459, 3) := by decide +kernel
theorem gdX11_judge_59 : decode cX11_judge 59 = .ok (.istore 4, 2) := by decide +kernel
theorem gdX11_judge_61 : decode cX11_judge 61 = .ok (.iload 4, 2) := by decide +kernel
theorem gdX11_judge_63 : decode cX11_judge 63 = .ok (.ifCond .eq 10, 3) := by decide +kernel
theorem gdX11_judge_73 : decode cX11_judge 73 = .ok (.aload_n 0, 1) := by decide +kernel
theorem gdX11_judge_74 : decode cX11_judge 74 = .ok (.aload_n 0, 1) := by decide +kernel
theorem gdX11_judge_75 : decode cX11_judge 75 = .ok (.iload_n 1, 1) := by decide +kernel
theorem gdX11_judge_76 : decode cX11_judge 76 = .ok (.iload_n 2, 1) := by decide +kernel
theorem gdX11_judge_77 : decode cX11_judge 77 = .ok (.iload_n 3, 1) := by decide +kernel
theorem gdX11_judge_78 : decode cX11_judge 78 = .ok (.invokevirtual 462, 3) := by decide +kernel
theorem gdX11_judge_81 : decode cX11_judge 81 = .ok (.invokevirtual 117, 3) := by decide +kernel
theorem gdX11_judge_84 : decode cX11_judge 84 = .ok (.ireturn, 1) := by decide +kernel
theorem gdX11_judge_66 : decode cX11_judge 66 = .ok (.aload_n 0, 1) := by decide +kernel
theorem gdX11_judge_67 : decode cX11_judge 67 = .ok (.iload 4, 2) := by decide +kernel
theorem gdX11_judge_69 : decode cX11_judge 69 = .ok (.invokevirtual 99, 3) := by decide +kernel
theorem gdX11_judge_72 : decode cX11_judge 72 = .ok (.ireturn, 1) := by decide +kernel
theorem gdX11_judge_47 : decode cX11_judge 47 = .ok (.aload_n 0, 1) := by decide +kernel
theorem gdX11_judge_48 : decode cX11_judge 48 = .ok (.iconst 3, 1) := by decide +kernel
theorem gdX11_judge_49 : decode cX11_judge 49 = .ok (.invokevirtual 99, 3) := by decide +kernel
theorem gdX11_judge_52 : decode cX11_judge 52 = .ok (.ireturn, 1) := by decide +kernel
theorem gdX11_later_16 : decode cX11_later 16 = .ok (.iconst (-1), 1) := by decide +kernel
theorem gdX11_later_17 : decode cX11_later 17 = .ok (.ireturn, 1) := by decide +kernel
theorem gdX11_later_0 : decode cX11_later 0 = .ok (.iload_n 1, 1) := by decide +kernel
theorem gdX11_later_1 : decode cX11_later 1 = .ok (.ifCond .lt 15, 3) := by decide +kernel
theorem gdX11_later_4 : decode cX11_later 4 = .ok (.iload_n 1, 1) := by decide +kernel
theorem gdX11_later_5 : decode cX11_later 5 = .ok (.sipush 999, 3) := by decide +kernel
theorem gdX11_later_8 : decode cX11_later 8 = .ok (.aload_n 0, 1) := by decide +kernel
theorem gdX11_later_9 : decode cX11_later 9 = .ok (.getfield 136, 3) := by decide +kernel
theorem gdX11_later_12 : decode cX11_later 12 = .ok (.isub, 1) := by decide +kernel
theorem gdX11_later_13 : decode cX11_later 13 = .ok (.if_icmp .le 5, 3) := by decide +kernel
theorem gdX11_later_18 : decode cX11_later 18 = .ok (.aload_n 0, 1) := by decide +kernel
theorem gdX11_later_19 : decode cX11_later 19 = .ok (.dup, 1) := by decide +kernel
theorem gdX11_later_20 : decode cX11_later 20 = .ok (.getfield 136, 3) := by decide +kernel
theorem gdX11_later_23 : decode cX11_later 23 = .ok (.iload_n 1, 1) := by decide +kernel
theorem gdX11_later_24 : decode cX11_later 24 = .ok (.iadd, 1) := by decide +kernel
theorem gdX11_later_25 : decode cX11_later 25 = .ok (.putfield 136, 3) := by decide +kernel
theorem gdX11_later_28 : decode cX11_later 28 = .ok (.aload_n 0, 1) := by decide +kernel
theorem gdX11_later_29 : decode cX11_later 29 = .ok (.getfield 136, 3) := by decide +kernel
theorem gdX11_later_32 : decode cX11_later 32 = .ok (.ireturn, 1) := by decide +kernel
theorem gdX8_exchange_0 : decode cX8_exchange 0 = .ok (.aload_n 0, 1) := by decide +kernel
theorem gdX8_exchange_1 : decode cX8_exchange 1 = .ok (.getfield 13, 3) := by decide +kernel
theorem gdX8_exchange_4 : decode cX8_exchange 4 = .ok (.iload_n 1, 1) := by decide +kernel
theorem gdX8_exchange_5 : decode cX8_exchange 5 = .ok (.bipush 40, 2) := by decide +kernel
theorem gdX8_exchange_7 : decode cX8_exchange 7 = .ok (.imul, 1) := by decide +kernel
theorem gdX8_exchange_8 : decode cX8_exchange 8 = .ok (.iload_n 2, 1) := by decide +kernel
theorem gdX8_exchange_9 : decode cX8_exchange 9 = .ok (.iadd, 1) := by decide +kernel
theorem gdX8_exchange_10 : decode cX8_exchange 10 = .ok (.iaload, 1) := by decide +kernel
theorem gdX8_exchange_11 : decode cX8_exchange 11 = .ok (.istore 4, 2) := by decide +kernel
theorem gdX8_exchange_13 : decode cX8_exchange 13 = .ok (.aload_n 0, 1) := by decide +kernel
theorem gdX8_exchange_14 : decode cX8_exchange 14 = .ok (.getfield 13, 3) := by decide +kernel
theorem gdX8_exchange_17 : decode cX8_exchange 17 = .ok (.iload_n 1, 1) := by decide +kernel
theorem gdX8_exchange_18 : decode cX8_exchange 18 = .ok (.bipush 40, 2) := by decide +kernel
theorem gdX8_exchange_20 : decode cX8_exchange 20 = .ok (.imul, 1) := by decide +kernel
theorem gdX8_exchange_21 : decode cX8_exchange 21 = .ok (.iload_n 2, 1) := by decide +kernel
theorem gdX8_exchange_22 : decode cX8_exchange 22 = .ok (.iadd, 1) := by decide +kernel
theorem gdX8_exchange_23 : decode cX8_exchange 23 = .ok (.iload_n 3, 1) := by decide +kernel
theorem gdX8_exchange_24 : decode cX8_exchange 24 = .ok (.iastore, 1) := by decide +kernel
theorem gdX8_exchange_25 : decode cX8_exchange 25 = .ok (.iload 4, 2) := by decide +kernel
theorem gdX8_exchange_27 : decode cX8_exchange 27 = .ok (.ireturn, 1) := by decide +kernel
theorem gdX11_lay_0 : decode cX11_lay 0 = .ok (.aload_n 0, 1) := by decide +kernel
theorem gdX11_lay_1 : decode cX11_lay 1 = .ok (.getfield 12, 3) := by decide +kernel
theorem gdX11_lay_4 : decode cX11_lay 4 = .ok (.iload_n 1, 1) := by decide +kernel
theorem gdX11_lay_5 : decode cX11_lay 5 = .ok (.invokevirtual 95, 3) := by decide +kernel
theorem gdX11_lay_8 : decode cX11_lay 8 = .ok (.ifCond .ne 5, 3) := by decide +kernel
theorem gdX11_lay_13 : decode cX11_lay 13 = .ok (.aload_n 0, 1) := by decide +kernel
theorem gdX11_lay_14 : decode cX11_lay 14 = .ok (.getfield 12, 3) := by decide +kernel
theorem gdX11_lay_17 : decode cX11_lay 17 = .ok (.iload_n 1, 1) := by decide +kernel
theorem gdX11_lay_18 : decode cX11_lay 18 = .ok (.invokevirtual 106, 3) := by decide +kernel
theorem gdX11_lay_21 : decode cX11_lay 21 = .ok (.ifCond .ne 9, 3) := by decide +kernel
theorem gdX11_lay_30 : decode cX11_lay 30 = .ok (.aload_n 0, 1) := by decide +kernel
theorem gdX11_lay_31 : decode cX11_lay 31 = .ok (.getfield 12, 3) := by decide +kernel
theorem gdX11_lay_34 : decode cX11_lay 34 = .ok (.iload_n 1, 1) := by decide +kernel
theorem gdX11_lay_35 : decode cX11_lay 35 = .ok (.iload_n 2, 1) := by decide +kernel
theorem gdX11_lay_36 : decode cX11_lay 36 = .ok (.invokevirtual 109, 3) := by decide +kernel
theorem gdX11_lay_39 : decode cX11_lay 39 = .ok (.ifCond .ne 9, 3) := by decide +kernel
theorem gdX11_lay_48 : decode cX11_lay 48 = .ok (.aload_n 0, 1) := by decide +kernel
theorem gdX11_lay_49 : decode cX11_lay 49 = .ok (.aload_n 0, 1) := by decide +kernel
theorem gdX11_lay_50 : decode cX11_lay 50 = .ok (.getfield 12, 3) := by decide +kernel
theorem gdX11_lay_53 : decode cX11_lay 53 = .ok (.iload_n 1, 1) := by decide +kernel
theorem gdX11_lay_54 : decode cX11_lay 54 = .ok (.iload_n 2, 1) := by decide +kernel
theorem gdX11_lay_55 : decode cX11_lay 55 = .ok (.iload_n 3, 1) := by decide +kernel
theorem gdX11_lay_56 : decode cX11_lay 56 = .ok (.invokevirtual 113, 3) := by decide +kernel
theorem gdX11_lay_59 : decode cX11_lay 59 = .ok (.invokevirtual 117, 3) := by decide +kernel
theorem gdX11_lay_62 : decode cX11_lay 62 = .ok (.ireturn, 1) := by decide +kernel
theorem gdX11_lay_42 : decode cX11_lay 42 = .ok (.aload_n 0, 1) := by decide +kernel
theorem gdX11_lay_43 : decode cX11_lay 43 = .ok (.iconst 2, 1) := by decide +kernel
theorem gdX11_lay_44 : decode cX11_lay 44 = .ok (.invokevirtual 99, 3) := by decide +kernel
theorem gdX11_lay_47 : decode cX11_lay 47 = .ok (.ireturn, 1) := by decide +kernel
theorem gdX11_lay_24 : decode cX11_lay 24 = .ok (.aload_n 0, 1) := by decide +kernel
theorem gdX11_lay_25 : decode cX11_lay 25 = .ok (.iconst 1, 1) := by decide +kernel
theorem gdX11_lay_26 : decode cX11_lay 26 = .ok (.invokevirtual 99, 3) := by decide +kernel
theorem gdX11_lay_29 : decode cX11_lay 29 = .ok (.ireturn, 1) := by decide +kernel
theorem gdX11_lay_11 : decode cX11_lay 11 = .ok (.iconst (-1), 1) := by decide +kernel
theorem gdX11_lay_12 : decode cX11_lay 12 = .ok (.ireturn, 1) := by decide +kernel
theorem gdX1_latestWorth_0 : decode cX1_latestWorth 0 = .ok (.aload_n 0, 1) := by decide +kernel
theorem gdX1_latestWorth_1 : decode cX1_latestWorth 1 = .ok (.getfield 27, 3) := by decide +kernel
theorem gdX1_latestWorth_4 : decode cX1_latestWorth 4 = .ok (.iload_n 1, 1) := by decide +kernel
theorem gdX1_latestWorth_5 : decode cX1_latestWorth 5 = .ok (.iaload, 1) := by decide +kernel
theorem gdX1_latestWorth_6 : decode cX1_latestWorth 6 = .ok (.ireturn, 1) := by decide +kernel
theorem gdX3_sortOf_0 : decode cX3_sortOf 0 = .ok (.aload_n 0, 1) := by decide +kernel
theorem gdX3_sortOf_1 : decode cX3_sortOf 1 = .ok (.getfield 11, 3) := by decide +kernel
theorem gdX3_sortOf_4 : decode cX3_sortOf 4 = .ok (.iload_n 1, 1) := by decide +kernel
theorem gdX3_sortOf_5 : decode cX3_sortOf 5 = .ok (.iaload, 1) := by decide +kernel
theorem gdX3_sortOf_6 : decode cX3_sortOf 6 = .ok (.ireturn, 1) := by decide +kernel
theorem gdX11_setPrices_89 : decode cX11_setPrices 89 = .ok (.return_, 1) := by decide +kernel
theorem gdX11_setPrices_72 : decode cX11_setPrices 72 = .ok (.aload_n 0, 1) := by decide +kernel
theorem gdX11_setPrices_73 : decode cX11_setPrices 73 = .ok (.getfield 66, 3) := by decide +kernel
theorem gdX11_setPrices_76 : decode cX11_setPrices 76 = .ok (.getfield 507, 3) := by decide +kernel
theorem gdX11_setPrices_79 : decode cX11_setPrices 79 = .ok (.iload_n 2, 1) := by decide +kernel
theorem gdX11_setPrices_80 : decode cX11_setPrices 80 = .ok (.iload 4, 2) := by decide +kernel
theorem gdX11_setPrices_82 : decode cX11_setPrices 82 = .ok (.iastore, 1) := by decide +kernel
theorem gdX11_setPrices_83 : decode cX11_setPrices 83 = .ok (.iinc 2 1, 3) := by decide +kernel
theorem gdX11_setPrices_86 : decode cX11_setPrices 86 = .ok (.goto (-84), 3) := by decide +kernel
theorem gdX11_setPrices_48 : decode cX11_setPrices 48 = .ok (.istore 4, 2) := by decide +kernel
theorem gdX11_setPrices_50 : decode cX11_setPrices 50 = .ok (.iload_n 3, 1) := by decide +kernel
theorem gdX11_setPrices_51 : decode cX11_setPrices 51 = .ok (.bipush (-9), 2) := by decide +kernel
theorem gdX11_setPrices_53 : decode cX11_setPrices 53 = .ok (.if_icmp .eq 19, 3) := by decide +kernel
theorem gdX11_setPrices_56 : decode cX11_setPrices 56 = .ok (.iload 4, 2) := by decide +kernel
theorem gdX11_setPrices_58 : decode cX11_setPrices 58 = .ok (.aload_n 0, 1) := by decide +kernel
theorem gdX11_setPrices_59 : decode cX11_setPrices 59 = .ok (.getfield 33, 3) := by decide +kernel
theorem gdX11_setPrices_62 : decode cX11_setPrices 62 = .ok (.iload_n 3, 1) := by decide +kernel
theorem gdX11_setPrices_63 : decode cX11_setPrices 63 = .ok (.invokevirtual 174, 3) := by decide +kernel
theorem gdX11_setPrices_66 : decode cX11_setPrices 66 = .ok (.bipush 100, 2) := by decide +kernel
theorem gdX11_setPrices_68 : decode cX11_setPrices 68 = .ok (.idiv, 1) := by decide +kernel
theorem gdX11_setPrices_69 : decode cX11_setPrices 69 = .ok (.iadd, 1) := by decide +kernel
theorem gdX11_setPrices_70 : decode cX11_setPrices 70 = .ok (.istore 4, 2) := by decide +kernel
theorem gdX11_setPrices_2 : decode cX11_setPrices 2 = .ok (.iload_n 2, 1) := by decide +kernel
theorem gdX11_setPrices_3 : decode cX11_setPrices 3 = .ok (.bipush 64, 2) := by decide +kernel
theorem gdX11_setPrices_5 : decode cX11_setPrices 5 = .ok (.if_icmp .ge 84, 3) := by decide +kernel
theorem gdX11_setPrices_8 : decode cX11_setPrices 8 = .ok (.aload_n 0, 1) := by decide +kernel
theorem gdX11_setPrices_9 : decode cX11_setPrices 9 = .ok (.getfield 33, 3) := by decide +kernel
theorem gdX11_setPrices_12 : decode cX11_setPrices 12 = .ok (.iload_n 2, 1) := by decide +kernel
theorem gdX11_setPrices_13 : decode cX11_setPrices 13 = .ok (.invokevirtual 143, 3) := by decide +kernel
theorem gdX11_setPrices_16 : decode cX11_setPrices 16 = .ok (.istore_n 3, 1) := by decide +kernel
theorem gdX11_setPrices_17 : decode cX11_setPrices 17 = .ok (.aload_n 0, 1) := by decide +kernel
theorem gdX11_setPrices_18 : decode cX11_setPrices 18 = .ok (.getfield 26, 3) := by decide +kernel
theorem gdX11_setPrices_21 : decode cX11_setPrices 21 = .ok (.iload_n 2, 1) := by decide +kernel
theorem gdX11_setPrices_22 : decode cX11_setPrices 22 = .ok (.invokevirtual 163, 3) := by decide +kernel
theorem gdX11_setPrices_25 : decode cX11_setPrices 25 = .ok (.ifCond .eq 7, 3) := by decide +kernel
theorem gdX11_setPrices_32 : decode cX11_setPrices 32 = .ok (.aload_n 0, 1) := by decide +kernel
theorem gdX11_setPrices_33 : decode cX11_setPrices 33 = .ok (.getfield 12, 3) := by decide +kernel
theorem gdX11_setPrices_36 : decode cX11_setPrices 36 = .ok (.iload_n 1, 1) := by decide +kernel
theorem gdX11_setPrices_37 : decode cX11_setPrices 37 = .ok (.aload_n 0, 1) := by decide +kernel
theorem gdX11_setPrices_38 : decode cX11_setPrices 38 = .ok (.getfield 26, 3) := by decide +kernel
theorem gdX11_setPrices_41 : decode cX11_setPrices 41 = .ok (.iload_n 2, 1) := by decide +kernel
theorem gdX11_setPrices_42 : decode cX11_setPrices 42 = .ok (.invokevirtual 501, 3) := by decide +kernel
theorem gdX11_setPrices_45 : decode cX11_setPrices 45 = .ok (.invokevirtual 504, 3) := by decide +kernel
theorem gdX11_setPrices_28 : decode cX11_setPrices 28 = .ok (.iconst 0, 1) := by decide +kernel
theorem gdX11_setPrices_29 : decode cX11_setPrices 29 = .ok (.goto 19, 3) := by decide +kernel
theorem gdX11_setPrices_0 : decode cX11_setPrices 0 = .ok (.iconst 0, 1) := by decide +kernel
theorem gdX11_setPrices_1 : decode cX11_setPrices 1 = .ok (.istore_n 2, 1) := by decide +kernel
theorem okm_X8_holds : okM yX8_holds cX8_holds 3 (some .boolean) 2 := ⟨w_546, w_90, by decide +kernel, by decide +kernel, by decide +kernel⟩
theorem okw_X8_holds : okV yX8_holds := ⟨w_544, w_545⟩
theorem okm_X7_isDigit : okM yX7_isDigit cX7_isDigit 1 (some .boolean) 1 := ⟨w_612, w_96, by decide +kernel, by decide +kernel, by decide +kernel⟩
theorem okm_X7_letterOf : okM yX7_letterOf cX7_letterOf 2 (some .int) 1 := ⟨w_603, w_96, by decide +kernel, by decide +kernel, by decide +kernel⟩
theorem okm_X7_digitsAt : okM yX7_digitsAt cX7_digitsAt 4 (some .int) 3 := ⟨w_608, w_96, by decide +kernel, by decide +kernel, by decide +kernel⟩
theorem okm_X7_firstFault : okM yX7_firstFault cX7_firstFault 5 (some .int) 2 := ⟨w_592, w_96, by decide +kernel, by decide +kernel, by decide +kernel⟩
theorem okm_X7_isLetter : okM yX7_isLetter cX7_isLetter 1 (some .boolean) 1 := ⟨w_770, w_96, by decide +kernel, by decide +kernel, by decide +kernel⟩
theorem okm_X11_isDay : okM yX11_isDay cX11_isDay 1 (some .boolean) 1 := ⟨w_686, w_89, by decide +kernel, by decide +kernel, by decide +kernel⟩
theorem okm_X4_add : okM yX4_add cX4_add 5 (some .int) 3 := ⟨w_872, w_97, by decide +kernel, by decide +kernel, by decide +kernel⟩
theorem okw_X4_add : okV yX4_add := ⟨w_870, w_871⟩
theorem okm_X4_setGrant : okM yX4_setGrant cX4_setGrant 4 none 3 := ⟨w_1002, w_97, by decide +kernel, by decide +kernel, by decide +kernel⟩
theorem okw_X4_setGrant : okV yX4_setGrant := ⟨w_1000, w_1001⟩
theorem okm_X4_dateOf : okM yX4_dateOf cX4_dateOf 2 (some .int) 1 := ⟨w_1241, w_97, by decide +kernel, by decide +kernel, by decide +kernel⟩
theorem okw_X4_dateOf : okV yX4_dateOf := ⟨w_1239, w_1240⟩
theorem okm_X4_amountOf : okM yX4_amountOf cX4_amountOf 2 (some .int) 1 := ⟨w_1049, w_97, by decide +kernel, by decide +kernel, by decide +kernel⟩
theorem okw_X4_amountOf : okV yX4_amountOf := ⟨w_1047, w_1048⟩
theorem okm_X2_heards : okM yX2_heards cX2_heards 1 (some .int) 0 := ⟨w_1093, w_98, by decide +kernel, by decide +kernel, by decide +kernel⟩
theorem okw_X2_heards : okV yX2_heards := ⟨w_1091, w_1092⟩
theorem okm_X2_addHeard : okM yX2_addHeard cX2_addHeard 4 none 3 := ⟨w_1097, w_98, by decide +kernel, by decide +kernel, by decide +kernel⟩
theorem okw_X2_addHeard : okV yX2_addHeard := ⟨w_1095, w_1096⟩
theorem okm_X4_setHearing : okM yX4_setHearing cX4_setHearing 5 none 4 := ⟨w_1010, w_97, by decide +kernel, by decide +kernel, by decide +kernel⟩
theorem okw_X4_setHearing : okV yX4_setHearing := ⟨w_1008, w_1009⟩
theorem okm_X5_homeOf : okM yX5_homeOf cX5_homeOf 2 (some .int) 1 := ⟨w_990, w_95, by decide +kernel, by decide +kernel, by decide +kernel⟩
theorem okw_X5_homeOf : okV yX5_homeOf := ⟨w_988, w_989⟩
theorem okm_X4_partyOf : okM yX4_partyOf cX4_partyOf 2 (some .int) 1 := ⟨w_1030, w_97, by decide +kernel, by decide +kernel, by decide +kernel⟩
theorem okw_X4_partyOf : okV yX4_partyOf := ⟨w_1028, w_1029⟩
theorem okm_X3_steps : okM yX3_steps cX3_steps 2 (some .int) 2 := ⟨w_1037, w_93, by decide +kernel, by decide +kernel, by decide +kernel⟩
theorem okm_X4_hourOf : okM yX4_hourOf cX4_hourOf 2 (some .int) 1 := ⟨w_1041, w_97, by decide +kernel, by decide +kernel, by decide +kernel⟩
theorem okw_X4_hourOf : okV yX4_hourOf := ⟨w_1039, w_1040⟩
theorem okm_X5_canCome : okM yX5_canCome cX5_canCome 4 (some .boolean) 3 := ⟨w_1045, w_95, by decide +kernel, by decide +kernel, by decide +kernel⟩
theorem okw_X5_canCome : okV yX5_canCome := ⟨w_1043, w_1044⟩
theorem okm_X4_dayOf : okM yX4_dayOf cX4_dayOf 2 (some .int) 1 := ⟨w_1237, w_97, by decide +kernel, by decide +kernel, by decide +kernel⟩
theorem okw_X4_dayOf : okV yX4_dayOf := ⟨w_1235, w_1236⟩
theorem okm_X11_couldCome : okM yX11_couldCome cX11_couldCome 6 (some .int) 1 := ⟨w_1034, w_89, by decide +kernel, by decide +kernel, by decide +kernel⟩
theorem okw_X11_couldCome : okV yX11_couldCome := ⟨w_1033, w_11⟩
theorem okm_X4_hangsOn : okM yX4_hangsOn cX4_hangsOn 2 (some .int) 1 := ⟨w_1249, w_97, by decide +kernel, by decide +kernel, by decide +kernel⟩
theorem okw_X4_hangsOn : okV yX4_hangsOn := ⟨w_1247, w_1248⟩
theorem okm_X11_isVoidHearing : okM yX11_isVoidHearing cX11_isVoidHearing 3 (some .boolean) 1 := ⟨w_1233, w_89, by decide +kernel, by decide +kernel, by decide +kernel⟩
theorem okw_X11_isVoidHearing : okV yX11_isVoidHearing := ⟨w_1232, w_22⟩
theorem okm_X11_isVoidTaking : okM yX11_isVoidTaking cX11_isVoidTaking 3 (some .boolean) 1 := ⟨w_1245, w_89, by decide +kernel, by decide +kernel, by decide +kernel⟩
theorem okw_X11_isVoidTaking : okV yX11_isVoidTaking := ⟨w_1244, w_23⟩
theorem okm_X8_exchange : okM yX8_exchange cX8_exchange 5 (some .int) 3 := ⟨w_550, w_90, by decide +kernel, by decide +kernel, by decide +kernel⟩
theorem okw_X8_exchange : okV yX8_exchange := ⟨w_548, w_549⟩
theorem okm_X1_latestWorth : okM yX1_latestWorth cX1_latestWorth 2 (some .int) 1 := ⟨w_678, w_94, by decide +kernel, by decide +kernel, by decide +kernel⟩
theorem okw_X1_latestWorth : okV yX1_latestWorth := ⟨w_676, w_677⟩
theorem okm_X3_sortOf : okM yX3_sortOf cX3_sortOf 2 (some .int) 1 := ⟨w_807, w_93, by decide +kernel, by decide +kernel, by decide +kernel⟩
theorem okw_X3_sortOf : okV yX3_sortOf := ⟨w_805, w_806⟩
noncomputable def b_X8_exists__4_17 (o : OO) (y0 : Int) : Option (Int) := qZ y0 (some y0)
noncomputable def b_X8_exists__4_16 (o : OO) : Option (Int) := b_X8_exists__4_17 o 0
noncomputable def s_X8_exists__4 (o : OO) (x1 : Int) : Option (Int) := qLt x1 0 (b_X8_exists__4_16 o) (qLt x1 (o.1 4 0) (b_X8_exists__4_17 o 1) (b_X8_exists__4_16 o))
set_option maxHeartbeats 4000000 in
set_option maxRecDepth 100000 in
theorem c_X8_exists__4 (l : Launch) (g : GG) (ad : Nat → Nat) (o : OO) (x1 : Int) (v : Int) (h : s_X8_exists__4 o x1 = some v) : CI l g yX8_exists cX8_exists 2 (some .boolean) 0 0 (wC g ad o) [.ref (ad 4), iv x1] v (wC g ad o) := by
  refine met_I (by decide) (Nat.le_of_ble_eq_true rfl) ?_
  intro X E hQ
  show Go X 0 (wC g ad o) [(0, .ref (ad 4)), (1, iv x1)] []
  have j17 : ∀ (y0 : Int), b_X8_exists__4_17 o y0 = some v → Go X 17 (wC g ad o) [] [iv y0] := by
    intro y0 h
    unfold b_X8_exists__4_17 at h
    obtain ⟨hz, h⟩ := qZ_of h
    exact g_zret E hQ hz (Option.some.inj h) rfl gdX8_exists_17
  have j16 : b_X8_exists__4_16 o = some v → Go X 16 (wC g ad o) [] [] := by
    intro h
    unfold b_X8_exists__4_16 at h
    refine g_iconst E gdX8_exists_16 ?_
    exact j17 0 h
  unfold s_X8_exists__4 at h
  refine g_iload_n E gdX8_exists_0 rfl 1 rfl ?_
  refine g_if_lt E 16 gdX8_exists_1 (by decide) h (fun h => ?_) (fun h => ?_)
  ·
    refine g_sub E [] rfl ?_
    exact j16  h
  ·
    refine g_iload_n E gdX8_exists_4 rfl 1 rfl ?_
    refine g_aload_n E gdX8_exists_5 rfl 0 rfl ?_
    refine g_get (T := TX8) E fw_X8 4 (wC_4 g ad o) rfl 0 (by decide) w_126 rfl rfl gdX8_exists_6 ?_
    refine g_icmp_ge E 16 gdX8_exists_9 (by decide) h (fun h => ?_) (fun h => ?_)
    ·
      refine g_sub E [] rfl ?_
      exact j16  h
    ·
      refine g_iconst E gdX8_exists_12 ?_
      refine g_goto E 17 gdX8_exists_13 (by decide) ?_
      refine g_sub E [] rfl ?_
      exact j17 1 h
noncomputable def s_X8_sizeOf__4 (o : OO) (x1 : Int) : Option (Int) := qIn x1 6 (qNm (o.1 5 x1.toNat) (fun n2 => some n2))
set_option maxHeartbeats 4000000 in
set_option maxRecDepth 100000 in
theorem c_X8_sizeOf__4 (l : Launch) (g : GG) (ad : Nat → Nat) (o : OO) (x1 : Int) (v : Int) (h : s_X8_sizeOf__4 o x1 = some v) : CI l g yX8_sizeOf cX8_sizeOf 2 (some .int) 0 0 (wC g ad o) [.ref (ad 4), iv x1] v (wC g ad o) := by
  refine met_I (by decide) (Nat.le_of_ble_eq_true rfl) ?_
  intro X E hQ
  show Go X 0 (wC g ad o) [(0, .ref (ad 4)), (1, iv x1)] []
  unfold s_X8_sizeOf__4 at h
  refine g_aload_n E gdX8_sizeOf_0 rfl 0 rfl ?_
  refine g_get (T := TX8) E fw_X8 4 (wC_4 g ad o) rfl 2 (by decide) w_128 rfl rfl gdX8_sizeOf_1 ?_
  refine g_iload_n E gdX8_sizeOf_4 rfl 1 rfl ?_
  obtain ⟨hi1, h⟩ := qIn_of h
  refine g_iald E 5 (wC_5 g ad o) (by decide) hi1 gdX8_sizeOf_5 ?_
  obtain ⟨n2, e_n2, h⟩ := qNm_of h
  refine g_nmi e_n2 ?_
  exact g_iret E hQ (Option.some.inj h) rfl gdX8_sizeOf_6
noncomputable def b_X7_letterOf_17 (x1 : Int) : Option (Int) := some x1
noncomputable def b_X7_letterOf_25  : Option (Int) := some (-9)
noncomputable def l_X7_letterOf_2 (x0 : Int) (x1 : Int) : Option ((Int) ⊕ ((Int) ⊕ (Unit))) := qLt x1 8 (qIn x1 8 (qNm (lettersN x1.toNat) (fun n2 => qEq n2 x0 (some (.inr (.inl x1))) (some (.inl (x1 + 1)))))) (some (.inr (.inr ())))
noncomputable def e_X7_letterOf_2 (x0 : Int) (x1 : Int) : Option (Int) := qB (loopW (fun s => l_X7_letterOf_2 x0 s) x1) (Sum.elim (fun r => b_X7_letterOf_17 r) (fun _ => b_X7_letterOf_25 ))
noncomputable def s_X7_letterOf (x0 : Int) : Option (Int) := e_X7_letterOf_2 x0 0
set_option maxHeartbeats 4000000 in
set_option maxRecDepth 100000 in
theorem c_X7_letterOf (l : Launch) (g : GG) (ws : va_W) (x0 : Int) (v : Int) (h : s_X7_letterOf x0 = some v) : CI l g yX7_letterOf cX7_letterOf 2 (some .int) 0 0 ws [iv x0] v ws := by
  refine met_I (by decide) (Nat.le_of_ble_eq_true rfl) ?_
  intro X E hQ
  show Go X 0 ws [(0, iv x0)] []
  have j17 : ∀ (x1 : Int), b_X7_letterOf_17 x1 = some v → Go X 17 ws [(1, iv x1)] [] := by
    intro x1 h
    unfold b_X7_letterOf_17 at h
    refine g_iload_n E gdX7_letterOf_17 rfl 0 rfl ?_
    exact g_iret E hQ (Option.some.inj h) rfl gdX7_letterOf_18
  have j25 : b_X7_letterOf_25  = some v → Go X 25 ws [] [] := by
    intro h
    unfold b_X7_letterOf_25 at h
    refine g_bipush E gdX7_letterOf_25 (by decide) ?_
    exact g_iret E hQ (Option.some.inj h) rfl gdX7_letterOf_27
  have l2 : ∀ (x0 : Int) (r : (Int) ⊕ (Unit)) (s0 : Int), loopW (fun s => l_X7_letterOf_2 x0 s) s0 = some r → (∀ (x1 : Int), r = (.inl x1) → Go X 17 ws [(1, iv x1)] []) → (r = (.inr ()) → Go X 25 ws [] []) → Go X 2 ws [(0, iv x0), (1, iv s0)] [] := by
    intro x0 r s0 h k1 k2
    refine loop_rule (Head := fun s0 => Go X 2 ws [(0, iv x0), (1, iv s0)] []) h ?_
    intro s v h kk kx
    obtain ⟨x1, hs⟩ : ∃ q, q = s := ⟨_, rfl⟩
    subst hs
    have h : l_X7_letterOf_2 x0 x1 = some v := h
    have k0 : ∀ (x1 : Int), v = .inl x1 → Go X 2 ws [(0, iv x0), (1, iv x1)] [] := fun x1 e => kk x1 e
    have k1 : ∀ (x1 : Int), v = .inr (.inl x1) → Go X 17 ws [(1, iv x1)] [] := fun x1 e => k1 x1 (kx _ e).symm
    have k2 : v = .inr (.inr ()) → Go X 25 ws [] [] := fun e => k2 (kx _ e).symm
    unfold l_X7_letterOf_2 at h
    refine g_iload_n E gdX7_letterOf_2 rfl 1 rfl ?_
    refine g_bipush E gdX7_letterOf_3 (by decide) ?_
    refine g_icmp_ge E 25 gdX7_letterOf_5 (by decide) h (fun h => ?_) (fun h => ?_)
    ·
      refine g_sub E [] rfl ?_
      exact k2  (Option.some.inj h).symm
    ·
      refine g_gsL E w_604 rfl gdX7_letterOf_8 ?_
      refine g_iload_n E gdX7_letterOf_11 rfl 1 rfl ?_
      obtain ⟨hi1, h⟩ := qIn_of h
      refine g_stL E hi1 gdX7_letterOf_12 ?_
      obtain ⟨n2, e_n2, h⟩ := qNm_of h
      refine g_nmi e_n2 ?_
      refine g_iload_n E gdX7_letterOf_13 rfl 0 rfl ?_
      refine g_icmp_ne E 19 gdX7_letterOf_14 (by decide) h (fun h => ?_) (fun h => ?_)
      ·
        refine g_iinc E [(1, iv (x1 + 1)), (0, iv x0)] gdX7_letterOf_19 1 rfl (by decide) rfl ?_
        refine g_goto E 2 gdX7_letterOf_22 (by decide) ?_
        refine g_sub E [1, 0] rfl ?_
        exact k0 (x1 + 1) (Option.some.inj h).symm
      ·
        refine g_sub E [1] rfl ?_
        exact k1 x1 (Option.some.inj h).symm
  have j2 : ∀ (x0 : Int) (x1 : Int), e_X7_letterOf_2 x0 x1 = some v → Go X 2 ws [(0, iv x0), (1, iv x1)] [] := by
    intro x0 x1 h
    unfold e_X7_letterOf_2 at h
    obtain ⟨r, hr, h⟩ := qB_of h
    refine l2 x0 r _ hr ?_ ?_
    ·
      intro u0 e
      subst e
      have h : b_X7_letterOf_17 u0 = some v := h
      exact j17 u0 h
    ·
      intro e
      subst e
      have h : b_X7_letterOf_25  = some v := h
      exact j25  h
  unfold s_X7_letterOf at h
  refine g_iconst E gdX7_letterOf_0 ?_
  refine g_istore_n E [(1, iv 0), (0, iv x0)] gdX7_letterOf_1 rfl (by decide) rfl ?_
  refine g_sub E [1, 0] rfl ?_
  exact j2 x0 0 h
noncomputable def b_X8_holds_19 (o : OO) (y0 : Int) : Option (Int) := qZ y0 (some y0)
noncomputable def b_X8_holds_18 (o : OO) : Option (Int) := b_X8_holds_19 o 0
noncomputable def s_X8_holds (o : OO) (x1 : Int) (x2 : Int) : Option (Int) := qLt x2 0 (b_X8_holds_18 o) (qIn x1 6 (qNm (o.1 5 x1.toNat) (fun n2 => qLt x2 n2 (b_X8_holds_19 o 1) (b_X8_holds_18 o))))
set_option maxHeartbeats 4000000 in
set_option maxRecDepth 100000 in
theorem c_X8_holds (l : Launch) (g : GG) (ad : Nat → Nat) (o : OO) (x1 : Int) (x2 : Int) (v : Int) (h : s_X8_holds o x1 x2 = some v) : CI l g yX8_holds cX8_holds 3 (some .boolean) 0 0 (wC g ad o) [.ref (ad 4), iv x1, iv x2] v (wC g ad o) := by
  refine met_I (by decide) (Nat.le_of_ble_eq_true rfl) ?_
  intro X E hQ
  show Go X 0 (wC g ad o) [(0, .ref (ad 4)), (1, iv x1), (2, iv x2)] []
  have j19 : ∀ (y0 : Int), b_X8_holds_19 o y0 = some v → Go X 19 (wC g ad o) [] [iv y0] := by
    intro y0 h
    unfold b_X8_holds_19 at h
    obtain ⟨hz, h⟩ := qZ_of h
    exact g_zret E hQ hz (Option.some.inj h) rfl gdX8_holds_19
  have j18 : b_X8_holds_18 o = some v → Go X 18 (wC g ad o) [] [] := by
    intro h
    unfold b_X8_holds_18 at h
    refine g_iconst E gdX8_holds_18 ?_
    exact j19 0 h
  unfold s_X8_holds at h
  refine g_iload_n E gdX8_holds_0 rfl 2 rfl ?_
  refine g_if_lt E 18 gdX8_holds_1 (by decide) h (fun h => ?_) (fun h => ?_)
  ·
    refine g_sub E [] rfl ?_
    exact j18  h
  ·
    refine g_iload_n E gdX8_holds_4 rfl 2 rfl ?_
    refine g_aload_n E gdX8_holds_5 rfl 0 rfl ?_
    refine g_get (T := TX8) E fw_X8 4 (wC_4 g ad o) rfl 2 (by decide) w_128 rfl rfl gdX8_holds_6 ?_
    refine g_iload_n E gdX8_holds_9 rfl 1 rfl ?_
    obtain ⟨hi1, h⟩ := qIn_of h
    refine g_iald E 5 (wC_5 g ad o) (by decide) hi1 gdX8_holds_10 ?_
    obtain ⟨n2, e_n2, h⟩ := qNm_of h
    refine g_nmi e_n2 ?_
    refine g_icmp_ge E 18 gdX8_holds_11 (by decide) h (fun h => ?_) (fun h => ?_)
    ·
      refine g_sub E [] rfl ?_
      exact j18  h
    ·
      refine g_iconst E gdX8_holds_14 ?_
      refine g_goto E 19 gdX8_holds_15 (by decide) ?_
      refine g_sub E [] rfl ?_
      exact j19 1 h
noncomputable def b_X7_isDigit_17 (y0 : Int) : Option (Int) := qZ y0 (some y0)
noncomputable def b_X7_isDigit_16  : Option (Int) := b_X7_isDigit_17 0
noncomputable def s_X7_isDigit (x0 : Int) : Option (Int) := qLt x0 48 (b_X7_isDigit_16 ) (qLt 57 x0 (b_X7_isDigit_16 ) (b_X7_isDigit_17 1))
set_option maxHeartbeats 4000000 in
set_option maxRecDepth 100000 in
theorem c_X7_isDigit (l : Launch) (g : GG) (ws : va_W) (x0 : Int) (v : Int) (h : s_X7_isDigit x0 = some v) : CI l g yX7_isDigit cX7_isDigit 1 (some .boolean) 0 0 ws [iv x0] v ws := by
  refine met_I (by decide) (Nat.le_of_ble_eq_true rfl) ?_
  intro X E hQ
  show Go X 0 ws [(0, iv x0)] []
  have j17 : ∀ (y0 : Int), b_X7_isDigit_17 y0 = some v → Go X 17 ws [] [iv y0] := by
    intro y0 h
    unfold b_X7_isDigit_17 at h
    obtain ⟨hz, h⟩ := qZ_of h
    exact g_zret E hQ hz (Option.some.inj h) rfl gdX7_isDigit_17
  have j16 : b_X7_isDigit_16  = some v → Go X 16 ws [] [] := by
    intro h
    unfold b_X7_isDigit_16 at h
    refine g_iconst E gdX7_isDigit_16 ?_
    exact j17 0 h
  unfold s_X7_isDigit at h
  refine g_iload_n E gdX7_isDigit_0 rfl 0 rfl ?_
  refine g_bipush E gdX7_isDigit_1 (by decide) ?_
  refine g_icmp_lt E 16 gdX7_isDigit_3 (by decide) h (fun h => ?_) (fun h => ?_)
  ·
    refine g_sub E [] rfl ?_
    exact j16  h
  ·
    refine g_iload_n E gdX7_isDigit_6 rfl 0 rfl ?_
    refine g_bipush E gdX7_isDigit_7 (by decide) ?_
    refine g_icmp_gt E 16 gdX7_isDigit_9 (by decide) h (fun h => ?_) (fun h => ?_)
    ·
      refine g_sub E [] rfl ?_
      exact j16  h
    ·
      refine g_iconst E gdX7_isDigit_12 ?_
      refine g_goto E 17 gdX7_isDigit_13 (by decide) ?_
      refine g_sub E [] rfl ?_
      exact j17 1 h
noncomputable def b_X7_digitsAt_38 (o : OO) (x3 : Int) : Option (Int) := some x3
noncomputable def l_X7_digitsAt_2 (o : OO) (x1 : Int) (x2 : Int) (x3 : Int) : Option ((Int) ⊕ ((Int))) := qLt x3 4 (qB (s_X8_holds o x1 (x2 + x3)) (fun r1 => qEq r1 0 (some (.inr (x3))) (qB (s_X8_at__4 o x1 (x2 + x3)) (fun r3 => qB (s_X7_isDigit r3) (fun r5 => qEq r5 0 (some (.inr (x3))) (some (.inl (x3 + 1)))))))) (some (.inr (x3)))
noncomputable def e_X7_digitsAt_2 (o : OO) (x1 : Int) (x2 : Int) (x3 : Int) : Option (Int) := qB (loopW (fun s => l_X7_digitsAt_2 o x1 x2 s) x3) (fun r => b_X7_digitsAt_38 o r)
noncomputable def s_X7_digitsAt (o : OO) (x1 : Int) (x2 : Int) : Option (Int) := e_X7_digitsAt_2 o x1 x2 0
set_option maxHeartbeats 4000000 in
set_option maxRecDepth 100000 in
theorem c_X7_digitsAt (l : Launch) (g : GG) (ad : Nat → Nat) (o : OO) (x1 : Int) (x2 : Int) (v : Int) (h : s_X7_digitsAt o x1 x2 = some v) : CI l g yX7_digitsAt cX7_digitsAt 4 (some .int) 1 22 (wC g ad o) [.ref (ad 4), iv x1, iv x2] v (wC g ad o) := by
  refine met_I (by decide) (Nat.le_of_ble_eq_true rfl) ?_
  intro X E hQ
  show Go X 0 (wC g ad o) [(0, .ref (ad 4)), (1, iv x1), (2, iv x2)] []
  have j38 : ∀ (x3 : Int), b_X7_digitsAt_38 o x3 = some v → Go X 38 (wC g ad o) [(3, iv x3)] [] := by
    intro x3 h
    unfold b_X7_digitsAt_38 at h
    refine g_iload_n E gdX7_digitsAt_38 rfl 0 rfl ?_
    exact g_iret E hQ (Option.some.inj h) rfl gdX7_digitsAt_39
  have l2 : ∀ (x1 : Int) (x2 : Int) (r : (Int)) (s0 : Int), loopW (fun s => l_X7_digitsAt_2 o x1 x2 s) s0 = some r → (∀ (x3 : Int), r = (x3) → Go X 38 (wC g ad o) [(3, iv x3)] []) → Go X 2 (wC g ad o) [(0, .ref (ad 4)), (1, iv x1), (2, iv x2), (3, iv s0)] [] := by
    intro x1 x2 r s0 h k1
    refine loop_rule (Head := fun s0 => Go X 2 (wC g ad o) [(0, .ref (ad 4)), (1, iv x1), (2, iv x2), (3, iv s0)] []) h ?_
    intro s v h kk kx
    obtain ⟨x3, hs⟩ : ∃ q, q = s := ⟨_, rfl⟩
    subst hs
    have h : l_X7_digitsAt_2 o x1 x2 x3 = some v := h
    have k0 : ∀ (x3 : Int), v = .inl x3 → Go X 2 (wC g ad o) [(0, .ref (ad 4)), (1, iv x1), (2, iv x2), (3, iv x3)] [] := fun x3 e => kk x3 e
    have k1 : ∀ (x3 : Int), v = .inr (x3) → Go X 38 (wC g ad o) [(3, iv x3)] [] := fun x3 e => k1 x3 (kx _ e).symm
    unfold l_X7_digitsAt_2 at h
    refine g_iload_n E gdX7_digitsAt_2 rfl 3 rfl ?_
    refine g_iconst E gdX7_digitsAt_3 ?_
    refine g_icmp_ge E 38 gdX7_digitsAt_4 (by decide) h (fun h => ?_) (fun h => ?_)
    ·
      refine g_sub E [3] rfl ?_
      exact k1 x3 (Option.some.inj h).symm
    ·
      refine g_aload_n E gdX7_digitsAt_7 rfl 0 rfl ?_
      refine g_iload_n E gdX7_digitsAt_8 rfl 1 rfl ?_
      refine g_iload_n E gdX7_digitsAt_9 rfl 2 rfl ?_
      refine g_iload_n E gdX7_digitsAt_10 rfl 3 rfl ?_
      refine g_iadd E gdX7_digitsAt_11 ?_
      obtain ⟨r1, hc2, h⟩ := qB_of h
      refine g_Vi (r := r1) (As := [iv x1, iv (x2 + x3)]) (rest := []) (w := wC g ad o) E (c_X8_holds l g ad o x1 (x2 + x3) r1 hc2) okm_X8_holds okw_X8_holds w_609 rfl (wC_4 g ad o) rfl rfl (Nat.le_of_ble_eq_true rfl) ⟨Nat.le_of_ble_eq_true rfl, Nat.le_of_ble_eq_true rfl⟩ gdX7_digitsAt_12 ?_
      refine g_if_eq E 38 gdX7_digitsAt_15 (by decide) h (fun h => ?_) (fun h => ?_)
      ·
        refine g_sub E [3] rfl ?_
        exact k1 x3 (Option.some.inj h).symm
      ·
        refine g_aload_n E gdX7_digitsAt_18 rfl 0 rfl ?_
        refine g_iload_n E gdX7_digitsAt_19 rfl 1 rfl ?_
        refine g_iload_n E gdX7_digitsAt_20 rfl 2 rfl ?_
        refine g_iload_n E gdX7_digitsAt_21 rfl 3 rfl ?_
        refine g_iadd E gdX7_digitsAt_22 ?_
        obtain ⟨r3, hc4, h⟩ := qB_of h
        refine g_Vi (r := r3) (As := [iv x1, iv (x2 + x3)]) (rest := []) (w := wC g ad o) E (c_X8_at__4 l g ad o x1 (x2 + x3) r3 hc4) okm_X8_at okw_X8_at w_597 rfl (wC_4 g ad o) rfl rfl (Nat.le_of_ble_eq_true rfl) ⟨Nat.le_of_ble_eq_true rfl, Nat.le_of_ble_eq_true rfl⟩ gdX7_digitsAt_23 ?_
        obtain ⟨r5, hc6, h⟩ := qB_of h
        refine g_Si (r := r5) (As := [iv r3]) (rest := []) (w := wC g ad o) E (c_X7_isDigit l g (wC g ad o) r3 r5 hc6) okm_X7_isDigit w_611 w_610 rfl rfl (Nat.le_of_ble_eq_true rfl) ⟨Nat.le_of_ble_eq_true rfl, Nat.le_of_ble_eq_true rfl⟩ gdX7_digitsAt_26 ?_
        refine g_if_eq E 38 gdX7_digitsAt_29 (by decide) h (fun h => ?_) (fun h => ?_)
        ·
          refine g_sub E [3] rfl ?_
          exact k1 x3 (Option.some.inj h).symm
        ·
          refine g_iinc E [(3, iv (x3 + 1)), (0, .ref (ad 4)), (1, iv x1), (2, iv x2)] gdX7_digitsAt_32 3 rfl (by decide) rfl ?_
          refine g_goto E 2 gdX7_digitsAt_35 (by decide) ?_
          refine g_sub E [1, 2, 3, 0] rfl ?_
          exact k0 (x3 + 1) (Option.some.inj h).symm
  have j2 : ∀ (x1 : Int) (x2 : Int) (x3 : Int), e_X7_digitsAt_2 o x1 x2 x3 = some v → Go X 2 (wC g ad o) [(0, .ref (ad 4)), (1, iv x1), (2, iv x2), (3, iv x3)] [] := by
    intro x1 x2 x3 h
    unfold e_X7_digitsAt_2 at h
    obtain ⟨r, hr, h⟩ := qB_of h
    refine l2 x1 x2 r _ hr ?_
    ·
      intro u0 e
      have e := e.symm
      subst e
      have h : b_X7_digitsAt_38 o u0 = some v := h
      exact j38 u0 h
  unfold s_X7_digitsAt at h
  refine g_iconst E gdX7_digitsAt_0 ?_
  refine g_istore_n E [(3, iv 0), (0, .ref (ad 4)), (1, iv x1), (2, iv x2)] gdX7_digitsAt_1 rfl (by decide) rfl ?_
  refine g_sub E [1, 2, 3, 0] rfl ?_
  exact j2 x1 x2 0 h
noncomputable def b_X7_firstFault_39 (o : OO) (x2 : Int) : Option (Int) := some (x2 - 1)
noncomputable def b_X7_firstFault_56 (o : OO) (x2 : Int) : Option (Int) := some x2
noncomputable def b_X7_firstFault_66 (o : OO) : Option (Int) := some (-9)
noncomputable def l_X7_firstFault_2 (o : OO) (x1 : Int) (x2 : Int) : Option ((Int) ⊕ ((Int) ⊕ (Int) ⊕ (Unit))) := qB (s_X8_sizeOf__4 o x1) (fun r1 => qLt x2 r1 (qB (s_X8_at__4 o x1 x2) (fun r3 => qEq r3 32 (some (.inl (x2 + 1))) (qB (s_X7_letterOf r3) (fun r5 => qEq r5 (-9) (some (.inr (.inl (x2 + 1)))) (qB (s_X7_digitsAt o x1 (x2 + 1)) (fun r7 => qEq r7 0 (some (.inr (.inr (.inl (x2 + 1))))) (qNm ((x2 + 1) + r7) (fun n9 => some (.inl n9))))))))) (some (.inr (.inr (.inr ())))))
noncomputable def e_X7_firstFault_2 (o : OO) (x1 : Int) (x2 : Int) : Option (Int) := qB (loopW (fun s => l_X7_firstFault_2 o x1 s) x2) (Sum.elim (fun r => b_X7_firstFault_39 o r) (Sum.elim (fun r => b_X7_firstFault_56 o r) (fun _ => b_X7_firstFault_66 o)))
noncomputable def s_X7_firstFault (o : OO) (x1 : Int) : Option (Int) := e_X7_firstFault_2 o x1 0
set_option maxHeartbeats 4000000 in
set_option maxRecDepth 100000 in
theorem c_X7_firstFault (l : Launch) (g : GG) (ad : Nat → Nat) (o : OO) (x1 : Int) (v : Int) (h : s_X7_firstFault o x1 = some v) : CI l g yX7_firstFault cX7_firstFault 5 (some .int) 2 45 (wC g ad o) [.ref (ad 4), iv x1] v (wC g ad o) := by
  refine met_I (by decide) (Nat.le_of_ble_eq_true rfl) ?_
  intro X E hQ
  show Go X 0 (wC g ad o) [(0, .ref (ad 4)), (1, iv x1)] []
  have j39 : ∀ (x2 : Int), b_X7_firstFault_39 o x2 = some v → Go X 39 (wC g ad o) [(2, iv x2)] [] := by
    intro x2 h
    unfold b_X7_firstFault_39 at h
    refine g_iload_n E gdX7_firstFault_39 rfl 0 rfl ?_
    refine g_iconst E gdX7_firstFault_40 ?_
    refine g_isub E gdX7_firstFault_41 ?_
    exact g_iret E hQ (Option.some.inj h) rfl gdX7_firstFault_42
  have j56 : ∀ (x2 : Int), b_X7_firstFault_56 o x2 = some v → Go X 56 (wC g ad o) [(2, iv x2)] [] := by
    intro x2 h
    unfold b_X7_firstFault_56 at h
    refine g_iload_n E gdX7_firstFault_56 rfl 0 rfl ?_
    exact g_iret E hQ (Option.some.inj h) rfl gdX7_firstFault_57
  have j66 : b_X7_firstFault_66 o = some v → Go X 66 (wC g ad o) [] [] := by
    intro h
    unfold b_X7_firstFault_66 at h
    refine g_bipush E gdX7_firstFault_66 (by decide) ?_
    exact g_iret E hQ (Option.some.inj h) rfl gdX7_firstFault_68
  have l2 : ∀ (x1 : Int) (r : (Int) ⊕ (Int) ⊕ (Unit)) (s0 : Int), loopW (fun s => l_X7_firstFault_2 o x1 s) s0 = some r → (∀ (x2 : Int), r = (.inl x2) → Go X 39 (wC g ad o) [(2, iv x2)] []) → (∀ (x2 : Int), r = (.inr (.inl x2)) → Go X 56 (wC g ad o) [(2, iv x2)] []) → (r = (.inr (.inr ())) → Go X 66 (wC g ad o) [] []) → Go X 2 (wC g ad o) [(0, .ref (ad 4)), (1, iv x1), (2, iv s0)] [] := by
    intro x1 r s0 h k1 k2 k3
    refine loop_rule (Head := fun s0 => Go X 2 (wC g ad o) [(0, .ref (ad 4)), (1, iv x1), (2, iv s0)] []) h ?_
    intro s v h kk kx
    obtain ⟨x2, hs⟩ : ∃ q, q = s := ⟨_, rfl⟩
    subst hs
    have h : l_X7_firstFault_2 o x1 x2 = some v := h
    have k0 : ∀ (x2 : Int), v = .inl x2 → Go X 2 (wC g ad o) [(0, .ref (ad 4)), (1, iv x1), (2, iv x2)] [] := fun x2 e => kk x2 e
    have k1 : ∀ (x2 : Int), v = .inr (.inl x2) → Go X 39 (wC g ad o) [(2, iv x2)] [] := fun x2 e => k1 x2 (kx _ e).symm
    have k2 : ∀ (x2 : Int), v = .inr (.inr (.inl x2)) → Go X 56 (wC g ad o) [(2, iv x2)] [] := fun x2 e => k2 x2 (kx _ e).symm
    have k3 : v = .inr (.inr (.inr ())) → Go X 66 (wC g ad o) [] [] := fun e => k3 (kx _ e).symm
    unfold l_X7_firstFault_2 at h
    refine g_iload_n E gdX7_firstFault_2 rfl 2 rfl ?_
    refine g_aload_n E gdX7_firstFault_3 rfl 0 rfl ?_
    refine g_iload_n E gdX7_firstFault_4 rfl 1 rfl ?_
    obtain ⟨r1, hc2, h⟩ := qB_of h
    refine g_Vi (r := r1) (As := [iv x1]) (rest := [iv x2]) (w := wC g ad o) E (c_X8_sizeOf__4 l g ad o x1 r1 hc2) okm_X8_sizeOf okw_X8_sizeOf w_593 rfl (wC_4 g ad o) rfl rfl (Nat.le_of_ble_eq_true rfl) ⟨Nat.le_of_ble_eq_true rfl, Nat.le_of_ble_eq_true rfl⟩ gdX7_firstFault_5 ?_
    refine g_icmp_ge E 66 gdX7_firstFault_8 (by decide) h (fun h => ?_) (fun h => ?_)
    ·
      refine g_sub E [] rfl ?_
      exact k3  (Option.some.inj h).symm
    ·
      refine g_aload_n E gdX7_firstFault_11 rfl 0 rfl ?_
      refine g_iload_n E gdX7_firstFault_12 rfl 1 rfl ?_
      refine g_iload_n E gdX7_firstFault_13 rfl 2 rfl ?_
      obtain ⟨r3, hc4, h⟩ := qB_of h
      refine g_Vi (r := r3) (As := [iv x1, iv x2]) (rest := []) (w := wC g ad o) E (c_X8_at__4 l g ad o x1 x2 r3 hc4) okm_X8_at okw_X8_at w_597 rfl (wC_4 g ad o) rfl rfl (Nat.le_of_ble_eq_true rfl) ⟨Nat.le_of_ble_eq_true rfl, Nat.le_of_ble_eq_true rfl⟩ gdX7_firstFault_14 ?_
      refine g_istore_n E [(3, iv r3), (0, .ref (ad 4)), (1, iv x1), (2, iv x2)] gdX7_firstFault_17 rfl (by decide) rfl ?_
      refine g_iinc E [(2, iv (x2 + 1)), (3, iv r3), (0, .ref (ad 4)), (1, iv x1)] gdX7_firstFault_18 3 rfl (by decide) rfl ?_
      refine g_iload_n E gdX7_firstFault_21 rfl 1 rfl ?_
      refine g_bipush E gdX7_firstFault_22 (by decide) ?_
      refine g_icmp_ne E 30 gdX7_firstFault_24 (by decide) h (fun h => ?_) (fun h => ?_)
      ·
        refine g_iload_n E gdX7_firstFault_30 rfl 1 rfl ?_
        obtain ⟨r5, hc6, h⟩ := qB_of h
        refine g_Si (r := r5) (As := [iv r3]) (rest := []) (w := wC g ad o) E (c_X7_letterOf l g (wC g ad o) r3 r5 hc6) okm_X7_letterOf w_602 w_601 rfl rfl (Nat.le_of_ble_eq_true rfl) ⟨Nat.le_of_ble_eq_true rfl, Nat.le_of_ble_eq_true rfl⟩ gdX7_firstFault_31 ?_
        refine g_bipush E gdX7_firstFault_34 (by decide) ?_
        refine g_icmp_ne E 43 gdX7_firstFault_36 (by decide) h (fun h => ?_) (fun h => ?_)
        ·
          refine g_aload_n E gdX7_firstFault_43 rfl 2 rfl ?_
          refine g_iload_n E gdX7_firstFault_44 rfl 3 rfl ?_
          refine g_iload_n E gdX7_firstFault_45 rfl 0 rfl ?_
          obtain ⟨r7, hc8, h⟩ := qB_of h
          refine g_Si (r := r7) (As := [.ref (ad 4), iv x1, iv (x2 + 1)]) (rest := []) (w := wC g ad o) E (c_X7_digitsAt l g ad o x1 (x2 + 1) r7 hc8) okm_X7_digitsAt w_607 w_606 rfl rfl (Nat.le_of_ble_eq_true rfl) ⟨Nat.le_of_ble_eq_true rfl, Nat.le_of_ble_eq_true rfl⟩ gdX7_firstFault_46 ?_
          refine g_istore E [(4, iv r7), (2, iv (x2 + 1)), (3, iv r3), (0, .ref (ad 4)), (1, iv x1)] gdX7_firstFault_49 (by decide) rfl ?_
          refine g_iload E gdX7_firstFault_51 0 rfl ?_
          refine g_if_ne E 58 gdX7_firstFault_53 (by decide) h (fun h => ?_) (fun h => ?_)
          ·
            refine g_iload_n E gdX7_firstFault_58 rfl 1 rfl ?_
            refine g_iload E gdX7_firstFault_59 0 rfl ?_
            refine g_iadd E gdX7_firstFault_61 ?_
            obtain ⟨n9, e_n9, h⟩ := qNm_of h
            refine g_nmi e_n9 ?_
            refine g_istore_n E [(2, iv n9), (4, iv r7), (3, iv r3), (0, .ref (ad 4)), (1, iv x1)] gdX7_firstFault_62 rfl (by decide) rfl ?_
            refine g_goto E 2 gdX7_firstFault_63 (by decide) ?_
            refine g_sub E [3, 4, 0] rfl ?_
            exact k0 n9 (Option.some.inj h).symm
          ·
            refine g_sub E [1] rfl ?_
            exact k2 (x2 + 1) (Option.some.inj h).symm
        ·
          refine g_sub E [0] rfl ?_
          exact k1 (x2 + 1) (Option.some.inj h).symm
      ·
        refine g_goto E 2 gdX7_firstFault_27 (by decide) ?_
        refine g_sub E [2, 3, 0] rfl ?_
        exact k0 (x2 + 1) (Option.some.inj h).symm
  have j2 : ∀ (x1 : Int) (x2 : Int), e_X7_firstFault_2 o x1 x2 = some v → Go X 2 (wC g ad o) [(0, .ref (ad 4)), (1, iv x1), (2, iv x2)] [] := by
    intro x1 x2 h
    unfold e_X7_firstFault_2 at h
    obtain ⟨r, hr, h⟩ := qB_of h
    refine l2 x1 r _ hr ?_ ?_ ?_
    ·
      intro u0 e
      subst e
      have h : b_X7_firstFault_39 o u0 = some v := h
      exact j39 u0 h
    ·
      intro u0 e
      subst e
      have h : b_X7_firstFault_56 o u0 = some v := h
      exact j56 u0 h
    ·
      intro e
      subst e
      have h : b_X7_firstFault_66 o = some v := h
      exact j66  h
  unfold s_X7_firstFault at h
  refine g_iconst E gdX7_firstFault_0 ?_
  refine g_istore_n E [(2, iv 0), (0, .ref (ad 4)), (1, iv x1)] gdX7_firstFault_1 rfl (by decide) rfl ?_
  refine g_sub E [1, 2, 0] rfl ?_
  exact j2 x1 0 h
noncomputable def s_X11_fault (o : OO) (x1 : Int) : Option (Int × OO) := qB (s_X8_exists__4 o x1) (fun r1 => qEq r1 0 (some ((-1), o)) (qB (s_X8_isThere__4 o x1) (fun r3 => qEq r3 0 (qB2 (s_X11_found o 1) (fun r7 o9 => some (r7, o9))) (qB (s_X7_firstFault o x1) (fun r5 => some (r5, o))))))
set_option maxHeartbeats 4000000 in
set_option maxRecDepth 100000 in
theorem c_X11_fault (l : Launch) (g : GG) (ad : Nat → Nat) (o : OO) (x1 : Int) (v : Int × OO) (h : s_X11_fault o x1 = some v) : CI l g yX11_fault cX11_fault 2 (some .int) 3 69 (wC g ad o) [.ref (ad 0), iv x1] v.1 (wC g ad v.2) := by
  refine met_I (by decide) (Nat.le_of_ble_eq_true rfl) ?_
  intro X E hQ
  show Go X 0 (wC g ad o) [(0, .ref (ad 0)), (1, iv x1)] []
  unfold s_X11_fault at h
  refine g_aload_n E gdX11_fault_0 rfl 0 rfl ?_
  refine g_get (T := TX11) E fw_X11 0 (wC_0 g ad o) rfl 1 (by decide) w_459 rfl rfl gdX11_fault_1 ?_
  refine g_iload_n E gdX11_fault_4 rfl 1 rfl ?_
  obtain ⟨r1, hc2, h⟩ := qB_of h
  refine g_Vi (r := r1) (As := [iv x1]) (rest := []) (w := wC g ad o) E (c_X8_exists__4 l g ad o x1 r1 hc2) okm_X8_exists okw_X8_exists w_517 rfl (wC_4 g ad o) rfl rfl (Nat.le_of_ble_eq_true rfl) ⟨Nat.le_of_ble_eq_true rfl, Nat.le_of_ble_eq_true rfl⟩ gdX11_fault_5 ?_
  refine g_if_ne E 13 gdX11_fault_8 (by decide) h (fun h => ?_) (fun h => ?_)
  ·
    refine g_aload_n E gdX11_fault_13 rfl 0 rfl ?_
    refine g_get (T := TX11) E fw_X11 0 (wC_0 g ad o) rfl 1 (by decide) w_459 rfl rfl gdX11_fault_14 ?_
    refine g_iload_n E gdX11_fault_17 rfl 1 rfl ?_
    obtain ⟨r3, hc4, h⟩ := qB_of h
    refine g_Vi (r := r3) (As := [iv x1]) (rest := []) (w := wC g ad o) E (c_X8_isThere__4 l g ad o x1 r3 hc4) okm_X8_isThere okw_X8_isThere w_539 rfl (wC_4 g ad o) rfl rfl (Nat.le_of_ble_eq_true rfl) ⟨Nat.le_of_ble_eq_true rfl, Nat.le_of_ble_eq_true rfl⟩ gdX11_fault_18 ?_
    refine g_if_ne E 30 gdX11_fault_21 (by decide) h (fun h => ?_) (fun h => ?_)
    ·
      refine g_aload_n E gdX11_fault_30 rfl 0 rfl ?_
      refine g_get (T := TX11) E fw_X11 0 (wC_0 g ad o) rfl 1 (by decide) w_459 rfl rfl gdX11_fault_31 ?_
      refine g_iload_n E gdX11_fault_34 rfl 1 rfl ?_
      obtain ⟨r5, hc6, h⟩ := qB_of h
      refine g_Si (r := r5) (As := [.ref (ad 4), iv x1]) (rest := []) (w := wC g ad o) E (c_X7_firstFault l g ad o x1 r5 hc6) okm_X7_firstFault w_591 w_590 rfl rfl (Nat.le_of_ble_eq_true rfl) ⟨Nat.le_of_ble_eq_true rfl, Nat.le_of_ble_eq_true rfl⟩ gdX11_fault_35 ?_
      exact g_iret E hQ (by rw [← Option.some.inj h]) (by rw [← Option.some.inj h]) gdX11_fault_38
    ·
      refine g_aload_n E gdX11_fault_24 rfl 0 rfl ?_
      refine g_iconst E gdX11_fault_25 ?_
      obtain ⟨r7, o9, hc8, h⟩ := qB2_of h
      refine g_Vi (r := r7) (As := [iv 1]) (rest := []) (w := wC g ad o9) E (c_X11_found l g ad o 1 (r7, o9) hc8) okm_X11_found okw_X11_found w_521 rfl (wC_0 g ad o) rfl rfl (Nat.le_of_ble_eq_true rfl) ⟨Nat.le_of_ble_eq_true rfl, Nat.le_of_ble_eq_true rfl⟩ gdX11_fault_26 ?_
      exact g_iret E hQ (by rw [← Option.some.inj h]) (by rw [← Option.some.inj h]) gdX11_fault_29
  ·
    refine g_iconst E gdX11_fault_11 ?_
    exact g_iret E hQ (by rw [← Option.some.inj h]) (by rw [← Option.some.inj h]) gdX11_fault_12
noncomputable def s_X11_finding (o : OO) : Option (Int) := some (o.1 0 17)
set_option maxHeartbeats 4000000 in
set_option maxRecDepth 100000 in
theorem c_X11_finding (l : Launch) (g : GG) (ad : Nat → Nat) (o : OO) (v : Int) (h : s_X11_finding o = some v) : CI l g yX11_finding cX11_finding 1 (some .int) 0 0 (wC g ad o) [.ref (ad 0)] v (wC g ad o) := by
  refine met_I (by decide) (Nat.le_of_ble_eq_true rfl) ?_
  intro X E hQ
  show Go X 0 (wC g ad o) [(0, .ref (ad 0))] []
  unfold s_X11_finding at h
  refine g_aload_n E gdX11_finding_0 rfl 0 rfl ?_
  refine g_get (T := TX11) E fw_X11 0 (wC_0 g ad o) rfl 17 (by decide) w_475 rfl rfl gdX11_finding_1 ?_
  exact g_iret E hQ (Option.some.inj h) rfl gdX11_finding_4
noncomputable def b_X11_findings_10 (o : OO) : Option (Int) := some (-1)
noncomputable def s_X11_findings (o : OO) (x1 : Int) : Option (Int) := qLt x1 1 (b_X11_findings_10 o) (qLt 5 x1 (b_X11_findings_10 o) (qIn x1 6 (qNm (o.1 77 x1.toNat) (fun n2 => some n2))))
set_option maxHeartbeats 4000000 in
set_option maxRecDepth 100000 in
theorem c_X11_findings (l : Launch) (g : GG) (ad : Nat → Nat) (o : OO) (x1 : Int) (v : Int) (h : s_X11_findings o x1 = some v) : CI l g yX11_findings cX11_findings 2 (some .int) 0 0 (wC g ad o) [.ref (ad 0), iv x1] v (wC g ad o) := by
  refine met_I (by decide) (Nat.le_of_ble_eq_true rfl) ?_
  intro X E hQ
  show Go X 0 (wC g ad o) [(0, .ref (ad 0)), (1, iv x1)] []
  have j10 : b_X11_findings_10 o = some v → Go X 10 (wC g ad o) [] [] := by
    intro h
    unfold b_X11_findings_10 at h
    refine g_iconst E gdX11_findings_10 ?_
    exact g_iret E hQ (Option.some.inj h) rfl gdX11_findings_11
  unfold s_X11_findings at h
  refine g_iload_n E gdX11_findings_0 rfl 1 rfl ?_
  refine g_iconst E gdX11_findings_1 ?_
  refine g_icmp_lt E 10 gdX11_findings_2 (by decide) h (fun h => ?_) (fun h => ?_)
  ·
    refine g_sub E [] rfl ?_
    exact j10  h
  ·
    refine g_iload_n E gdX11_findings_5 rfl 1 rfl ?_
    refine g_iconst E gdX11_findings_6 ?_
    refine g_icmp_le E 12 gdX11_findings_7 (by decide) h (fun h => ?_) (fun h => ?_)
    ·
      refine g_aload_n E gdX11_findings_12 rfl 0 rfl ?_
      refine g_get (T := TX11) E fw_X11 0 (wC_0 g ad o) rfl 12 (by decide) w_470 rfl rfl gdX11_findings_13 ?_
      refine g_iload_n E gdX11_findings_16 rfl 1 rfl ?_
      obtain ⟨hi1, h⟩ := qIn_of h
      refine g_iald E 77 (wC_77 g ad o) (by decide) hi1 gdX11_findings_17 ?_
      obtain ⟨n2, e_n2, h⟩ := qNm_of h
      refine g_nmi e_n2 ?_
      exact g_iret E hQ (Option.some.inj h) rfl gdX11_findings_18
    ·
      refine g_sub E [] rfl ?_
      exact j10  h
noncomputable def b_X7_isLetter_15 (y0 : Int) : Option (Int) := qZ y0 (some y0)
noncomputable def b_X7_isLetter_14  : Option (Int) := b_X7_isLetter_15 0
noncomputable def s_X7_isLetter (x0 : Int) : Option (Int) := qLt x0 0 (b_X7_isLetter_14 ) (qLt x0 8 (b_X7_isLetter_15 1) (b_X7_isLetter_14 ))
set_option maxHeartbeats 4000000 in
set_option maxRecDepth 100000 in
theorem c_X7_isLetter (l : Launch) (g : GG) (ws : va_W) (x0 : Int) (v : Int) (h : s_X7_isLetter x0 = some v) : CI l g yX7_isLetter cX7_isLetter 1 (some .boolean) 0 0 ws [iv x0] v ws := by
  refine met_I (by decide) (Nat.le_of_ble_eq_true rfl) ?_
  intro X E hQ
  show Go X 0 ws [(0, iv x0)] []
  have j15 : ∀ (y0 : Int), b_X7_isLetter_15 y0 = some v → Go X 15 ws [] [iv y0] := by
    intro y0 h
    unfold b_X7_isLetter_15 at h
    obtain ⟨hz, h⟩ := qZ_of h
    exact g_zret E hQ hz (Option.some.inj h) rfl gdX7_isLetter_15
  have j14 : b_X7_isLetter_14  = some v → Go X 14 ws [] [] := by
    intro h
    unfold b_X7_isLetter_14 at h
    refine g_iconst E gdX7_isLetter_14 ?_
    exact j15 0 h
  unfold s_X7_isLetter at h
  refine g_iload_n E gdX7_isLetter_0 rfl 0 rfl ?_
  refine g_if_lt E 14 gdX7_isLetter_1 (by decide) h (fun h => ?_) (fun h => ?_)
  ·
    refine g_sub E [] rfl ?_
    exact j14  h
  ·
    refine g_iload_n E gdX7_isLetter_4 rfl 0 rfl ?_
    refine g_bipush E gdX7_isLetter_5 (by decide) ?_
    refine g_icmp_ge E 14 gdX7_isLetter_7 (by decide) h (fun h => ?_) (fun h => ?_)
    ·
      refine g_sub E [] rfl ?_
      exact j14  h
    ·
      refine g_iconst E gdX7_isLetter_10 ?_
      refine g_goto E 15 gdX7_isLetter_11 (by decide) ?_
      refine g_sub E [] rfl ?_
      exact j15 1 h
noncomputable def b_X11_isDay_16 (y0 : Int) : Option (Int) := qZ y0 (some y0)
noncomputable def b_X11_isDay_15  : Option (Int) := b_X11_isDay_16 0
noncomputable def s_X11_isDay (x0 : Int) : Option (Int) := qLt x0 0 (b_X11_isDay_15 ) (qLt 999 x0 (b_X11_isDay_15 ) (b_X11_isDay_16 1))
set_option maxHeartbeats 4000000 in
set_option maxRecDepth 100000 in
theorem c_X11_isDay (l : Launch) (g : GG) (ws : va_W) (x0 : Int) (v : Int) (h : s_X11_isDay x0 = some v) : CI l g yX11_isDay cX11_isDay 1 (some .boolean) 0 0 ws [iv x0] v ws := by
  refine met_I (by decide) (Nat.le_of_ble_eq_true rfl) ?_
  intro X E hQ
  show Go X 0 ws [(0, iv x0)] []
  have j16 : ∀ (y0 : Int), b_X11_isDay_16 y0 = some v → Go X 16 ws [] [iv y0] := by
    intro y0 h
    unfold b_X11_isDay_16 at h
    obtain ⟨hz, h⟩ := qZ_of h
    exact g_zret E hQ hz (Option.some.inj h) rfl gdX11_isDay_16
  have j15 : b_X11_isDay_15  = some v → Go X 15 ws [] [] := by
    intro h
    unfold b_X11_isDay_15 at h
    refine g_iconst E gdX11_isDay_15 ?_
    exact j16 0 h
  unfold s_X11_isDay at h
  refine g_iload_n E gdX11_isDay_0 rfl 0 rfl ?_
  refine g_if_lt E 15 gdX11_isDay_1 (by decide) h (fun h => ?_) (fun h => ?_)
  ·
    refine g_sub E [] rfl ?_
    exact j15  h
  ·
    refine g_iload_n E gdX11_isDay_4 rfl 0 rfl ?_
    refine g_sipush E gdX11_isDay_5 (by decide) ?_
    refine g_icmp_gt E 15 gdX11_isDay_8 (by decide) h (fun h => ?_) (fun h => ?_)
    ·
      refine g_sub E [] rfl ?_
      exact j15  h
    ·
      refine g_iconst E gdX11_isDay_11 ?_
      refine g_goto E 16 gdX11_isDay_12 (by decide) ?_
      refine g_sub E [] rfl ?_
      exact j16 1 h
noncomputable def b_X11_force_21 (o : OO) : Option (Int) := some (-1)
noncomputable def s_X11_force (o : OO) (x1 : Int) (x2 : Int) (x3 : Int) : Option (Int) := qB (s_X7_isLetter x1) (fun r1 => qEq r1 0 (b_X11_force_21 o) (qB (s_X11_isDay x2) (fun r3 => qEq r3 0 (b_X11_force_21 o) (qB (s_X11_isDay x3) (fun r5 => qEq r5 0 (b_X11_force_21 o) (qB (s_X7_valueFor o x1 x2 x3) (fun r7 => some r7)))))))
set_option maxHeartbeats 4000000 in
set_option maxRecDepth 100000 in
theorem c_X11_force (l : Launch) (g : GG) (ad : Nat → Nat) (o : OO) (x1 : Int) (x2 : Int) (x3 : Int) (v : Int) (h : s_X11_force o x1 x2 x3 = some v) : CI l g yX11_force cX11_force 4 (some .int) 2 49 (wC g ad o) [.ref (ad 0), iv x1, iv x2, iv x3] v (wC g ad o) := by
  refine met_I (by decide) (Nat.le_of_ble_eq_true rfl) ?_
  intro X E hQ
  show Go X 0 (wC g ad o) [(0, .ref (ad 0)), (1, iv x1), (2, iv x2), (3, iv x3)] []
  have j21 : b_X11_force_21 o = some v → Go X 21 (wC g ad o) [] [] := by
    intro h
    unfold b_X11_force_21 at h
    refine g_iconst E gdX11_force_21 ?_
    exact g_iret E hQ (Option.some.inj h) rfl gdX11_force_22
  unfold s_X11_force at h
  refine g_iload_n E gdX11_force_0 rfl 1 rfl ?_
  obtain ⟨r1, hc2, h⟩ := qB_of h
  refine g_Si (r := r1) (As := [iv x1]) (rest := []) (w := wC g ad o) E (c_X7_isLetter l g (wC g ad o) x1 r1 hc2) okm_X7_isLetter w_769 w_768 rfl rfl (Nat.le_of_ble_eq_true rfl) ⟨Nat.le_of_ble_eq_true rfl, Nat.le_of_ble_eq_true rfl⟩ gdX11_force_1 ?_
  refine g_if_eq E 21 gdX11_force_4 (by decide) h (fun h => ?_) (fun h => ?_)
  ·
    refine g_sub E [] rfl ?_
    exact j21  h
  ·
    refine g_iload_n E gdX11_force_7 rfl 2 rfl ?_
    obtain ⟨r3, hc4, h⟩ := qB_of h
    refine g_Si (r := r3) (As := [iv x2]) (rest := []) (w := wC g ad o) E (c_X11_isDay l g (wC g ad o) x2 r3 hc4) okm_X11_isDay w_685 w_684 rfl rfl (Nat.le_of_ble_eq_true rfl) ⟨Nat.le_of_ble_eq_true rfl, Nat.le_of_ble_eq_true rfl⟩ gdX11_force_8 ?_
    refine g_if_eq E 21 gdX11_force_11 (by decide) h (fun h => ?_) (fun h => ?_)
    ·
      refine g_sub E [] rfl ?_
      exact j21  h
    ·
      refine g_iload_n E gdX11_force_14 rfl 3 rfl ?_
      obtain ⟨r5, hc6, h⟩ := qB_of h
      refine g_Si (r := r5) (As := [iv x3]) (rest := []) (w := wC g ad o) E (c_X11_isDay l g (wC g ad o) x3 r5 hc6) okm_X11_isDay w_685 w_684 rfl rfl (Nat.le_of_ble_eq_true rfl) ⟨Nat.le_of_ble_eq_true rfl, Nat.le_of_ble_eq_true rfl⟩ gdX11_force_15 ?_
      refine g_if_ne E 23 gdX11_force_18 (by decide) h (fun h => ?_) (fun h => ?_)
      ·
        refine g_aload_n E gdX11_force_23 rfl 0 rfl ?_
        refine g_get (T := TX11) E fw_X11 0 (wC_0 g ad o) rfl 5 (by decide) w_463 rfl rfl gdX11_force_24 ?_
        refine g_iload_n E gdX11_force_27 rfl 1 rfl ?_
        refine g_iload_n E gdX11_force_28 rfl 2 rfl ?_
        refine g_iload_n E gdX11_force_29 rfl 3 rfl ?_
        obtain ⟨r7, hc8, h⟩ := qB_of h
        refine g_Vi (r := r7) (As := [iv x1, iv x2, iv x3]) (rest := []) (w := wC g ad o) E (c_X7_valueFor l g ad o x1 x2 x3 r7 hc8) okm_X7_valueFor okw_X7_valueFor w_771 rfl (wC_28 g ad o) rfl rfl (Nat.le_of_ble_eq_true rfl) ⟨Nat.le_of_ble_eq_true rfl, Nat.le_of_ble_eq_true rfl⟩ gdX11_force_30 ?_
        exact g_iret E hQ (Option.some.inj h) rfl gdX11_force_33
      ·
        refine g_sub E [] rfl ?_
        exact j21  h
noncomputable def s_X4_add (o : OO) (x1 : Int) (x2 : Int) (x3 : Int) : Option (Int × OO) := qNm (st1 o 32 13 ((o.1 32 13) + 1)) (fun o1 => qIn (o.1 32 13) 24 (qNm (st1 o1 33 ((o.1 32 13).toNat) x1) (fun o3 => qIn (o.1 32 13) 24 (qNm (st1 o3 34 ((o.1 32 13).toNat) x2) (fun o5 => qIn (o.1 32 13) 24 (qNm (st1 o5 35 ((o.1 32 13).toNat) x3) (fun o7 => qIn (o.1 32 13) 24 (qNm (st1 o7 40 ((o.1 32 13).toNat) (-9)) (fun o9 => some (o.1 32 13, o9))))))))))
set_option maxHeartbeats 4000000 in
set_option maxRecDepth 100000 in
theorem c_X4_add (l : Launch) (g : GG) (ad : Nat → Nat) (o : OO) (x1 : Int) (x2 : Int) (x3 : Int) (v : Int × OO) (h : s_X4_add o x1 x2 x3 = some v) : CI l g yX4_add cX4_add 5 (some .int) 0 0 (wC g ad o) [.ref (ad 32), iv x1, iv x2, iv x3] v.1 (wC g ad v.2) := by
  refine met_I (by decide) (Nat.le_of_ble_eq_true rfl) ?_
  intro X E hQ
  show Go X 0 (wC g ad o) [(0, .ref (ad 32)), (1, iv x1), (2, iv x2), (3, iv x3)] []
  unfold s_X4_add at h
  refine g_aload_n E gdX4_add_0 rfl 0 rfl ?_
  refine g_get (T := TX4) E fw_X4 32 (wC_32 g ad o) rfl 13 (by decide) w_264 rfl rfl gdX4_add_1 ?_
  refine g_istore E [(4, iv (o.1 32 13)), (0, .ref (ad 32)), (1, iv x1), (2, iv x2), (3, iv x3)] gdX4_add_4 (by decide) rfl ?_
  refine g_aload_n E gdX4_add_6 rfl 1 rfl ?_
  refine g_dup E gdX4_add_7 rfl ?_
  refine g_get (T := TX4) E fw_X4 32 (wC_32 g ad o) rfl 13 (by decide) w_264 rfl rfl gdX4_add_8 ?_
  refine g_iconst E gdX4_add_11 ?_
  refine g_iadd E gdX4_add_12 ?_
  obtain ⟨o1, e_o1, h⟩ := qNm_of h
  refine g_puti (T := TX4) (ws' := wC g ad o1) E fw_X4 tyX4 tyX4_ok nmX4 32 (wC_32 g ad o) rfl 13 (by decide) w_264 rfl rfl (by decide +kernel) (Nat.le_of_ble_eq_true rfl) (by rw [e_o1]; exact wC_p32_13 g ad o _) gdX4_add_13 ?_
  refine g_aload_n E gdX4_add_16 rfl 1 rfl ?_
  refine g_get (T := TX4) E fw_X4 32 (wC_32 g ad o1) rfl 0 (by decide) w_251 rfl rfl gdX4_add_17 ?_
  refine g_iload E gdX4_add_20 0 rfl ?_
  refine g_iload_n E gdX4_add_22 rfl 2 rfl ?_
  obtain ⟨hi2, h⟩ := qIn_of h
  obtain ⟨o3, e_o3, h⟩ := qNm_of h
  refine g_iast (ws' := wC g ad o3) E 33 (wC_33 g ad o1) (by decide) hi2 (by rw [e_o3]; exact wC_s33 g ad o1 _ _) gdX4_add_23 ?_
  refine g_aload_n E gdX4_add_24 rfl 1 rfl ?_
  refine g_get (T := TX4) E fw_X4 32 (wC_32 g ad o3) rfl 1 (by decide) w_252 rfl rfl gdX4_add_25 ?_
  refine g_iload E gdX4_add_28 0 rfl ?_
  refine g_iload_n E gdX4_add_30 rfl 3 rfl ?_
  obtain ⟨hi4, h⟩ := qIn_of h
  obtain ⟨o5, e_o5, h⟩ := qNm_of h
  refine g_iast (ws' := wC g ad o5) E 34 (wC_34 g ad o3) (by decide) hi4 (by rw [e_o5]; exact wC_s34 g ad o3 _ _) gdX4_add_31 ?_
  refine g_aload_n E gdX4_add_32 rfl 1 rfl ?_
  refine g_get (T := TX4) E fw_X4 32 (wC_32 g ad o5) rfl 2 (by decide) w_253 rfl rfl gdX4_add_33 ?_
  refine g_iload E gdX4_add_36 0 rfl ?_
  refine g_iload_n E gdX4_add_38 rfl 4 rfl ?_
  obtain ⟨hi6, h⟩ := qIn_of h
  obtain ⟨o7, e_o7, h⟩ := qNm_of h
  refine g_iast (ws' := wC g ad o7) E 35 (wC_35 g ad o5) (by decide) hi6 (by rw [e_o7]; exact wC_s35 g ad o5 _ _) gdX4_add_39 ?_
  refine g_aload_n E gdX4_add_40 rfl 1 rfl ?_
  refine g_get (T := TX4) E fw_X4 32 (wC_32 g ad o7) rfl 7 (by decide) w_258 rfl rfl gdX4_add_41 ?_
  refine g_iload E gdX4_add_44 0 rfl ?_
  refine g_bipush E gdX4_add_46 (by decide) ?_
  obtain ⟨hi8, h⟩ := qIn_of h
  obtain ⟨o9, e_o9, h⟩ := qNm_of h
  refine g_iast (ws' := wC g ad o9) E 40 (wC_40 g ad o7) (by decide) hi8 (by rw [e_o9]; exact wC_s40 g ad o7 _ _) gdX4_add_48 ?_
  refine g_iload E gdX4_add_49 0 rfl ?_
  exact g_iret E hQ (by rw [← Option.some.inj h]) (by rw [← Option.some.inj h]) gdX4_add_51
noncomputable def s_X4_setGrant (o : OO) (x1 : Int) (x2 : Int) (x3 : Int) : Option (OO) := qIn x1 24 (qNm (st1 o 41 x1.toNat x2) (fun o2 => qIn x1 24 (qNm (st1 o2 43 x1.toNat x3) (fun o4 => some o4))))
set_option maxHeartbeats 4000000 in
set_option maxRecDepth 100000 in
theorem c_X4_setGrant (l : Launch) (g : GG) (ad : Nat → Nat) (o : OO) (x1 : Int) (x2 : Int) (x3 : Int) (v : OO) (h : s_X4_setGrant o x1 x2 x3 = some v) : CV l g yX4_setGrant cX4_setGrant 4 0 0 (wC g ad o) [.ref (ad 32), iv x1, iv x2, iv x3] (wC g ad v) := by
  refine met_V (by decide) (Nat.le_of_ble_eq_true rfl) ?_
  intro X E hQ
  show Go X 0 (wC g ad o) [(0, .ref (ad 32)), (1, iv x1), (2, iv x2), (3, iv x3)] []
  unfold s_X4_setGrant at h
  refine g_aload_n E gdX4_setGrant_0 rfl 0 rfl ?_
  refine g_get (T := TX4) E fw_X4 32 (wC_32 g ad o) rfl 8 (by decide) w_259 rfl rfl gdX4_setGrant_1 ?_
  refine g_iload_n E gdX4_setGrant_4 rfl 1 rfl ?_
  refine g_iload_n E gdX4_setGrant_5 rfl 2 rfl ?_
  obtain ⟨hi1, h⟩ := qIn_of h
  obtain ⟨o2, e_o2, h⟩ := qNm_of h
  refine g_iast (ws' := wC g ad o2) E 41 (wC_41 g ad o) (by decide) hi1 (by rw [e_o2]; exact wC_s41 g ad o _ _) gdX4_setGrant_6 ?_
  refine g_aload_n E gdX4_setGrant_7 rfl 0 rfl ?_
  refine g_get (T := TX4) E fw_X4 32 (wC_32 g ad o2) rfl 10 (by decide) w_261 rfl rfl gdX4_setGrant_8 ?_
  refine g_iload_n E gdX4_setGrant_11 rfl 1 rfl ?_
  refine g_iload_n E gdX4_setGrant_12 rfl 3 rfl ?_
  obtain ⟨hi3, h⟩ := qIn_of h
  obtain ⟨o4, e_o4, h⟩ := qNm_of h
  refine g_iast (ws' := wC g ad o4) E 43 (wC_43 g ad o2) (by decide) hi3 (by rw [e_o4]; exact wC_s43 g ad o2 _ _) gdX4_setGrant_13 ?_
  exact g_vret E hQ (by rw [← Option.some.inj h]) gdX4_setGrant_14
noncomputable def b_X11_grant_18 (o : OO) : Option (Int × OO) := some ((-1), o)
noncomputable def s_X11_grant (o : OO) (x1 : Int) (x2 : Int) : Option (Int × OO) := qLt x1 1 (b_X11_grant_18 o) (qLt 10 x1 (b_X11_grant_18 o) (qB (s_X11_isDay x2) (fun r1 => qEq r1 0 (b_X11_grant_18 o) (qB (s_X4_number o) (fun r3 => qLt r3 24 (qB2 (s_X4_add o 5 (o.1 0 13) (-9)) (fun r5 o7 => qB (s_X4_setGrant o7 r5 x1 x2) (fun o10 => some (r5, o10)))) (some ((-2), o)))))))
set_option maxHeartbeats 4000000 in
set_option maxRecDepth 100000 in
theorem c_X11_grant (l : Launch) (g : GG) (ad : Nat → Nat) (o : OO) (x1 : Int) (x2 : Int) (v : Int × OO) (h : s_X11_grant o x1 x2 = some v) : CI l g yX11_grant cX11_grant 4 (some .int) 1 24 (wC g ad o) [.ref (ad 0), iv x1, iv x2] v.1 (wC g ad v.2) := by
  refine met_I (by decide) (Nat.le_of_ble_eq_true rfl) ?_
  intro X E hQ
  show Go X 0 (wC g ad o) [(0, .ref (ad 0)), (1, iv x1), (2, iv x2)] []
  have j18 : ∀ (o : OO), b_X11_grant_18 o = some v → Go X 18 (wC g ad o) [] [] := by
    intro o h
    unfold b_X11_grant_18 at h
    refine g_iconst E gdX11_grant_18 ?_
    exact g_iret E hQ (by rw [← Option.some.inj h]) (by rw [← Option.some.inj h]) gdX11_grant_19
  unfold s_X11_grant at h
  refine g_iload_n E gdX11_grant_0 rfl 1 rfl ?_
  refine g_iconst E gdX11_grant_1 ?_
  refine g_icmp_lt E 18 gdX11_grant_2 (by decide) h (fun h => ?_) (fun h => ?_)
  ·
    refine g_sub E [] rfl ?_
    exact j18 o h
  ·
    refine g_iload_n E gdX11_grant_5 rfl 1 rfl ?_
    refine g_bipush E gdX11_grant_6 (by decide) ?_
    refine g_icmp_gt E 18 gdX11_grant_8 (by decide) h (fun h => ?_) (fun h => ?_)
    ·
      refine g_sub E [] rfl ?_
      exact j18 o h
    ·
      refine g_iload_n E gdX11_grant_11 rfl 2 rfl ?_
      obtain ⟨r1, hc2, h⟩ := qB_of h
      refine g_Si (r := r1) (As := [iv x2]) (rest := []) (w := wC g ad o) E (c_X11_isDay l g (wC g ad o) x2 r1 hc2) okm_X11_isDay w_685 w_684 rfl rfl (Nat.le_of_ble_eq_true rfl) ⟨Nat.le_of_ble_eq_true rfl, Nat.le_of_ble_eq_true rfl⟩ gdX11_grant_12 ?_
      refine g_if_ne E 20 gdX11_grant_15 (by decide) h (fun h => ?_) (fun h => ?_)
      ·
        refine g_aload_n E gdX11_grant_20 rfl 0 rfl ?_
        refine g_get (T := TX11) E fw_X11 0 (wC_0 g ad o) rfl 6 (by decide) w_464 rfl rfl gdX11_grant_21 ?_
        obtain ⟨r3, hc4, h⟩ := qB_of h
        refine g_Vi (r := r3) (As := []) (rest := []) (w := wC g ad o) E (c_X4_number l g ad o r3 hc4) okm_X4_number okw_X4_number w_790 rfl (wC_32 g ad o) rfl rfl (Nat.le_of_ble_eq_true rfl) ⟨Nat.le_of_ble_eq_true rfl, Nat.le_of_ble_eq_true rfl⟩ gdX11_grant_24 ?_
        refine g_bipush E gdX11_grant_27 (by decide) ?_
        refine g_icmp_lt E 35 gdX11_grant_29 (by decide) h (fun h => ?_) (fun h => ?_)
        ·
          refine g_aload_n E gdX11_grant_35 rfl 0 rfl ?_
          refine g_get (T := TX11) E fw_X11 0 (wC_0 g ad o) rfl 6 (by decide) w_464 rfl rfl gdX11_grant_36 ?_
          refine g_iconst E gdX11_grant_39 ?_
          refine g_aload_n E gdX11_grant_40 rfl 0 rfl ?_
          refine g_get (T := TX11) E fw_X11 0 (wC_0 g ad o) rfl 13 (by decide) w_471 rfl rfl gdX11_grant_41 ?_
          refine g_bipush E gdX11_grant_44 (by decide) ?_
          obtain ⟨r5, o7, hc6, h⟩ := qB2_of h
          refine g_Vi (r := r5) (As := [iv 5, iv (o.1 0 13), iv (-9)]) (rest := []) (w := wC g ad o7) E (c_X4_add l g ad o 5 (o.1 0 13) (-9) (r5, o7) hc6) okm_X4_add okw_X4_add w_869 rfl (wC_32 g ad o) rfl rfl (Nat.le_of_ble_eq_true rfl) ⟨Nat.le_of_ble_eq_true rfl, Nat.le_of_ble_eq_true rfl⟩ gdX11_grant_46 ?_
          refine g_istore_n E [(3, iv r5), (0, .ref (ad 0)), (1, iv x1), (2, iv x2)] gdX11_grant_49 rfl (by decide) rfl ?_
          refine g_aload_n E gdX11_grant_50 rfl 1 rfl ?_
          refine g_get (T := TX11) E fw_X11 0 (wC_0 g ad o7) rfl 6 (by decide) w_464 rfl rfl gdX11_grant_51 ?_
          refine g_iload_n E gdX11_grant_54 rfl 0 rfl ?_
          refine g_iload_n E gdX11_grant_55 rfl 2 rfl ?_
          refine g_iload_n E gdX11_grant_56 rfl 3 rfl ?_
          obtain ⟨o10, hc9, h⟩ := qB_of h
          refine g_Vv (As := [iv r5, iv x1, iv x2]) (rest := []) (w := wC g ad o10) E (c_X4_setGrant l g ad o7 r5 x1 x2 o10 hc9) okm_X4_setGrant okw_X4_setGrant w_999 rfl (wC_32 g ad o7) rfl rfl (Nat.le_of_ble_eq_true rfl) ⟨Nat.le_of_ble_eq_true rfl, Nat.le_of_ble_eq_true rfl⟩ gdX11_grant_57 ?_
          refine g_iload_n E gdX11_grant_60 rfl 0 rfl ?_
          exact g_iret E hQ (by rw [← Option.some.inj h]) (by rw [← Option.some.inj h]) gdX11_grant_61
        ·
          refine g_bipush E gdX11_grant_32 (by decide) ?_
          exact g_iret E hQ (by rw [← Option.some.inj h]) (by rw [← Option.some.inj h]) gdX11_grant_34
      ·
        refine g_sub E [] rfl ?_
        exact j18 o h
noncomputable def s_X4_dateOf (o : OO) (x1 : Int) : Option (Int) := qIn x1 24 (qNm (o.1 43 x1.toNat) (fun n2 => some n2))
set_option maxHeartbeats 4000000 in
set_option maxRecDepth 100000 in
theorem c_X4_dateOf (l : Launch) (g : GG) (ad : Nat → Nat) (o : OO) (x1 : Int) (v : Int) (h : s_X4_dateOf o x1 = some v) : CI l g yX4_dateOf cX4_dateOf 2 (some .int) 0 0 (wC g ad o) [.ref (ad 32), iv x1] v (wC g ad o) := by
  refine met_I (by decide) (Nat.le_of_ble_eq_true rfl) ?_
  intro X E hQ
  show Go X 0 (wC g ad o) [(0, .ref (ad 32)), (1, iv x1)] []
  unfold s_X4_dateOf at h
  refine g_aload_n E gdX4_dateOf_0 rfl 0 rfl ?_
  refine g_get (T := TX4) E fw_X4 32 (wC_32 g ad o) rfl 10 (by decide) w_261 rfl rfl gdX4_dateOf_1 ?_
  refine g_iload_n E gdX4_dateOf_4 rfl 1 rfl ?_
  obtain ⟨hi1, h⟩ := qIn_of h
  refine g_iald E 43 (wC_43 g ad o) (by decide) hi1 gdX4_dateOf_5 ?_
  obtain ⟨n2, e_n2, h⟩ := qNm_of h
  refine g_nmi e_n2 ?_
  exact g_iret E hQ (Option.some.inj h) rfl gdX4_dateOf_6
noncomputable def s_X4_amountOf (o : OO) (x1 : Int) : Option (Int) := qIn x1 24 (qNm (o.1 41 x1.toNat) (fun n2 => some n2))
set_option maxHeartbeats 4000000 in
set_option maxRecDepth 100000 in
theorem c_X4_amountOf (l : Launch) (g : GG) (ad : Nat → Nat) (o : OO) (x1 : Int) (v : Int) (h : s_X4_amountOf o x1 = some v) : CI l g yX4_amountOf cX4_amountOf 2 (some .int) 0 0 (wC g ad o) [.ref (ad 32), iv x1] v (wC g ad o) := by
  refine met_I (by decide) (Nat.le_of_ble_eq_true rfl) ?_
  intro X E hQ
  show Go X 0 (wC g ad o) [(0, .ref (ad 32)), (1, iv x1)] []
  unfold s_X4_amountOf at h
  refine g_aload_n E gdX4_amountOf_0 rfl 0 rfl ?_
  refine g_get (T := TX4) E fw_X4 32 (wC_32 g ad o) rfl 8 (by decide) w_259 rfl rfl gdX4_amountOf_1 ?_
  refine g_iload_n E gdX4_amountOf_4 rfl 1 rfl ?_
  obtain ⟨hi1, h⟩ := qIn_of h
  refine g_iald E 41 (wC_41 g ad o) (by decide) hi1 gdX4_amountOf_5 ?_
  obtain ⟨n2, e_n2, h⟩ := qNm_of h
  refine g_nmi e_n2 ?_
  exact g_iret E hQ (Option.some.inj h) rfl gdX4_amountOf_6
noncomputable def b_X11_grants_22 (o : OO) : Option (Int × OO) := some ((-1), o)
noncomputable def b_X11_grants_48 (o : OO) : Option (Int × OO) := qB2 (s_X11_found o 3) (fun r1 o3 => some (r1, o3))
noncomputable def b_X11_grants_144 (o : OO) (y0 : Int) : Option (Int × OO) := some (y0, o)
noncomputable def b_X11_grants_131 (o : OO) (x4 : Int) (y1 : Int64) : Option (Int × OO) := qNm (st2 o 0 15 y1) (fun o4 => qLt x4 0 (b_X11_grants_144 o4 0) (b_X11_grants_144 o4 1))
noncomputable def b_X11_grants_78 (o : OO) (x1 : Int) (x2 : Int) (y0 : Int) : Option (Int × OO) := qB (s_X4_dateOf o x1) (fun r5 => qNm (r5 - y0) (fun n7 => qB2 (s_X11_tell o n7) (fun r8 o10 => qLt n7 0 (b_X11_grants_131 o10 n7 (0 : Int64)) (qB (s_X4_costOf o10 x2) (fun r11 => qB (s_X4_amountOf o10 x1) (fun r13 => b_X11_grants_131 o10 n7 (((jl r11) * (jl r13)) / (10 : Int64))))))))
noncomputable def s_X11_grants (o : OO) (x1 : Int) (x2 : Int) : Option (Int × OO) := qB (s_X4_exists o x1) (fun r15 => qEq r15 0 (b_X11_grants_22 o) (qB (s_X4_exists o x2) (fun r17 => qEq r17 0 (b_X11_grants_22 o) (qB (s_X4_isOf o x1 5) (fun r19 => qEq r19 0 (b_X11_grants_48 o) (qB (s_X4_isOf o x2 1) (fun r21 => qEq r21 0 (b_X11_grants_48 o) (qLt 0 (o.1 66 0) (b_X11_grants_78 o x1 x2 (o.1 66 1)) (b_X11_grants_78 o x1 x2 (o.1 0 13))))))))))
set_option maxHeartbeats 4000000 in
set_option maxRecDepth 100000 in
theorem c_X11_grants (l : Launch) (g : GG) (ad : Nat → Nat) (o : OO) (x1 : Int) (x2 : Int) (v : Int × OO) (h : s_X11_grants o x1 x2 = some v) : CI l g yX11_grants cX11_grants 5 (some .int) 1 23 (wC g ad o) [.ref (ad 0), iv x1, iv x2] v.1 (wC g ad v.2) := by
  refine met_I (by decide) (Nat.le_of_ble_eq_true rfl) ?_
  intro X E hQ
  show Go X 0 (wC g ad o) [(0, .ref (ad 0)), (1, iv x1), (2, iv x2)] []
  have j22 : ∀ (o : OO), b_X11_grants_22 o = some v → Go X 22 (wC g ad o) [] [] := by
    intro o h
    unfold b_X11_grants_22 at h
    refine g_iconst E gdX11_grants_22 ?_
    exact g_iret E hQ (by rw [← Option.some.inj h]) (by rw [← Option.some.inj h]) gdX11_grants_23
  have j48 : ∀ (o : OO), b_X11_grants_48 o = some v → Go X 48 (wC g ad o) [(0, .ref (ad 0))] [] := by
    intro o h
    unfold b_X11_grants_48 at h
    refine g_aload_n E gdX11_grants_48 rfl 0 rfl ?_
    refine g_iconst E gdX11_grants_49 ?_
    obtain ⟨r1, o3, hc2, h⟩ := qB2_of h
    refine g_Vi (r := r1) (As := [iv 3]) (rest := []) (w := wC g ad o3) E (c_X11_found l g ad o 3 (r1, o3) hc2) okm_X11_found okw_X11_found w_521 rfl (wC_0 g ad o) rfl rfl (Nat.le_of_ble_eq_true rfl) ⟨Nat.le_of_ble_eq_true rfl, Nat.le_of_ble_eq_true rfl⟩ gdX11_grants_50 ?_
    exact g_iret E hQ (by rw [← Option.some.inj h]) (by rw [← Option.some.inj h]) gdX11_grants_53
  have j144 : ∀ (o : OO) (y0 : Int), b_X11_grants_144 o y0 = some v → Go X 144 (wC g ad o) [] [iv y0] := by
    intro o y0 h
    unfold b_X11_grants_144 at h
    exact g_iret E hQ (by rw [← Option.some.inj h]) (by rw [← Option.some.inj h]) gdX11_grants_144
  have j131 : ∀ (o : OO) (x4 : Int) (y1 : Int64), b_X11_grants_131 o x4 y1 = some v → Go X 131 (wC g ad o) [(4, iv x4)] [.long y1, .ref (ad 0)] := by
    intro o x4 y1 h
    unfold b_X11_grants_131 at h
    obtain ⟨o4, e_o4, h⟩ := qNm_of h
    refine g_putl (T := TX11) (ws' := wC g ad o4) E fw_X11 tyX11 tyX11_ok nmX11 0 (wC_0 g ad o) rfl 15 (by decide) w_473 rfl rfl (by decide +kernel) (Nat.le_of_ble_eq_true rfl) (by rw [e_o4]; exact wC_p0_15 g ad o _) gdX11_grants_131 ?_
    refine g_iload E gdX11_grants_134 0 rfl ?_
    refine g_if_lt E 143 gdX11_grants_136 (by decide) h (fun h => ?_) (fun h => ?_)
    ·
      refine g_iconst E gdX11_grants_143 ?_
      refine g_sub E [] rfl ?_
      exact j144 o4 0 h
    ·
      refine g_iconst E gdX11_grants_139 ?_
      refine g_goto E 144 gdX11_grants_140 (by decide) ?_
      refine g_sub E [] rfl ?_
      exact j144 o4 1 h
  have j78 : ∀ (o : OO) (x1 : Int) (x2 : Int) (y0 : Int), b_X11_grants_78 o x1 x2 y0 = some v → Go X 78 (wC g ad o) [(0, .ref (ad 0)), (1, iv x1), (2, iv x2)] [iv y0] := by
    intro o x1 x2 y0 h
    unfold b_X11_grants_78 at h
    refine g_istore_n E [(3, iv y0), (0, .ref (ad 0)), (1, iv x1), (2, iv x2)] gdX11_grants_78 rfl (by decide) rfl ?_
    refine g_aload_n E gdX11_grants_79 rfl 1 rfl ?_
    refine g_get (T := TX11) E fw_X11 0 (wC_0 g ad o) rfl 6 (by decide) w_464 rfl rfl gdX11_grants_80 ?_
    refine g_iload_n E gdX11_grants_83 rfl 2 rfl ?_
    obtain ⟨r5, hc6, h⟩ := qB_of h
    refine g_Vi (r := r5) (As := [iv x1]) (rest := []) (w := wC g ad o) E (c_X4_dateOf l g ad o x1 r5 hc6) okm_X4_dateOf okw_X4_dateOf w_1238 rfl (wC_32 g ad o) rfl rfl (Nat.le_of_ble_eq_true rfl) ⟨Nat.le_of_ble_eq_true rfl, Nat.le_of_ble_eq_true rfl⟩ gdX11_grants_84 ?_
    refine g_iload_n E gdX11_grants_87 rfl 0 rfl ?_
    refine g_isub E gdX11_grants_88 ?_
    obtain ⟨n7, e_n7, h⟩ := qNm_of h
    refine g_nmi e_n7 ?_
    refine g_istore E [(4, iv n7), (3, iv y0), (0, .ref (ad 0)), (1, iv x1), (2, iv x2)] gdX11_grants_89 (by decide) rfl ?_
    refine g_aload_n E gdX11_grants_91 rfl 2 rfl ?_
    refine g_iload E gdX11_grants_92 0 rfl ?_
    obtain ⟨r8, o10, hc9, h⟩ := qB2_of h
    refine g_Vi (r := r8) (As := [iv n7]) (rest := []) (w := wC g ad o10) E (c_X11_tell l g ad o n7 (r8, o10) hc9) okm_X11_tell okw_X11_tell w_551 rfl (wC_0 g ad o) rfl rfl (Nat.le_of_ble_eq_true rfl) ⟨Nat.le_of_ble_eq_true rfl, Nat.le_of_ble_eq_true rfl⟩ gdX11_grants_94 ?_
    refine g_pop E gdX11_grants_97 rfl ?_
    refine g_aload_n E gdX11_grants_98 rfl 2 rfl ?_
    refine g_iload E gdX11_grants_99 0 rfl ?_
    refine g_if_lt E 130 gdX11_grants_101 (by decide) h (fun h => ?_) (fun h => ?_)
    ·
      refine g_lconst (v := 0) E gdX11_grants_130 (by decide) ?_
      refine g_sub E [0] rfl ?_
      exact j131 o10 n7 (0 : Int64) h
    ·
      refine g_aload_n E gdX11_grants_104 rfl 2 rfl ?_
      refine g_get (T := TX11) E fw_X11 0 (wC_0 g ad o10) rfl 6 (by decide) w_464 rfl rfl gdX11_grants_105 ?_
      refine g_iload_n E gdX11_grants_108 rfl 4 rfl ?_
      obtain ⟨r11, hc12, h⟩ := qB_of h
      refine g_Vi (r := r11) (As := [iv x2]) (rest := [.ref (ad 0)]) (w := wC g ad o10) E (c_X4_costOf l g ad o10 x2 r11 hc12) okm_X4_costOf okw_X4_costOf w_1054 rfl (wC_32 g ad o10) rfl rfl (Nat.le_of_ble_eq_true rfl) ⟨Nat.le_of_ble_eq_true rfl, Nat.le_of_ble_eq_true rfl⟩ gdX11_grants_109 ?_
      refine g_i2l E gdX11_grants_112 ?_
      refine g_aload_n E gdX11_grants_113 rfl 2 rfl ?_
      refine g_get (T := TX11) E fw_X11 0 (wC_0 g ad o10) rfl 6 (by decide) w_464 rfl rfl gdX11_grants_114 ?_
      refine g_iload_n E gdX11_grants_117 rfl 3 rfl ?_
      obtain ⟨r13, hc14, h⟩ := qB_of h
      refine g_Vi (r := r13) (As := [iv x1]) (rest := [.long (jl r11), .ref (ad 0)]) (w := wC g ad o10) E (c_X4_amountOf l g ad o10 x1 r13 hc14) okm_X4_amountOf okw_X4_amountOf w_1046 rfl (wC_32 g ad o10) rfl rfl (Nat.le_of_ble_eq_true rfl) ⟨Nat.le_of_ble_eq_true rfl, Nat.le_of_ble_eq_true rfl⟩ gdX11_grants_118 ?_
      refine g_i2l E gdX11_grants_121 ?_
      refine g_lmul E gdX11_grants_122 ?_
      refine g_ldc2 E gdX11_grants_123 w_1318 ?_
      refine g_ldiv E (by decide) gdX11_grants_126 ?_
      refine g_goto E 131 gdX11_grants_127 (by decide) ?_
      refine g_sub E [0] rfl ?_
      exact j131 o10 n7 (((jl r11) * (jl r13)) / (10 : Int64)) h
  unfold s_X11_grants at h
  refine g_aload_n E gdX11_grants_0 rfl 0 rfl ?_
  refine g_get (T := TX11) E fw_X11 0 (wC_0 g ad o) rfl 6 (by decide) w_464 rfl rfl gdX11_grants_1 ?_
  refine g_iload_n E gdX11_grants_4 rfl 1 rfl ?_
  obtain ⟨r15, hc16, h⟩ := qB_of h
  refine g_Vi (r := r15) (As := [iv x1]) (rest := []) (w := wC g ad o) E (c_X4_exists l g ad o x1 r15 hc16) okm_X4_exists okw_X4_exists w_882 rfl (wC_32 g ad o) rfl rfl (Nat.le_of_ble_eq_true rfl) ⟨Nat.le_of_ble_eq_true rfl, Nat.le_of_ble_eq_true rfl⟩ gdX11_grants_5 ?_
  refine g_if_eq E 22 gdX11_grants_8 (by decide) h (fun h => ?_) (fun h => ?_)
  ·
    refine g_sub E [] rfl ?_
    exact j22 o h
  ·
    refine g_aload_n E gdX11_grants_11 rfl 0 rfl ?_
    refine g_get (T := TX11) E fw_X11 0 (wC_0 g ad o) rfl 6 (by decide) w_464 rfl rfl gdX11_grants_12 ?_
    refine g_iload_n E gdX11_grants_15 rfl 2 rfl ?_
    obtain ⟨r17, hc18, h⟩ := qB_of h
    refine g_Vi (r := r17) (As := [iv x2]) (rest := []) (w := wC g ad o) E (c_X4_exists l g ad o x2 r17 hc18) okm_X4_exists okw_X4_exists w_882 rfl (wC_32 g ad o) rfl rfl (Nat.le_of_ble_eq_true rfl) ⟨Nat.le_of_ble_eq_true rfl, Nat.le_of_ble_eq_true rfl⟩ gdX11_grants_16 ?_
    refine g_if_ne E 24 gdX11_grants_19 (by decide) h (fun h => ?_) (fun h => ?_)
    ·
      refine g_aload_n E gdX11_grants_24 rfl 0 rfl ?_
      refine g_get (T := TX11) E fw_X11 0 (wC_0 g ad o) rfl 6 (by decide) w_464 rfl rfl gdX11_grants_25 ?_
      refine g_iload_n E gdX11_grants_28 rfl 1 rfl ?_
      refine g_iconst E gdX11_grants_29 ?_
      obtain ⟨r19, hc20, h⟩ := qB_of h
      refine g_Vi (r := r19) (As := [iv x1, iv 5]) (rest := []) (w := wC g ad o) E (c_X4_isOf l g ad o x1 5 r19 hc20) okm_X4_isOf okw_X4_isOf w_886 rfl (wC_32 g ad o) rfl rfl (Nat.le_of_ble_eq_true rfl) ⟨Nat.le_of_ble_eq_true rfl, Nat.le_of_ble_eq_true rfl⟩ gdX11_grants_30 ?_
      refine g_if_eq E 48 gdX11_grants_33 (by decide) h (fun h => ?_) (fun h => ?_)
      ·
        refine g_sub E [0] rfl ?_
        exact j48 o h
      ·
        refine g_aload_n E gdX11_grants_36 rfl 0 rfl ?_
        refine g_get (T := TX11) E fw_X11 0 (wC_0 g ad o) rfl 6 (by decide) w_464 rfl rfl gdX11_grants_37 ?_
        refine g_iload_n E gdX11_grants_40 rfl 2 rfl ?_
        refine g_iconst E gdX11_grants_41 ?_
        obtain ⟨r21, hc22, h⟩ := qB_of h
        refine g_Vi (r := r21) (As := [iv x2, iv 1]) (rest := []) (w := wC g ad o) E (c_X4_isOf l g ad o x2 1 r21 hc22) okm_X4_isOf okw_X4_isOf w_886 rfl (wC_32 g ad o) rfl rfl (Nat.le_of_ble_eq_true rfl) ⟨Nat.le_of_ble_eq_true rfl, Nat.le_of_ble_eq_true rfl⟩ gdX11_grants_42 ?_
        refine g_if_ne E 54 gdX11_grants_45 (by decide) h (fun h => ?_) (fun h => ?_)
        ·
          refine g_aload_n E gdX11_grants_54 rfl 0 rfl ?_
          refine g_get (T := TX11) E fw_X11 0 (wC_0 g ad o) rfl 10 (by decide) w_468 rfl rfl gdX11_grants_55 ?_
          refine g_get (T := TX0) E fw_X0 66 (wC_66 g ad o) rfl 0 (by decide) w_413 rfl rfl gdX11_grants_58 ?_
          refine g_if_le E 74 gdX11_grants_61 (by decide) h (fun h => ?_) (fun h => ?_)
          ·
            refine g_aload_n E gdX11_grants_74 rfl 0 rfl ?_
            refine g_get (T := TX11) E fw_X11 0 (wC_0 g ad o) rfl 13 (by decide) w_471 rfl rfl gdX11_grants_75 ?_
            exact j78 o x1 x2 (o.1 0 13) h
          ·
            refine g_aload_n E gdX11_grants_64 rfl 0 rfl ?_
            refine g_get (T := TX11) E fw_X11 0 (wC_0 g ad o) rfl 10 (by decide) w_468 rfl rfl gdX11_grants_65 ?_
            refine g_get (T := TX0) E fw_X0 66 (wC_66 g ad o) rfl 1 (by decide) w_415 rfl rfl gdX11_grants_68 ?_
            refine g_goto E 78 gdX11_grants_71 (by decide) ?_
            exact j78 o x1 x2 (o.1 66 1) h
        ·
          refine g_sub E [0] rfl ?_
          exact j48 o h
    ·
      refine g_sub E [] rfl ?_
      exact j22 o h
noncomputable def s_X2_heards (o : OO) : Option (Int) := some (o.1 46 7)
set_option maxHeartbeats 4000000 in
set_option maxRecDepth 100000 in
theorem c_X2_heards (l : Launch) (g : GG) (ad : Nat → Nat) (o : OO) (v : Int) (h : s_X2_heards o = some v) : CI l g yX2_heards cX2_heards 1 (some .int) 0 0 (wC g ad o) [.ref (ad 46)] v (wC g ad o) := by
  refine met_I (by decide) (Nat.le_of_ble_eq_true rfl) ?_
  intro X E hQ
  show Go X 0 (wC g ad o) [(0, .ref (ad 46))] []
  unfold s_X2_heards at h
  refine g_aload_n E gdX2_heards_0 rfl 0 rfl ?_
  refine g_get (T := TX2) E fw_X2 46 (wC_46 g ad o) rfl 7 (by decide) w_308 rfl rfl gdX2_heards_1 ?_
  exact g_iret E hQ (Option.some.inj h) rfl gdX2_heards_4
noncomputable def s_X2_addHeard (o : OO) (x1 : Int) (x2 : Int) (x3 : Int) : Option (OO) := qIn (o.1 46 7) 60 (qNm (st1 o 50 ((o.1 46 7).toNat) x1) (fun o2 => qIn (o2.1 46 7) 60 (qNm (st1 o2 51 ((o2.1 46 7).toNat) x2) (fun o4 => qIn (o4.1 46 7) 60 (qNm (st1 o4 52 ((o4.1 46 7).toNat) x3) (fun o6 => qNm (st1 o6 46 7 ((o6.1 46 7) + 1)) (fun o7 => some o7)))))))
set_option maxHeartbeats 4000000 in
set_option maxRecDepth 100000 in
theorem c_X2_addHeard (l : Launch) (g : GG) (ad : Nat → Nat) (o : OO) (x1 : Int) (x2 : Int) (x3 : Int) (v : OO) (h : s_X2_addHeard o x1 x2 x3 = some v) : CV l g yX2_addHeard cX2_addHeard 4 0 0 (wC g ad o) [.ref (ad 46), iv x1, iv x2, iv x3] (wC g ad v) := by
  refine met_V (by decide) (Nat.le_of_ble_eq_true rfl) ?_
  intro X E hQ
  show Go X 0 (wC g ad o) [(0, .ref (ad 46)), (1, iv x1), (2, iv x2), (3, iv x3)] []
  unfold s_X2_addHeard at h
  refine g_aload_n E gdX2_addHeard_0 rfl 0 rfl ?_
  refine g_get (T := TX2) E fw_X2 46 (wC_46 g ad o) rfl 3 (by decide) w_304 rfl rfl gdX2_addHeard_1 ?_
  refine g_aload_n E gdX2_addHeard_4 rfl 0 rfl ?_
  refine g_get (T := TX2) E fw_X2 46 (wC_46 g ad o) rfl 7 (by decide) w_308 rfl rfl gdX2_addHeard_5 ?_
  refine g_iload_n E gdX2_addHeard_8 rfl 1 rfl ?_
  obtain ⟨hi1, h⟩ := qIn_of h
  obtain ⟨o2, e_o2, h⟩ := qNm_of h
  refine g_iast (ws' := wC g ad o2) E 50 (wC_50 g ad o) (by decide) hi1 (by rw [e_o2]; exact wC_s50 g ad o _ _) gdX2_addHeard_9 ?_
  refine g_aload_n E gdX2_addHeard_10 rfl 0 rfl ?_
  refine g_get (T := TX2) E fw_X2 46 (wC_46 g ad o2) rfl 4 (by decide) w_305 rfl rfl gdX2_addHeard_11 ?_
  refine g_aload_n E gdX2_addHeard_14 rfl 0 rfl ?_
  refine g_get (T := TX2) E fw_X2 46 (wC_46 g ad o2) rfl 7 (by decide) w_308 rfl rfl gdX2_addHeard_15 ?_
  refine g_iload_n E gdX2_addHeard_18 rfl 2 rfl ?_
  obtain ⟨hi3, h⟩ := qIn_of h
  obtain ⟨o4, e_o4, h⟩ := qNm_of h
  refine g_iast (ws' := wC g ad o4) E 51 (wC_51 g ad o2) (by decide) hi3 (by rw [e_o4]; exact wC_s51 g ad o2 _ _) gdX2_addHeard_19 ?_
  refine g_aload_n E gdX2_addHeard_20 rfl 0 rfl ?_
  refine g_get (T := TX2) E fw_X2 46 (wC_46 g ad o4) rfl 5 (by decide) w_306 rfl rfl gdX2_addHeard_21 ?_
  refine g_aload_n E gdX2_addHeard_24 rfl 0 rfl ?_
  refine g_get (T := TX2) E fw_X2 46 (wC_46 g ad o4) rfl 7 (by decide) w_308 rfl rfl gdX2_addHeard_25 ?_
  refine g_iload_n E gdX2_addHeard_28 rfl 3 rfl ?_
  obtain ⟨hi5, h⟩ := qIn_of h
  obtain ⟨o6, e_o6, h⟩ := qNm_of h
  refine g_iast (ws' := wC g ad o6) E 52 (wC_52 g ad o4) (by decide) hi5 (by rw [e_o6]; exact wC_s52 g ad o4 _ _) gdX2_addHeard_29 ?_
  refine g_aload_n E gdX2_addHeard_30 rfl 0 rfl ?_
  refine g_dup E gdX2_addHeard_31 rfl ?_
  refine g_get (T := TX2) E fw_X2 46 (wC_46 g ad o6) rfl 7 (by decide) w_308 rfl rfl gdX2_addHeard_32 ?_
  refine g_iconst E gdX2_addHeard_35 ?_
  refine g_iadd E gdX2_addHeard_36 ?_
  obtain ⟨o7, e_o7, h⟩ := qNm_of h
  refine g_puti (T := TX2) (ws' := wC g ad o7) E fw_X2 tyX2 tyX2_ok nmX2 46 (wC_46 g ad o6) rfl 7 (by decide) w_308 rfl rfl (by decide +kernel) (Nat.le_of_ble_eq_true rfl) (by rw [e_o7]; exact wC_p46_7 g ad o6 _) gdX2_addHeard_37 ?_
  exact g_vret E hQ (by rw [← Option.some.inj h]) gdX2_addHeard_40
noncomputable def b_X11_hear_22 (o : OO) : Option (Int × OO) := some ((-1), o)
noncomputable def s_X11_hear (o : OO) (x1 : Int) (x2 : Int) : Option (Int × OO) := qB (s_X5_exists o x1) (fun r1 => qEq r1 0 (b_X11_hear_22 o) (qB (s_X4_exists o x2) (fun r3 => qEq r3 0 (b_X11_hear_22 o) (qB (s_X4_isOf o x2 1) (fun r5 => qEq r5 0 (qB2 (s_X11_found o 3) (fun r14 o16 => some (r14, o16))) (qB (s_X2_heardOn o x1 x2) (fun r7 => qEq r7 (-9) (qB (s_X2_heards o) (fun r9 => qLt r9 60 (qB (s_X2_addHeard o x1 x2 (o.1 0 13)) (fun o13 => some (o13.1 0 13, o13))) (some ((-2), o)))) (some (r7, o)))))))))
set_option maxHeartbeats 4000000 in
set_option maxRecDepth 100000 in
theorem c_X11_hear (l : Launch) (g : GG) (ad : Nat → Nat) (o : OO) (x1 : Int) (x2 : Int) (v : Int × OO) (h : s_X11_hear o x1 x2 = some v) : CI l g yX11_hear cX11_hear 4 (some .int) 1 23 (wC g ad o) [.ref (ad 0), iv x1, iv x2] v.1 (wC g ad v.2) := by
  refine met_I (by decide) (Nat.le_of_ble_eq_true rfl) ?_
  intro X E hQ
  show Go X 0 (wC g ad o) [(0, .ref (ad 0)), (1, iv x1), (2, iv x2)] []
  have j22 : ∀ (o : OO), b_X11_hear_22 o = some v → Go X 22 (wC g ad o) [] [] := by
    intro o h
    unfold b_X11_hear_22 at h
    refine g_iconst E gdX11_hear_22 ?_
    exact g_iret E hQ (by rw [← Option.some.inj h]) (by rw [← Option.some.inj h]) gdX11_hear_23
  unfold s_X11_hear at h
  refine g_aload_n E gdX11_hear_0 rfl 0 rfl ?_
  refine g_get (T := TX11) E fw_X11 0 (wC_0 g ad o) rfl 4 (by decide) w_462 rfl rfl gdX11_hear_1 ?_
  refine g_iload_n E gdX11_hear_4 rfl 1 rfl ?_
  obtain ⟨r1, hc2, h⟩ := qB_of h
  refine g_Vi (r := r1) (As := [iv x1]) (rest := []) (w := wC g ad o) E (c_X5_exists l g ad o x1 r1 hc2) okm_X5_exists okw_X5_exists w_735 rfl (wC_23 g ad o) rfl rfl (Nat.le_of_ble_eq_true rfl) ⟨Nat.le_of_ble_eq_true rfl, Nat.le_of_ble_eq_true rfl⟩ gdX11_hear_5 ?_
  refine g_if_eq E 22 gdX11_hear_8 (by decide) h (fun h => ?_) (fun h => ?_)
  ·
    refine g_sub E [] rfl ?_
    exact j22 o h
  ·
    refine g_aload_n E gdX11_hear_11 rfl 0 rfl ?_
    refine g_get (T := TX11) E fw_X11 0 (wC_0 g ad o) rfl 6 (by decide) w_464 rfl rfl gdX11_hear_12 ?_
    refine g_iload_n E gdX11_hear_15 rfl 2 rfl ?_
    obtain ⟨r3, hc4, h⟩ := qB_of h
    refine g_Vi (r := r3) (As := [iv x2]) (rest := []) (w := wC g ad o) E (c_X4_exists l g ad o x2 r3 hc4) okm_X4_exists okw_X4_exists w_882 rfl (wC_32 g ad o) rfl rfl (Nat.le_of_ble_eq_true rfl) ⟨Nat.le_of_ble_eq_true rfl, Nat.le_of_ble_eq_true rfl⟩ gdX11_hear_16 ?_
    refine g_if_ne E 24 gdX11_hear_19 (by decide) h (fun h => ?_) (fun h => ?_)
    ·
      refine g_aload_n E gdX11_hear_24 rfl 0 rfl ?_
      refine g_get (T := TX11) E fw_X11 0 (wC_0 g ad o) rfl 6 (by decide) w_464 rfl rfl gdX11_hear_25 ?_
      refine g_iload_n E gdX11_hear_28 rfl 2 rfl ?_
      refine g_iconst E gdX11_hear_29 ?_
      obtain ⟨r5, hc6, h⟩ := qB_of h
      refine g_Vi (r := r5) (As := [iv x2, iv 1]) (rest := []) (w := wC g ad o) E (c_X4_isOf l g ad o x2 1 r5 hc6) okm_X4_isOf okw_X4_isOf w_886 rfl (wC_32 g ad o) rfl rfl (Nat.le_of_ble_eq_true rfl) ⟨Nat.le_of_ble_eq_true rfl, Nat.le_of_ble_eq_true rfl⟩ gdX11_hear_30 ?_
      refine g_if_ne E 42 gdX11_hear_33 (by decide) h (fun h => ?_) (fun h => ?_)
      ·
        refine g_aload_n E gdX11_hear_42 rfl 0 rfl ?_
        refine g_get (T := TX11) E fw_X11 0 (wC_0 g ad o) rfl 7 (by decide) w_465 rfl rfl gdX11_hear_43 ?_
        refine g_iload_n E gdX11_hear_46 rfl 1 rfl ?_
        refine g_iload_n E gdX11_hear_47 rfl 2 rfl ?_
        obtain ⟨r7, hc8, h⟩ := qB_of h
        refine g_Vi (r := r7) (As := [iv x1, iv x2]) (rest := []) (w := wC g ad o) E (c_X2_heardOn l g ad o x1 x2 r7 hc8) okm_X2_heardOn okw_X2_heardOn w_1086 rfl (wC_46 g ad o) rfl rfl (Nat.le_of_ble_eq_true rfl) ⟨Nat.le_of_ble_eq_true rfl, Nat.le_of_ble_eq_true rfl⟩ gdX11_hear_48 ?_
        refine g_istore_n E [(3, iv r7), (0, .ref (ad 0)), (1, iv x1), (2, iv x2)] gdX11_hear_51 rfl (by decide) rfl ?_
        refine g_iload_n E gdX11_hear_52 rfl 0 rfl ?_
        refine g_bipush E gdX11_hear_53 (by decide) ?_
        refine g_icmp_eq E 60 gdX11_hear_55 (by decide) h (fun h => ?_) (fun h => ?_)
        ·
          refine g_aload_n E gdX11_hear_60 rfl 1 rfl ?_
          refine g_get (T := TX11) E fw_X11 0 (wC_0 g ad o) rfl 7 (by decide) w_465 rfl rfl gdX11_hear_61 ?_
          obtain ⟨r9, hc10, h⟩ := qB_of h
          refine g_Vi (r := r9) (As := []) (rest := []) (w := wC g ad o) E (c_X2_heards l g ad o r9 hc10) okm_X2_heards okw_X2_heards w_1090 rfl (wC_46 g ad o) rfl rfl (Nat.le_of_ble_eq_true rfl) ⟨Nat.le_of_ble_eq_true rfl, Nat.le_of_ble_eq_true rfl⟩ gdX11_hear_64 ?_
          refine g_bipush E gdX11_hear_67 (by decide) ?_
          refine g_icmp_lt E 75 gdX11_hear_69 (by decide) h (fun h => ?_) (fun h => ?_)
          ·
            refine g_aload_n E gdX11_hear_75 rfl 1 rfl ?_
            refine g_get (T := TX11) E fw_X11 0 (wC_0 g ad o) rfl 7 (by decide) w_465 rfl rfl gdX11_hear_76 ?_
            refine g_iload_n E gdX11_hear_79 rfl 2 rfl ?_
            refine g_iload_n E gdX11_hear_80 rfl 3 rfl ?_
            refine g_aload_n E gdX11_hear_81 rfl 1 rfl ?_
            refine g_get (T := TX11) E fw_X11 0 (wC_0 g ad o) rfl 13 (by decide) w_471 rfl rfl gdX11_hear_82 ?_
            obtain ⟨o13, hc12, h⟩ := qB_of h
            refine g_Vv (As := [iv x1, iv x2, iv (o.1 0 13)]) (rest := []) (w := wC g ad o13) E (c_X2_addHeard l g ad o x1 x2 (o.1 0 13) o13 hc12) okm_X2_addHeard okw_X2_addHeard w_1094 rfl (wC_46 g ad o) rfl rfl (Nat.le_of_ble_eq_true rfl) ⟨Nat.le_of_ble_eq_true rfl, Nat.le_of_ble_eq_true rfl⟩ gdX11_hear_85 ?_
            refine g_aload_n E gdX11_hear_88 rfl 1 rfl ?_
            refine g_get (T := TX11) E fw_X11 0 (wC_0 g ad o13) rfl 13 (by decide) w_471 rfl rfl gdX11_hear_89 ?_
            exact g_iret E hQ (by rw [← Option.some.inj h]) (by rw [← Option.some.inj h]) gdX11_hear_92
          ·
            refine g_bipush E gdX11_hear_72 (by decide) ?_
            exact g_iret E hQ (by rw [← Option.some.inj h]) (by rw [← Option.some.inj h]) gdX11_hear_74
        ·
          refine g_iload_n E gdX11_hear_58 rfl 0 rfl ?_
          exact g_iret E hQ (by rw [← Option.some.inj h]) (by rw [← Option.some.inj h]) gdX11_hear_59
      ·
        refine g_aload_n E gdX11_hear_36 rfl 0 rfl ?_
        refine g_iconst E gdX11_hear_37 ?_
        obtain ⟨r14, o16, hc15, h⟩ := qB2_of h
        refine g_Vi (r := r14) (As := [iv 3]) (rest := []) (w := wC g ad o16) E (c_X11_found l g ad o 3 (r14, o16) hc15) okm_X11_found okw_X11_found w_521 rfl (wC_0 g ad o) rfl rfl (Nat.le_of_ble_eq_true rfl) ⟨Nat.le_of_ble_eq_true rfl, Nat.le_of_ble_eq_true rfl⟩ gdX11_hear_38 ?_
        exact g_iret E hQ (by rw [← Option.some.inj h]) (by rw [← Option.some.inj h]) gdX11_hear_41
    ·
      refine g_sub E [] rfl ?_
      exact j22 o h
noncomputable def s_X4_setHearing (o : OO) (x1 : Int) (x2 : Int) (x3 : Int) (x4 : Int) : Option (OO) := qIn x1 24 (qNm (st1 o 42 x1.toNat x2) (fun o2 => qIn x1 24 (qNm (st1 o2 44 x1.toNat x3) (fun o4 => qIn x1 24 (qNm (st1 o4 43 x1.toNat x4) (fun o6 => some o6))))))
set_option maxHeartbeats 4000000 in
set_option maxRecDepth 100000 in
theorem c_X4_setHearing (l : Launch) (g : GG) (ad : Nat → Nat) (o : OO) (x1 : Int) (x2 : Int) (x3 : Int) (x4 : Int) (v : OO) (h : s_X4_setHearing o x1 x2 x3 x4 = some v) : CV l g yX4_setHearing cX4_setHearing 5 0 0 (wC g ad o) [.ref (ad 32), iv x1, iv x2, iv x3, iv x4] (wC g ad v) := by
  refine met_V (by decide) (Nat.le_of_ble_eq_true rfl) ?_
  intro X E hQ
  show Go X 0 (wC g ad o) [(0, .ref (ad 32)), (1, iv x1), (2, iv x2), (3, iv x3), (4, iv x4)] []
  unfold s_X4_setHearing at h
  refine g_aload_n E gdX4_setHearing_0 rfl 0 rfl ?_
  refine g_get (T := TX4) E fw_X4 32 (wC_32 g ad o) rfl 9 (by decide) w_260 rfl rfl gdX4_setHearing_1 ?_
  refine g_iload_n E gdX4_setHearing_4 rfl 1 rfl ?_
  refine g_iload_n E gdX4_setHearing_5 rfl 2 rfl ?_
  obtain ⟨hi1, h⟩ := qIn_of h
  obtain ⟨o2, e_o2, h⟩ := qNm_of h
  refine g_iast (ws' := wC g ad o2) E 42 (wC_42 g ad o) (by decide) hi1 (by rw [e_o2]; exact wC_s42 g ad o _ _) gdX4_setHearing_6 ?_
  refine g_aload_n E gdX4_setHearing_7 rfl 0 rfl ?_
  refine g_get (T := TX4) E fw_X4 32 (wC_32 g ad o2) rfl 11 (by decide) w_262 rfl rfl gdX4_setHearing_8 ?_
  refine g_iload_n E gdX4_setHearing_11 rfl 1 rfl ?_
  refine g_iload_n E gdX4_setHearing_12 rfl 3 rfl ?_
  obtain ⟨hi3, h⟩ := qIn_of h
  obtain ⟨o4, e_o4, h⟩ := qNm_of h
  refine g_iast (ws' := wC g ad o4) E 44 (wC_44 g ad o2) (by decide) hi3 (by rw [e_o4]; exact wC_s44 g ad o2 _ _) gdX4_setHearing_13 ?_
  refine g_aload_n E gdX4_setHearing_14 rfl 0 rfl ?_
  refine g_get (T := TX4) E fw_X4 32 (wC_32 g ad o4) rfl 10 (by decide) w_261 rfl rfl gdX4_setHearing_15 ?_
  refine g_iload_n E gdX4_setHearing_18 rfl 1 rfl ?_
  refine g_iload E gdX4_setHearing_19 4 rfl ?_
  obtain ⟨hi5, h⟩ := qIn_of h
  obtain ⟨o6, e_o6, h⟩ := qNm_of h
  refine g_iast (ws' := wC g ad o6) E 43 (wC_43 g ad o4) (by decide) hi5 (by rw [e_o6]; exact wC_s43 g ad o4 _ _) gdX4_setHearing_21 ?_
  exact g_vret E hQ (by rw [← Option.some.inj h]) gdX4_setHearing_22
noncomputable def b_X11_hearing_36 (o : OO) : Option (Int × OO) := some ((-1), o)
noncomputable def s_X11_hearing (o : OO) (x1 : Int) (x2 : Int) (x3 : Int) (x4 : Int) : Option (Int × OO) := qB (s_X4_exists o x1) (fun r1 => qEq r1 0 (b_X11_hearing_36 o) (qB (s_X3_isCell x2) (fun r3 => qEq r3 0 (b_X11_hearing_36 o) (qLt x3 0 (b_X11_hearing_36 o) (qLt 23 x3 (b_X11_hearing_36 o) (qB (s_X11_isDay x4) (fun r5 => qEq r5 0 (b_X11_hearing_36 o) (qB (s_X4_number o) (fun r7 => qLt r7 24 (qB (s_X4_isOf o x1 1) (fun r9 => qEq r9 0 (qB2 (s_X11_found o 3) (fun r17 o19 => some (r17, o19))) (qLt x4 (o.1 0 13) (some ((-4), o)) (qB2 (s_X4_add o 6 (o.1 0 13) x1) (fun r11 o13 => qB (s_X4_setHearing o13 r11 x2 x3 x4) (fun o16 => some (r11, o16))))))) (some ((-2), o)))))))))))
set_option maxHeartbeats 4000000 in
set_option maxRecDepth 100000 in
theorem c_X11_hearing (l : Launch) (g : GG) (ad : Nat → Nat) (o : OO) (x1 : Int) (x2 : Int) (x3 : Int) (x4 : Int) (v : Int × OO) (h : s_X11_hearing o x1 x2 x3 x4 = some v) : CI l g yX11_hearing cX11_hearing 6 (some .int) 1 24 (wC g ad o) [.ref (ad 0), iv x1, iv x2, iv x3, iv x4] v.1 (wC g ad v.2) := by
  refine met_I (by decide) (Nat.le_of_ble_eq_true rfl) ?_
  intro X E hQ
  show Go X 0 (wC g ad o) [(0, .ref (ad 0)), (1, iv x1), (2, iv x2), (3, iv x3), (4, iv x4)] []
  have j36 : ∀ (o : OO), b_X11_hearing_36 o = some v → Go X 36 (wC g ad o) [] [] := by
    intro o h
    unfold b_X11_hearing_36 at h
    refine g_iconst E gdX11_hearing_36 ?_
    exact g_iret E hQ (by rw [← Option.some.inj h]) (by rw [← Option.some.inj h]) gdX11_hearing_37
  unfold s_X11_hearing at h
  refine g_aload_n E gdX11_hearing_0 rfl 0 rfl ?_
  refine g_get (T := TX11) E fw_X11 0 (wC_0 g ad o) rfl 6 (by decide) w_464 rfl rfl gdX11_hearing_1 ?_
  refine g_iload_n E gdX11_hearing_4 rfl 1 rfl ?_
  obtain ⟨r1, hc2, h⟩ := qB_of h
  refine g_Vi (r := r1) (As := [iv x1]) (rest := []) (w := wC g ad o) E (c_X4_exists l g ad o x1 r1 hc2) okm_X4_exists okw_X4_exists w_882 rfl (wC_32 g ad o) rfl rfl (Nat.le_of_ble_eq_true rfl) ⟨Nat.le_of_ble_eq_true rfl, Nat.le_of_ble_eq_true rfl⟩ gdX11_hearing_5 ?_
  refine g_if_eq E 36 gdX11_hearing_8 (by decide) h (fun h => ?_) (fun h => ?_)
  ·
    refine g_sub E [] rfl ?_
    exact j36 o h
  ·
    refine g_iload_n E gdX11_hearing_11 rfl 2 rfl ?_
    obtain ⟨r3, hc4, h⟩ := qB_of h
    refine g_Si (r := r3) (As := [iv x2]) (rest := []) (w := wC g ad o) E (c_X3_isCell l g (wC g ad o) x2 r3 hc4) okm_X3_isCell w_622 w_621 rfl rfl (Nat.le_of_ble_eq_true rfl) ⟨Nat.le_of_ble_eq_true rfl, Nat.le_of_ble_eq_true rfl⟩ gdX11_hearing_12 ?_
    refine g_if_eq E 36 gdX11_hearing_15 (by decide) h (fun h => ?_) (fun h => ?_)
    ·
      refine g_sub E [] rfl ?_
      exact j36 o h
    ·
      refine g_iload_n E gdX11_hearing_18 rfl 3 rfl ?_
      refine g_if_lt E 36 gdX11_hearing_19 (by decide) h (fun h => ?_) (fun h => ?_)
      ·
        refine g_sub E [] rfl ?_
        exact j36 o h
      ·
        refine g_iload_n E gdX11_hearing_22 rfl 3 rfl ?_
        refine g_bipush E gdX11_hearing_23 (by decide) ?_
        refine g_icmp_gt E 36 gdX11_hearing_25 (by decide) h (fun h => ?_) (fun h => ?_)
        ·
          refine g_sub E [] rfl ?_
          exact j36 o h
        ·
          refine g_iload E gdX11_hearing_28 4 rfl ?_
          obtain ⟨r5, hc6, h⟩ := qB_of h
          refine g_Si (r := r5) (As := [iv x4]) (rest := []) (w := wC g ad o) E (c_X11_isDay l g (wC g ad o) x4 r5 hc6) okm_X11_isDay w_685 w_684 rfl rfl (Nat.le_of_ble_eq_true rfl) ⟨Nat.le_of_ble_eq_true rfl, Nat.le_of_ble_eq_true rfl⟩ gdX11_hearing_30 ?_
          refine g_if_ne E 38 gdX11_hearing_33 (by decide) h (fun h => ?_) (fun h => ?_)
          ·
            refine g_aload_n E gdX11_hearing_38 rfl 0 rfl ?_
            refine g_get (T := TX11) E fw_X11 0 (wC_0 g ad o) rfl 6 (by decide) w_464 rfl rfl gdX11_hearing_39 ?_
            obtain ⟨r7, hc8, h⟩ := qB_of h
            refine g_Vi (r := r7) (As := []) (rest := []) (w := wC g ad o) E (c_X4_number l g ad o r7 hc8) okm_X4_number okw_X4_number w_790 rfl (wC_32 g ad o) rfl rfl (Nat.le_of_ble_eq_true rfl) ⟨Nat.le_of_ble_eq_true rfl, Nat.le_of_ble_eq_true rfl⟩ gdX11_hearing_42 ?_
            refine g_bipush E gdX11_hearing_45 (by decide) ?_
            refine g_icmp_lt E 53 gdX11_hearing_47 (by decide) h (fun h => ?_) (fun h => ?_)
            ·
              refine g_aload_n E gdX11_hearing_53 rfl 0 rfl ?_
              refine g_get (T := TX11) E fw_X11 0 (wC_0 g ad o) rfl 6 (by decide) w_464 rfl rfl gdX11_hearing_54 ?_
              refine g_iload_n E gdX11_hearing_57 rfl 1 rfl ?_
              refine g_iconst E gdX11_hearing_58 ?_
              obtain ⟨r9, hc10, h⟩ := qB_of h
              refine g_Vi (r := r9) (As := [iv x1, iv 1]) (rest := []) (w := wC g ad o) E (c_X4_isOf l g ad o x1 1 r9 hc10) okm_X4_isOf okw_X4_isOf w_886 rfl (wC_32 g ad o) rfl rfl (Nat.le_of_ble_eq_true rfl) ⟨Nat.le_of_ble_eq_true rfl, Nat.le_of_ble_eq_true rfl⟩ gdX11_hearing_59 ?_
              refine g_if_ne E 71 gdX11_hearing_62 (by decide) h (fun h => ?_) (fun h => ?_)
              ·
                refine g_iload E gdX11_hearing_71 4 rfl ?_
                refine g_aload_n E gdX11_hearing_73 rfl 0 rfl ?_
                refine g_get (T := TX11) E fw_X11 0 (wC_0 g ad o) rfl 13 (by decide) w_471 rfl rfl gdX11_hearing_74 ?_
                refine g_icmp_ge E 83 gdX11_hearing_77 (by decide) h (fun h => ?_) (fun h => ?_)
                ·
                  refine g_aload_n E gdX11_hearing_83 rfl 0 rfl ?_
                  refine g_get (T := TX11) E fw_X11 0 (wC_0 g ad o) rfl 6 (by decide) w_464 rfl rfl gdX11_hearing_84 ?_
                  refine g_bipush E gdX11_hearing_87 (by decide) ?_
                  refine g_aload_n E gdX11_hearing_89 rfl 0 rfl ?_
                  refine g_get (T := TX11) E fw_X11 0 (wC_0 g ad o) rfl 13 (by decide) w_471 rfl rfl gdX11_hearing_90 ?_
                  refine g_iload_n E gdX11_hearing_93 rfl 1 rfl ?_
                  obtain ⟨r11, o13, hc12, h⟩ := qB2_of h
                  refine g_Vi (r := r11) (As := [iv 6, iv (o.1 0 13), iv x1]) (rest := []) (w := wC g ad o13) E (c_X4_add l g ad o 6 (o.1 0 13) x1 (r11, o13) hc12) okm_X4_add okw_X4_add w_869 rfl (wC_32 g ad o) rfl rfl (Nat.le_of_ble_eq_true rfl) ⟨Nat.le_of_ble_eq_true rfl, Nat.le_of_ble_eq_true rfl⟩ gdX11_hearing_94 ?_
                  refine g_istore E [(5, iv r11), (0, .ref (ad 0)), (1, iv x1), (2, iv x2), (3, iv x3), (4, iv x4)] gdX11_hearing_97 (by decide) rfl ?_
                  refine g_aload_n E gdX11_hearing_99 rfl 1 rfl ?_
                  refine g_get (T := TX11) E fw_X11 0 (wC_0 g ad o13) rfl 6 (by decide) w_464 rfl rfl gdX11_hearing_100 ?_
                  refine g_iload E gdX11_hearing_103 0 rfl ?_
                  refine g_iload_n E gdX11_hearing_105 rfl 3 rfl ?_
                  refine g_iload_n E gdX11_hearing_106 rfl 4 rfl ?_
                  refine g_iload E gdX11_hearing_107 5 rfl ?_
                  obtain ⟨o16, hc15, h⟩ := qB_of h
                  refine g_Vv (As := [iv r11, iv x2, iv x3, iv x4]) (rest := []) (w := wC g ad o16) E (c_X4_setHearing l g ad o13 r11 x2 x3 x4 o16 hc15) okm_X4_setHearing okw_X4_setHearing w_1007 rfl (wC_32 g ad o13) rfl rfl (Nat.le_of_ble_eq_true rfl) ⟨Nat.le_of_ble_eq_true rfl, Nat.le_of_ble_eq_true rfl⟩ gdX11_hearing_109 ?_
                  refine g_iload E gdX11_hearing_112 0 rfl ?_
                  exact g_iret E hQ (by rw [← Option.some.inj h]) (by rw [← Option.some.inj h]) gdX11_hearing_114
                ·
                  refine g_bipush E gdX11_hearing_80 (by decide) ?_
                  exact g_iret E hQ (by rw [← Option.some.inj h]) (by rw [← Option.some.inj h]) gdX11_hearing_82
              ·
                refine g_aload_n E gdX11_hearing_65 rfl 0 rfl ?_
                refine g_iconst E gdX11_hearing_66 ?_
                obtain ⟨r17, o19, hc18, h⟩ := qB2_of h
                refine g_Vi (r := r17) (As := [iv 3]) (rest := []) (w := wC g ad o19) E (c_X11_found l g ad o 3 (r17, o19) hc18) okm_X11_found okw_X11_found w_521 rfl (wC_0 g ad o) rfl rfl (Nat.le_of_ble_eq_true rfl) ⟨Nat.le_of_ble_eq_true rfl, Nat.le_of_ble_eq_true rfl⟩ gdX11_hearing_67 ?_
                exact g_iret E hQ (by rw [← Option.some.inj h]) (by rw [← Option.some.inj h]) gdX11_hearing_70
            ·
              refine g_bipush E gdX11_hearing_50 (by decide) ?_
              exact g_iret E hQ (by rw [← Option.some.inj h]) (by rw [← Option.some.inj h]) gdX11_hearing_52
          ·
            refine g_sub E [] rfl ?_
            exact j36 o h
noncomputable def b_X11_house_20 (o : OO) : Option (Int × OO) := some ((-1), o)
noncomputable def s_X11_house (o : OO) (x1 : Int) (x2 : Int) : Option (Int × OO) := qB (s_X1_exists o x1) (fun r1 => qEq r1 0 (b_X11_house_20 o) (qLt x2 0 (b_X11_house_20 o) (qLt 5 x2 (b_X11_house_20 o) (qB (s_X1_trait o x1 x2) (fun r3 => qB2 (s_X11_tell o r3) (fun r5 o7 => some (r5, o7)))))))
set_option maxHeartbeats 4000000 in
set_option maxRecDepth 100000 in
theorem c_X11_house (l : Launch) (g : GG) (ad : Nat → Nat) (o : OO) (x1 : Int) (x2 : Int) (v : Int × OO) (h : s_X11_house o x1 x2 = some v) : CI l g yX11_house cX11_house 3 (some .int) 1 22 (wC g ad o) [.ref (ad 0), iv x1, iv x2] v.1 (wC g ad v.2) := by
  refine met_I (by decide) (Nat.le_of_ble_eq_true rfl) ?_
  intro X E hQ
  show Go X 0 (wC g ad o) [(0, .ref (ad 0)), (1, iv x1), (2, iv x2)] []
  have j20 : ∀ (o : OO), b_X11_house_20 o = some v → Go X 20 (wC g ad o) [] [] := by
    intro o h
    unfold b_X11_house_20 at h
    refine g_iconst E gdX11_house_20 ?_
    exact g_iret E hQ (by rw [← Option.some.inj h]) (by rw [← Option.some.inj h]) gdX11_house_21
  unfold s_X11_house at h
  refine g_aload_n E gdX11_house_0 rfl 0 rfl ?_
  refine g_get (T := TX11) E fw_X11 0 (wC_0 g ad o) rfl 3 (by decide) w_461 rfl rfl gdX11_house_1 ?_
  refine g_iload_n E gdX11_house_4 rfl 1 rfl ?_
  obtain ⟨r1, hc2, h⟩ := qB_of h
  refine g_Vi (r := r1) (As := [iv x1]) (rest := []) (w := wC g ad o) E (c_X1_exists l g ad o x1 r1 hc2) okm_X1_exists okw_X1_exists w_667 rfl (wC_10 g ad o) rfl rfl (Nat.le_of_ble_eq_true rfl) ⟨Nat.le_of_ble_eq_true rfl, Nat.le_of_ble_eq_true rfl⟩ gdX11_house_5 ?_
  refine g_if_eq E 20 gdX11_house_8 (by decide) h (fun h => ?_) (fun h => ?_)
  ·
    refine g_sub E [] rfl ?_
    exact j20 o h
  ·
    refine g_iload_n E gdX11_house_11 rfl 2 rfl ?_
    refine g_if_lt E 20 gdX11_house_12 (by decide) h (fun h => ?_) (fun h => ?_)
    ·
      refine g_sub E [] rfl ?_
      exact j20 o h
    ·
      refine g_iload_n E gdX11_house_15 rfl 2 rfl ?_
      refine g_iconst E gdX11_house_16 ?_
      refine g_icmp_le E 22 gdX11_house_17 (by decide) h (fun h => ?_) (fun h => ?_)
      ·
        refine g_aload_n E gdX11_house_22 rfl 0 rfl ?_
        refine g_aload_n E gdX11_house_23 rfl 0 rfl ?_
        refine g_get (T := TX11) E fw_X11 0 (wC_0 g ad o) rfl 3 (by decide) w_461 rfl rfl gdX11_house_24 ?_
        refine g_iload_n E gdX11_house_27 rfl 1 rfl ?_
        refine g_iload_n E gdX11_house_28 rfl 2 rfl ?_
        obtain ⟨r3, hc4, h⟩ := qB_of h
        refine g_Vi (r := r3) (As := [iv x1, iv x2]) (rest := [.ref (ad 0)]) (w := wC g ad o) E (c_X1_trait l g ad o x1 x2 r3 hc4) okm_X1_trait okw_X1_trait w_695 rfl (wC_10 g ad o) rfl rfl (Nat.le_of_ble_eq_true rfl) ⟨Nat.le_of_ble_eq_true rfl, Nat.le_of_ble_eq_true rfl⟩ gdX11_house_29 ?_
        obtain ⟨r5, o7, hc6, h⟩ := qB2_of h
        refine g_Vi (r := r5) (As := [iv r3]) (rest := []) (w := wC g ad o7) E (c_X11_tell l g ad o r3 (r5, o7) hc6) okm_X11_tell okw_X11_tell w_551 rfl (wC_0 g ad o) rfl rfl (Nat.le_of_ble_eq_true rfl) ⟨Nat.le_of_ble_eq_true rfl, Nat.le_of_ble_eq_true rfl⟩ gdX11_house_32 ?_
        exact g_iret E hQ (by rw [← Option.some.inj h]) (by rw [← Option.some.inj h]) gdX11_house_35
      ·
        refine g_sub E [] rfl ?_
        exact j20 o h
noncomputable def s_X4_dayOf (o : OO) (x1 : Int) : Option (Int) := qIn x1 24 (qNm (o.1 34 x1.toNat) (fun n2 => some n2))
set_option maxHeartbeats 4000000 in
set_option maxRecDepth 100000 in
theorem c_X4_dayOf (l : Launch) (g : GG) (ad : Nat → Nat) (o : OO) (x1 : Int) (v : Int) (h : s_X4_dayOf o x1 = some v) : CI l g yX4_dayOf cX4_dayOf 2 (some .int) 0 0 (wC g ad o) [.ref (ad 32), iv x1] v (wC g ad o) := by
  refine met_I (by decide) (Nat.le_of_ble_eq_true rfl) ?_
  intro X E hQ
  show Go X 0 (wC g ad o) [(0, .ref (ad 32)), (1, iv x1)] []
  unfold s_X4_dayOf at h
  refine g_aload_n E gdX4_dayOf_0 rfl 0 rfl ?_
  refine g_get (T := TX4) E fw_X4 32 (wC_32 g ad o) rfl 1 (by decide) w_252 rfl rfl gdX4_dayOf_1 ?_
  refine g_iload_n E gdX4_dayOf_4 rfl 1 rfl ?_
  obtain ⟨hi1, h⟩ := qIn_of h
  refine g_iald E 34 (wC_34 g ad o) (by decide) hi1 gdX4_dayOf_5 ?_
  obtain ⟨n2, e_n2, h⟩ := qNm_of h
  refine g_nmi e_n2 ?_
  exact g_iret E hQ (Option.some.inj h) rfl gdX4_dayOf_6
noncomputable def s_X5_homeOf (o : OO) (x1 : Int) : Option (Int) := qIn x1 40 (qNm (o.1 24 x1.toNat) (fun n2 => some n2))
set_option maxHeartbeats 4000000 in
set_option maxRecDepth 100000 in
theorem c_X5_homeOf (l : Launch) (g : GG) (ad : Nat → Nat) (o : OO) (x1 : Int) (v : Int) (h : s_X5_homeOf o x1 = some v) : CI l g yX5_homeOf cX5_homeOf 2 (some .int) 0 0 (wC g ad o) [.ref (ad 23), iv x1] v (wC g ad o) := by
  refine met_I (by decide) (Nat.le_of_ble_eq_true rfl) ?_
  intro X E hQ
  show Go X 0 (wC g ad o) [(0, .ref (ad 23)), (1, iv x1)] []
  unfold s_X5_homeOf at h
  refine g_aload_n E gdX5_homeOf_0 rfl 0 rfl ?_
  refine g_get (T := TX5) E fw_X5 23 (wC_23 g ad o) rfl 0 (by decide) w_210 rfl rfl gdX5_homeOf_1 ?_
  refine g_iload_n E gdX5_homeOf_4 rfl 1 rfl ?_
  obtain ⟨hi1, h⟩ := qIn_of h
  refine g_iald E 24 (wC_24 g ad o) (by decide) hi1 gdX5_homeOf_5 ?_
  obtain ⟨n2, e_n2, h⟩ := qNm_of h
  refine g_nmi e_n2 ?_
  exact g_iret E hQ (Option.some.inj h) rfl gdX5_homeOf_6
noncomputable def s_X4_partyOf (o : OO) (x1 : Int) : Option (Int) := qIn x1 24 (qNm (o.1 42 x1.toNat) (fun n2 => some n2))
set_option maxHeartbeats 4000000 in
set_option maxRecDepth 100000 in
theorem c_X4_partyOf (l : Launch) (g : GG) (ad : Nat → Nat) (o : OO) (x1 : Int) (v : Int) (h : s_X4_partyOf o x1 = some v) : CI l g yX4_partyOf cX4_partyOf 2 (some .int) 0 0 (wC g ad o) [.ref (ad 32), iv x1] v (wC g ad o) := by
  refine met_I (by decide) (Nat.le_of_ble_eq_true rfl) ?_
  intro X E hQ
  show Go X 0 (wC g ad o) [(0, .ref (ad 32)), (1, iv x1)] []
  unfold s_X4_partyOf at h
  refine g_aload_n E gdX4_partyOf_0 rfl 0 rfl ?_
  refine g_get (T := TX4) E fw_X4 32 (wC_32 g ad o) rfl 9 (by decide) w_260 rfl rfl gdX4_partyOf_1 ?_
  refine g_iload_n E gdX4_partyOf_4 rfl 1 rfl ?_
  obtain ⟨hi1, h⟩ := qIn_of h
  refine g_iald E 42 (wC_42 g ad o) (by decide) hi1 gdX4_partyOf_5 ?_
  obtain ⟨n2, e_n2, h⟩ := qNm_of h
  refine g_nmi e_n2 ?_
  exact g_iret E hQ (Option.some.inj h) rfl gdX4_partyOf_6
noncomputable def s_X3_steps (x0 : Int) (x1 : Int) : Option (Int) := qDv x0 8 (qDv x1 8 (qR ((x0 - jq x0 8 * 8) - (x1 - jq x1 8 * 8)) (qDv x0 8 (qDv x1 8 (qR ((jq x0 8) - (jq x1 8)) (some ((max ((x0 - jq x0 8 * 8) - (x1 - jq x1 8 * 8)) (-((x0 - jq x0 8 * 8) - (x1 - jq x1 8 * 8)))) + (max ((jq x0 8) - (jq x1 8)) (-((jq x0 8) - (jq x1 8)))))))))))
set_option maxHeartbeats 4000000 in
set_option maxRecDepth 100000 in
theorem c_X3_steps (l : Launch) (g : GG) (ws : va_W) (x0 : Int) (x1 : Int) (v : Int) (h : s_X3_steps x0 x1 = some v) : CI l g yX3_steps cX3_steps 2 (some .int) 1 21 ws [iv x0, iv x1] v ws := by
  refine met_I (by decide) (Nat.le_of_ble_eq_true rfl) ?_
  intro X E hQ
  show Go X 0 ws [(0, iv x0), (1, iv x1)] []
  unfold s_X3_steps at h
  refine g_iload_n E gdX3_steps_0 rfl 0 rfl ?_
  refine g_bipush E gdX3_steps_1 (by decide) ?_
  obtain ⟨hd1, h⟩ := qDv_of h
  refine g_irem E hd1 gdX3_steps_3 ?_
  refine g_iload_n E gdX3_steps_4 rfl 1 rfl ?_
  refine g_bipush E gdX3_steps_5 (by decide) ?_
  obtain ⟨hd2, h⟩ := qDv_of h
  refine g_irem E hd2 gdX3_steps_7 ?_
  refine g_isub E gdX3_steps_8 ?_
  obtain ⟨ha3, h⟩ := qR_of h
  refine g_mabs E ha3 w_835 w_836 w_91 w_837 (Nat.le_of_ble_eq_true rfl) (Nat.le_of_ble_eq_true rfl) gdX3_steps_9 ?_
  refine g_iload_n E gdX3_steps_12 rfl 0 rfl ?_
  refine g_bipush E gdX3_steps_13 (by decide) ?_
  obtain ⟨hd4, h⟩ := qDv_of h
  refine g_idiv E hd4 gdX3_steps_15 ?_
  refine g_iload_n E gdX3_steps_16 rfl 1 rfl ?_
  refine g_bipush E gdX3_steps_17 (by decide) ?_
  obtain ⟨hd5, h⟩ := qDv_of h
  refine g_idiv E hd5 gdX3_steps_19 ?_
  refine g_isub E gdX3_steps_20 ?_
  obtain ⟨ha6, h⟩ := qR_of h
  refine g_mabs E ha6 w_835 w_836 w_91 w_837 (Nat.le_of_ble_eq_true rfl) (Nat.le_of_ble_eq_true rfl) gdX3_steps_21 ?_
  refine g_iadd E gdX3_steps_24 ?_
  exact g_iret E hQ (Option.some.inj h) rfl gdX3_steps_25
noncomputable def s_X4_hourOf (o : OO) (x1 : Int) : Option (Int) := qIn x1 24 (qNm (o.1 44 x1.toNat) (fun n2 => some n2))
set_option maxHeartbeats 4000000 in
set_option maxRecDepth 100000 in
theorem c_X4_hourOf (l : Launch) (g : GG) (ad : Nat → Nat) (o : OO) (x1 : Int) (v : Int) (h : s_X4_hourOf o x1 = some v) : CI l g yX4_hourOf cX4_hourOf 2 (some .int) 0 0 (wC g ad o) [.ref (ad 32), iv x1] v (wC g ad o) := by
  refine met_I (by decide) (Nat.le_of_ble_eq_true rfl) ?_
  intro X E hQ
  show Go X 0 (wC g ad o) [(0, .ref (ad 32)), (1, iv x1)] []
  unfold s_X4_hourOf at h
  refine g_aload_n E gdX4_hourOf_0 rfl 0 rfl ?_
  refine g_get (T := TX4) E fw_X4 32 (wC_32 g ad o) rfl 11 (by decide) w_262 rfl rfl gdX4_hourOf_1 ?_
  refine g_iload_n E gdX4_hourOf_4 rfl 1 rfl ?_
  obtain ⟨hi1, h⟩ := qIn_of h
  refine g_iald E 44 (wC_44 g ad o) (by decide) hi1 gdX4_hourOf_5 ?_
  obtain ⟨n2, e_n2, h⟩ := qNm_of h
  refine g_nmi e_n2 ?_
  exact g_iret E hQ (Option.some.inj h) rfl gdX4_hourOf_6
noncomputable def b_X5_canCome_43 (o : OO) (y0 : Int) : Option (Int) := qZ y0 (some y0)
noncomputable def b_X5_canCome_38 (o : OO) : Option (Int) := b_X5_canCome_43 o 1
noncomputable def b_X5_canCome_42 (o : OO) : Option (Int) := b_X5_canCome_43 o 0
noncomputable def b_X5_canCome_15 (o : OO) (x1 : Int) (x3 : Int) : Option (Int) := qIn x1 40 (qNm (o.1 25 x1.toNat) (fun n2 => qEq n2 (-9) (b_X5_canCome_38 o) (qLt x3 9 (b_X5_canCome_38 o) (qLt 16 x3 (b_X5_canCome_38 o) (b_X5_canCome_42 o)))))
noncomputable def s_X5_canCome (o : OO) (x1 : Int) (x2 : Int) (x3 : Int) : Option (Int) := qIn x1 40 (qNm (o.1 26 x1.toNat) (fun n4 => qEq n4 0 (qLt 6 x2 (b_X5_canCome_42 o) (b_X5_canCome_15 o x1 x3)) (b_X5_canCome_15 o x1 x3)))
set_option maxHeartbeats 4000000 in
set_option maxRecDepth 100000 in
theorem c_X5_canCome (l : Launch) (g : GG) (ad : Nat → Nat) (o : OO) (x1 : Int) (x2 : Int) (x3 : Int) (v : Int) (h : s_X5_canCome o x1 x2 x3 = some v) : CI l g yX5_canCome cX5_canCome 4 (some .boolean) 0 0 (wC g ad o) [.ref (ad 23), iv x1, iv x2, iv x3] v (wC g ad o) := by
  refine met_I (by decide) (Nat.le_of_ble_eq_true rfl) ?_
  intro X E hQ
  show Go X 0 (wC g ad o) [(0, .ref (ad 23)), (1, iv x1), (2, iv x2), (3, iv x3)] []
  have j43 : ∀ (y0 : Int), b_X5_canCome_43 o y0 = some v → Go X 43 (wC g ad o) [] [iv y0] := by
    intro y0 h
    unfold b_X5_canCome_43 at h
    obtain ⟨hz, h⟩ := qZ_of h
    exact g_zret E hQ hz (Option.some.inj h) rfl gdX5_canCome_43
  have j38 : b_X5_canCome_38 o = some v → Go X 38 (wC g ad o) [] [] := by
    intro h
    unfold b_X5_canCome_38 at h
    refine g_iconst E gdX5_canCome_38 ?_
    refine g_goto E 43 gdX5_canCome_39 (by decide) ?_
    exact j43 1 h
  have j42 : b_X5_canCome_42 o = some v → Go X 42 (wC g ad o) [] [] := by
    intro h
    unfold b_X5_canCome_42 at h
    refine g_iconst E gdX5_canCome_42 ?_
    exact j43 0 h
  have j15 : ∀ (x1 : Int) (x3 : Int), b_X5_canCome_15 o x1 x3 = some v → Go X 15 (wC g ad o) [(0, .ref (ad 23)), (1, iv x1), (3, iv x3)] [] := by
    intro x1 x3 h
    unfold b_X5_canCome_15 at h
    refine g_aload_n E gdX5_canCome_15 rfl 0 rfl ?_
    refine g_get (T := TX5) E fw_X5 23 (wC_23 g ad o) rfl 1 (by decide) w_211 rfl rfl gdX5_canCome_16 ?_
    refine g_iload_n E gdX5_canCome_19 rfl 1 rfl ?_
    obtain ⟨hi1, h⟩ := qIn_of h
    refine g_iald E 25 (wC_25 g ad o) (by decide) hi1 gdX5_canCome_20 ?_
    obtain ⟨n2, e_n2, h⟩ := qNm_of h
    refine g_nmi e_n2 ?_
    refine g_bipush E gdX5_canCome_21 (by decide) ?_
    refine g_icmp_eq E 38 gdX5_canCome_23 (by decide) h (fun h => ?_) (fun h => ?_)
    ·
      refine g_sub E [] rfl ?_
      exact j38  h
    ·
      refine g_iload_n E gdX5_canCome_26 rfl 2 rfl ?_
      refine g_bipush E gdX5_canCome_27 (by decide) ?_
      refine g_icmp_lt E 38 gdX5_canCome_29 (by decide) h (fun h => ?_) (fun h => ?_)
      ·
        refine g_sub E [] rfl ?_
        exact j38  h
      ·
        refine g_iload_n E gdX5_canCome_32 rfl 2 rfl ?_
        refine g_bipush E gdX5_canCome_33 (by decide) ?_
        refine g_icmp_le E 42 gdX5_canCome_35 (by decide) h (fun h => ?_) (fun h => ?_)
        ·
          refine g_sub E [] rfl ?_
          exact j42  h
        ·
          refine g_sub E [] rfl ?_
          exact j38  h
  unfold s_X5_canCome at h
  refine g_aload_n E gdX5_canCome_0 rfl 0 rfl ?_
  refine g_get (T := TX5) E fw_X5 23 (wC_23 g ad o) rfl 2 (by decide) w_212 rfl rfl gdX5_canCome_1 ?_
  refine g_iload_n E gdX5_canCome_4 rfl 1 rfl ?_
  obtain ⟨hi3, h⟩ := qIn_of h
  refine g_zald E 26 (wC_26 g ad o) (by decide) hi3 gdX5_canCome_5 ?_
  obtain ⟨n4, e_n4, h⟩ := qNm_of h
  refine g_nmi e_n4 ?_
  refine g_if_ne E 15 gdX5_canCome_6 (by decide) h (fun h => ?_) (fun h => ?_)
  ·
    refine g_sub E [0, 1, 3] rfl ?_
    exact j15 x1 x3 h
  ·
    refine g_iload_n E gdX5_canCome_9 rfl 2 rfl ?_
    refine g_bipush E gdX5_canCome_10 (by decide) ?_
    refine g_icmp_gt E 42 gdX5_canCome_12 (by decide) h (fun h => ?_) (fun h => ?_)
    ·
      refine g_sub E [] rfl ?_
      exact j42  h
    ·
      refine g_sub E [0, 1, 3] rfl ?_
      exact j15 x1 x3 h
noncomputable def b_X11_couldCome_87 (o : OO) (x2 : Int) : Option (Int) := some x2
noncomputable def b_X11_couldCome_81 (o : OO) (x1 : Int) (x2 : Int) (x3 : Int) : Option ((Int × Int) ⊕ ((Int))) := some (.inl (x2, x3 + 1))
noncomputable def l_X11_couldCome_4 (o : OO) (x1 : Int) (x2 : Int) (x3 : Int) : Option ((Int × Int) ⊕ ((Int))) := qB (s_X5_number o) (fun r1 => qLt x3 r1 (qB (s_X5_homeOf o x3) (fun r3 => qEq r3 (-9) (b_X11_couldCome_81 o x1 x2 x3) (qB (s_X1_cellOfOne o r3) (fun r5 => qB (s_X4_partyOf o x1) (fun r7 => qB (s_X3_steps r5 r7) (fun r9 => qB (s_X4_hourOf o x1) (fun r11 => qB (s_X5_canCome o x3 r9 r11) (fun r13 => qEq r13 0 (b_X11_couldCome_81 o x1 x2 x3) (b_X11_couldCome_81 o x1 (x2 + 1) x3))))))))) (some (.inr (x2))))
noncomputable def e_X11_couldCome_4 (o : OO) (x1 : Int) (x2 : Int) (x3 : Int) : Option (Int) := qB (loopW (fun s => l_X11_couldCome_4 o x1 s.1 s.2) (x2, x3)) (fun r => b_X11_couldCome_87 o r)
noncomputable def s_X11_couldCome (o : OO) (x1 : Int) : Option (Int) := e_X11_couldCome_4 o x1 0 0
set_option maxHeartbeats 4000000 in
set_option maxRecDepth 100000 in
theorem c_X11_couldCome (l : Launch) (g : GG) (ad : Nat → Nat) (o : OO) (x1 : Int) (v : Int) (h : s_X11_couldCome o x1 = some v) : CI l g yX11_couldCome cX11_couldCome 6 (some .int) 2 42 (wC g ad o) [.ref (ad 0), iv x1] v (wC g ad o) := by
  refine met_I (by decide) (Nat.le_of_ble_eq_true rfl) ?_
  intro X E hQ
  show Go X 0 (wC g ad o) [(0, .ref (ad 0)), (1, iv x1)] []
  have j87 : ∀ (x2 : Int), b_X11_couldCome_87 o x2 = some v → Go X 87 (wC g ad o) [(2, iv x2)] [] := by
    intro x2 h
    unfold b_X11_couldCome_87 at h
    refine g_iload_n E gdX11_couldCome_87 rfl 0 rfl ?_
    exact g_iret E hQ (Option.some.inj h) rfl gdX11_couldCome_88
  have j81 : ∀ (x1 : Int) (x2 : Int) (x3 : Int) (v : (Int × Int) ⊕ ((Int))), b_X11_couldCome_81 o x1 x2 x3 = some v → (∀ (x2 : Int) (x3 : Int), v = .inl (x2, x3) → Go X 4 (wC g ad o) [(0, .ref (ad 0)), (1, iv x1), (2, iv x2), (3, iv x3)] []) → (∀ (x2 : Int), v = .inr (x2) → Go X 87 (wC g ad o) [(2, iv x2)] []) → Go X 81 (wC g ad o) [(0, .ref (ad 0)), (1, iv x1), (2, iv x2), (3, iv x3)] [] := by
    intro x1 x2 x3 v h k0 k1
    unfold b_X11_couldCome_81 at h
    refine g_iinc E [(3, iv (x3 + 1)), (0, .ref (ad 0)), (1, iv x1), (2, iv x2)] gdX11_couldCome_81 3 rfl (by decide) rfl ?_
    refine g_goto E 4 gdX11_couldCome_84 (by decide) ?_
    refine g_sub E [1, 2, 3, 0] rfl ?_
    exact k0 x2 (x3 + 1) (Option.some.inj h).symm
  have l4 : ∀ (x1 : Int) (r : (Int)) (s0 : Int × Int), loopW (fun s => l_X11_couldCome_4 o x1 s.1 s.2) s0 = some r → (∀ (x2 : Int), r = (x2) → Go X 87 (wC g ad o) [(2, iv x2)] []) → Go X 4 (wC g ad o) [(0, .ref (ad 0)), (1, iv x1), (2, iv s0.1), (3, iv s0.2)] [] := by
    intro x1 r s0 h k1
    refine loop_rule (Head := fun s0 => Go X 4 (wC g ad o) [(0, .ref (ad 0)), (1, iv x1), (2, iv s0.1), (3, iv s0.2)] []) h ?_
    intro s v h kk kx
    obtain ⟨x2, x3⟩ := s
    have h : l_X11_couldCome_4 o x1 x2 x3 = some v := h
    have k0 : ∀ (x2 : Int) (x3 : Int), v = .inl (x2, x3) → Go X 4 (wC g ad o) [(0, .ref (ad 0)), (1, iv x1), (2, iv x2), (3, iv x3)] [] := fun x2 x3 e => kk (x2, x3) e
    have k1 : ∀ (x2 : Int), v = .inr (x2) → Go X 87 (wC g ad o) [(2, iv x2)] [] := fun x2 e => k1 x2 (kx _ e).symm
    unfold l_X11_couldCome_4 at h
    refine g_iload_n E gdX11_couldCome_4 rfl 3 rfl ?_
    refine g_aload_n E gdX11_couldCome_5 rfl 0 rfl ?_
    refine g_get (T := TX11) E fw_X11 0 (wC_0 g ad o) rfl 4 (by decide) w_462 rfl rfl gdX11_couldCome_6 ?_
    obtain ⟨r1, hc2, h⟩ := qB_of h
    refine g_Vi (r := r1) (As := []) (rest := [iv x3]) (w := wC g ad o) E (c_X5_number l g ad o r1 hc2) okm_X5_number okw_X5_number w_703 rfl (wC_23 g ad o) rfl rfl (Nat.le_of_ble_eq_true rfl) ⟨Nat.le_of_ble_eq_true rfl, Nat.le_of_ble_eq_true rfl⟩ gdX11_couldCome_9 ?_
    refine g_icmp_ge E 87 gdX11_couldCome_12 (by decide) h (fun h => ?_) (fun h => ?_)
    ·
      refine g_sub E [2] rfl ?_
      exact k1 x2 (Option.some.inj h).symm
    ·
      refine g_aload_n E gdX11_couldCome_15 rfl 0 rfl ?_
      refine g_get (T := TX11) E fw_X11 0 (wC_0 g ad o) rfl 4 (by decide) w_462 rfl rfl gdX11_couldCome_16 ?_
      refine g_iload_n E gdX11_couldCome_19 rfl 3 rfl ?_
      obtain ⟨r3, hc4, h⟩ := qB_of h
      refine g_Vi (r := r3) (As := [iv x3]) (rest := []) (w := wC g ad o) E (c_X5_homeOf l g ad o x3 r3 hc4) okm_X5_homeOf okw_X5_homeOf w_987 rfl (wC_23 g ad o) rfl rfl (Nat.le_of_ble_eq_true rfl) ⟨Nat.le_of_ble_eq_true rfl, Nat.le_of_ble_eq_true rfl⟩ gdX11_couldCome_20 ?_
      refine g_istore E [(4, iv r3), (0, .ref (ad 0)), (1, iv x1), (2, iv x2), (3, iv x3)] gdX11_couldCome_23 (by decide) rfl ?_
      refine g_iload E gdX11_couldCome_25 0 rfl ?_
      refine g_bipush E gdX11_couldCome_27 (by decide) ?_
      refine g_icmp_ne E 35 gdX11_couldCome_29 (by decide) h (fun h => ?_) (fun h => ?_)
      ·
        refine g_aload_n E gdX11_couldCome_35 rfl 1 rfl ?_
        refine g_get (T := TX11) E fw_X11 0 (wC_0 g ad o) rfl 3 (by decide) w_461 rfl rfl gdX11_couldCome_36 ?_
        refine g_iload E gdX11_couldCome_39 0 rfl ?_
        obtain ⟨r5, hc6, h⟩ := qB_of h
        refine g_Vi (r := r5) (As := [iv r3]) (rest := []) (w := wC g ad o) E (c_X1_cellOfOne l g ad o r3 r5 hc6) okm_X1_cellOfOne okw_X1_cellOfOne w_941 rfl (wC_10 g ad o) rfl rfl (Nat.le_of_ble_eq_true rfl) ⟨Nat.le_of_ble_eq_true rfl, Nat.le_of_ble_eq_true rfl⟩ gdX11_couldCome_41 ?_
        refine g_aload_n E gdX11_couldCome_44 rfl 1 rfl ?_
        refine g_get (T := TX11) E fw_X11 0 (wC_0 g ad o) rfl 6 (by decide) w_464 rfl rfl gdX11_couldCome_45 ?_
        refine g_iload_n E gdX11_couldCome_48 rfl 2 rfl ?_
        obtain ⟨r7, hc8, h⟩ := qB_of h
        refine g_Vi (r := r7) (As := [iv x1]) (rest := [iv r5]) (w := wC g ad o) E (c_X4_partyOf l g ad o x1 r7 hc8) okm_X4_partyOf okw_X4_partyOf w_1027 rfl (wC_32 g ad o) rfl rfl (Nat.le_of_ble_eq_true rfl) ⟨Nat.le_of_ble_eq_true rfl, Nat.le_of_ble_eq_true rfl⟩ gdX11_couldCome_49 ?_
        obtain ⟨r9, hc10, h⟩ := qB_of h
        refine g_Si (r := r9) (As := [iv r5, iv r7]) (rest := []) (w := wC g ad o) E (c_X3_steps l g (wC g ad o) r5 r7 r9 hc10) okm_X3_steps w_1036 w_1035 rfl rfl (Nat.le_of_ble_eq_true rfl) ⟨Nat.le_of_ble_eq_true rfl, Nat.le_of_ble_eq_true rfl⟩ gdX11_couldCome_52 ?_
        refine g_istore E [(5, iv r9), (4, iv r3), (0, .ref (ad 0)), (1, iv x1), (2, iv x2), (3, iv x3)] gdX11_couldCome_55 (by decide) rfl ?_
        refine g_aload_n E gdX11_couldCome_57 rfl 2 rfl ?_
        refine g_get (T := TX11) E fw_X11 0 (wC_0 g ad o) rfl 4 (by decide) w_462 rfl rfl gdX11_couldCome_58 ?_
        refine g_iload_n E gdX11_couldCome_61 rfl 5 rfl ?_
        refine g_iload E gdX11_couldCome_62 0 rfl ?_
        refine g_aload_n E gdX11_couldCome_64 rfl 2 rfl ?_
        refine g_get (T := TX11) E fw_X11 0 (wC_0 g ad o) rfl 6 (by decide) w_464 rfl rfl gdX11_couldCome_65 ?_
        refine g_iload_n E gdX11_couldCome_68 rfl 3 rfl ?_
        obtain ⟨r11, hc12, h⟩ := qB_of h
        refine g_Vi (r := r11) (As := [iv x1]) (rest := [iv r9, iv x3, .ref (ad 23)]) (w := wC g ad o) E (c_X4_hourOf l g ad o x1 r11 hc12) okm_X4_hourOf okw_X4_hourOf w_1038 rfl (wC_32 g ad o) rfl rfl (Nat.le_of_ble_eq_true rfl) ⟨Nat.le_of_ble_eq_true rfl, Nat.le_of_ble_eq_true rfl⟩ gdX11_couldCome_69 ?_
        obtain ⟨r13, hc14, h⟩ := qB_of h
        refine g_Vi (r := r13) (As := [iv x3, iv r9, iv r11]) (rest := []) (w := wC g ad o) E (c_X5_canCome l g ad o x3 r9 r11 r13 hc14) okm_X5_canCome okw_X5_canCome w_1042 rfl (wC_23 g ad o) rfl rfl (Nat.le_of_ble_eq_true rfl) ⟨Nat.le_of_ble_eq_true rfl, Nat.le_of_ble_eq_true rfl⟩ gdX11_couldCome_72 ?_
        refine g_if_eq E 81 gdX11_couldCome_75 (by decide) h (fun h => ?_) (fun h => ?_)
        ·
          refine g_sub E [2, 3, 4, 5] rfl ?_
          exact j81 x1 x2 x3 v h k0 k1
        ·
          refine g_iinc E [(2, iv (x2 + 1)), (5, iv r9), (4, iv r3), (0, .ref (ad 0)), (1, iv x1), (3, iv x3)] gdX11_couldCome_78 4 rfl (by decide) rfl ?_
          refine g_sub E [3, 4, 0, 5] rfl ?_
          exact j81 x1 (x2 + 1) x3 v h k0 k1
      ·
        refine g_goto E 81 gdX11_couldCome_32 (by decide) ?_
        refine g_sub E [1, 2, 3, 4] rfl ?_
        exact j81 x1 x2 x3 v h k0 k1
  have j4 : ∀ (x1 : Int) (x2 : Int) (x3 : Int), e_X11_couldCome_4 o x1 x2 x3 = some v → Go X 4 (wC g ad o) [(0, .ref (ad 0)), (1, iv x1), (2, iv x2), (3, iv x3)] [] := by
    intro x1 x2 x3 h
    unfold e_X11_couldCome_4 at h
    obtain ⟨r, hr, h⟩ := qB_of h
    refine l4 x1 r _ hr ?_
    ·
      intro u0 e
      have e := e.symm
      subst e
      have h : b_X11_couldCome_87 o u0 = some v := h
      exact j87 u0 h
  unfold s_X11_couldCome at h
  refine g_iconst E gdX11_couldCome_0 ?_
  refine g_istore_n E [(2, iv 0), (0, .ref (ad 0)), (1, iv x1)] gdX11_couldCome_1 rfl (by decide) rfl ?_
  refine g_iconst E gdX11_couldCome_2 ?_
  refine g_istore_n E [(3, iv 0), (2, iv 0), (0, .ref (ad 0)), (1, iv x1)] gdX11_couldCome_3 rfl (by decide) rfl ?_
  refine g_sub E [2, 3, 1, 0] rfl ?_
  exact j4 x1 0 0 h
noncomputable def b_X11_isVoidHearing_48 (o : OO) (y0 : Int) : Option (Int) := qZ y0 (some y0)
noncomputable def s_X11_isVoidHearing (o : OO) (x1 : Int) : Option (Int) := qB (s_X4_dayOf o x1) (fun r1 => qB (s_X4_dateOf o x1) (fun r3 => qB (s_X7_valueFor o 7 r1 r1) (fun r5 => qLt (r3 - r1) r5 (qZ 1 (some 1)) (qB (s_X11_couldCome o x1) (fun r7 => qEq r7 0 (b_X11_isVoidHearing_48 o 1) (b_X11_isVoidHearing_48 o 0))))))
set_option maxHeartbeats 4000000 in
set_option maxRecDepth 100000 in
theorem c_X11_isVoidHearing (l : Launch) (g : GG) (ad : Nat → Nat) (o : OO) (x1 : Int) (v : Int) (h : s_X11_isVoidHearing o x1 = some v) : CI l g yX11_isVoidHearing cX11_isVoidHearing 3 (some .boolean) 3 67 (wC g ad o) [.ref (ad 0), iv x1] v (wC g ad o) := by
  refine met_I (by decide) (Nat.le_of_ble_eq_true rfl) ?_
  intro X E hQ
  show Go X 0 (wC g ad o) [(0, .ref (ad 0)), (1, iv x1)] []
  have j48 : ∀ (y0 : Int), b_X11_isVoidHearing_48 o y0 = some v → Go X 48 (wC g ad o) [] [iv y0] := by
    intro y0 h
    unfold b_X11_isVoidHearing_48 at h
    obtain ⟨hz, h⟩ := qZ_of h
    exact g_zret E hQ hz (Option.some.inj h) rfl gdX11_isVoidHearing_48
  unfold s_X11_isVoidHearing at h
  refine g_aload_n E gdX11_isVoidHearing_0 rfl 0 rfl ?_
  refine g_get (T := TX11) E fw_X11 0 (wC_0 g ad o) rfl 6 (by decide) w_464 rfl rfl gdX11_isVoidHearing_1 ?_
  refine g_iload_n E gdX11_isVoidHearing_4 rfl 1 rfl ?_
  obtain ⟨r1, hc2, h⟩ := qB_of h
  refine g_Vi (r := r1) (As := [iv x1]) (rest := []) (w := wC g ad o) E (c_X4_dayOf l g ad o x1 r1 hc2) okm_X4_dayOf okw_X4_dayOf w_1234 rfl (wC_32 g ad o) rfl rfl (Nat.le_of_ble_eq_true rfl) ⟨Nat.le_of_ble_eq_true rfl, Nat.le_of_ble_eq_true rfl⟩ gdX11_isVoidHearing_5 ?_
  refine g_istore_n E [(2, iv r1), (0, .ref (ad 0)), (1, iv x1)] gdX11_isVoidHearing_8 rfl (by decide) rfl ?_
  refine g_aload_n E gdX11_isVoidHearing_9 rfl 1 rfl ?_
  refine g_get (T := TX11) E fw_X11 0 (wC_0 g ad o) rfl 6 (by decide) w_464 rfl rfl gdX11_isVoidHearing_10 ?_
  refine g_iload_n E gdX11_isVoidHearing_13 rfl 2 rfl ?_
  obtain ⟨r3, hc4, h⟩ := qB_of h
  refine g_Vi (r := r3) (As := [iv x1]) (rest := []) (w := wC g ad o) E (c_X4_dateOf l g ad o x1 r3 hc4) okm_X4_dateOf okw_X4_dateOf w_1238 rfl (wC_32 g ad o) rfl rfl (Nat.le_of_ble_eq_true rfl) ⟨Nat.le_of_ble_eq_true rfl, Nat.le_of_ble_eq_true rfl⟩ gdX11_isVoidHearing_14 ?_
  refine g_iload_n E gdX11_isVoidHearing_17 rfl 0 rfl ?_
  refine g_isub E gdX11_isVoidHearing_18 ?_
  refine g_aload_n E gdX11_isVoidHearing_19 rfl 1 rfl ?_
  refine g_get (T := TX11) E fw_X11 0 (wC_0 g ad o) rfl 5 (by decide) w_463 rfl rfl gdX11_isVoidHearing_20 ?_
  refine g_bipush E gdX11_isVoidHearing_23 (by decide) ?_
  refine g_iload_n E gdX11_isVoidHearing_25 rfl 0 rfl ?_
  refine g_iload_n E gdX11_isVoidHearing_26 rfl 0 rfl ?_
  obtain ⟨r5, hc6, h⟩ := qB_of h
  refine g_Vi (r := r5) (As := [iv 7, iv r1, iv r1]) (rest := [iv (r3 - r1)]) (w := wC g ad o) E (c_X7_valueFor l g ad o 7 r1 r1 r5 hc6) okm_X7_valueFor okw_X7_valueFor w_771 rfl (wC_28 g ad o) rfl rfl (Nat.le_of_ble_eq_true rfl) ⟨Nat.le_of_ble_eq_true rfl, Nat.le_of_ble_eq_true rfl⟩ gdX11_isVoidHearing_27 ?_
  refine g_icmp_ge E 35 gdX11_isVoidHearing_30 (by decide) h (fun h => ?_) (fun h => ?_)
  ·
    refine g_aload_n E gdX11_isVoidHearing_35 rfl 1 rfl ?_
    refine g_iload_n E gdX11_isVoidHearing_36 rfl 2 rfl ?_
    obtain ⟨r7, hc8, h⟩ := qB_of h
    refine g_Vi (r := r7) (As := [iv x1]) (rest := []) (w := wC g ad o) E (c_X11_couldCome l g ad o x1 r7 hc8) okm_X11_couldCome okw_X11_couldCome w_1031 rfl (wC_0 g ad o) rfl rfl (Nat.le_of_ble_eq_true rfl) ⟨Nat.le_of_ble_eq_true rfl, Nat.le_of_ble_eq_true rfl⟩ gdX11_isVoidHearing_37 ?_
    refine g_if_ne E 47 gdX11_isVoidHearing_40 (by decide) h (fun h => ?_) (fun h => ?_)
    ·
      refine g_iconst E gdX11_isVoidHearing_47 ?_
      refine g_sub E [] rfl ?_
      exact j48 0 h
    ·
      refine g_iconst E gdX11_isVoidHearing_43 ?_
      refine g_goto E 48 gdX11_isVoidHearing_44 (by decide) ?_
      refine g_sub E [] rfl ?_
      exact j48 1 h
  ·
    refine g_iconst E gdX11_isVoidHearing_33 ?_
    obtain ⟨hz, h⟩ := qZ_of h
    exact g_zret E hQ hz (Option.some.inj h) rfl gdX11_isVoidHearing_34
noncomputable def s_X4_hangsOn (o : OO) (x1 : Int) : Option (Int) := qIn x1 24 (qNm (o.1 35 x1.toNat) (fun n2 => some n2))
set_option maxHeartbeats 4000000 in
set_option maxRecDepth 100000 in
theorem c_X4_hangsOn (l : Launch) (g : GG) (ad : Nat → Nat) (o : OO) (x1 : Int) (v : Int) (h : s_X4_hangsOn o x1 = some v) : CI l g yX4_hangsOn cX4_hangsOn 2 (some .int) 0 0 (wC g ad o) [.ref (ad 32), iv x1] v (wC g ad o) := by
  refine met_I (by decide) (Nat.le_of_ble_eq_true rfl) ?_
  intro X E hQ
  show Go X 0 (wC g ad o) [(0, .ref (ad 32)), (1, iv x1)] []
  unfold s_X4_hangsOn at h
  refine g_aload_n E gdX4_hangsOn_0 rfl 0 rfl ?_
  refine g_get (T := TX4) E fw_X4 32 (wC_32 g ad o) rfl 2 (by decide) w_253 rfl rfl gdX4_hangsOn_1 ?_
  refine g_iload_n E gdX4_hangsOn_4 rfl 1 rfl ?_
  obtain ⟨hi1, h⟩ := qIn_of h
  refine g_iald E 35 (wC_35 g ad o) (by decide) hi1 gdX4_hangsOn_5 ?_
  obtain ⟨n2, e_n2, h⟩ := qNm_of h
  refine g_nmi e_n2 ?_
  exact g_iret E hQ (Option.some.inj h) rfl gdX4_hangsOn_6
noncomputable def b_X11_isVoidTaking_75 (o : OO) : Option (Int) := qZ 0 (some 0)
noncomputable def b_X11_isVoidTaking_83 (o : OO) : Option (Int) := qZ 1 (some 1)
noncomputable def b_X11_isVoidTaking_77 (o : OO) (x1 : Int) (x2 : Int) : Option ((Int) ⊕ ((Unit) ⊕ (Unit))) := some (.inl (x2 + 1))
noncomputable def l_X11_isVoidTaking_2 (o : OO) (x1 : Int) (x2 : Int) : Option ((Int) ⊕ ((Unit) ⊕ (Unit))) := qB (s_X4_number o) (fun r1 => qLt x2 r1 (qB (s_X4_kindOf o x2) (fun r3 => qEq r3 6 (qB (s_X4_hangsOn o x2) (fun r5 => qB (s_X4_hangsOn o x1) (fun r7 => qEq r5 r7 (qB (s_X4_dateOf o x2) (fun r9 => qB (s_X4_dayOf o x1) (fun r11 => qLt r11 r9 (b_X11_isVoidTaking_77 o x1 x2) (qB (s_X11_isVoidHearing o x2) (fun r13 => qEq r13 0 (some (.inr (.inl ()))) (b_X11_isVoidTaking_77 o x1 x2)))))) (b_X11_isVoidTaking_77 o x1 x2)))) (b_X11_isVoidTaking_77 o x1 x2))) (some (.inr (.inr ()))))
noncomputable def e_X11_isVoidTaking_2 (o : OO) (x1 : Int) (x2 : Int) : Option (Int) := qB (loopW (fun s => l_X11_isVoidTaking_2 o x1 s) x2) (Sum.elim (fun _ => b_X11_isVoidTaking_75 o) (fun _ => b_X11_isVoidTaking_83 o))
noncomputable def s_X11_isVoidTaking (o : OO) (x1 : Int) : Option (Int) := e_X11_isVoidTaking_2 o x1 0
set_option maxHeartbeats 4000000 in
set_option maxRecDepth 100000 in
theorem c_X11_isVoidTaking (l : Launch) (g : GG) (ad : Nat → Nat) (o : OO) (x1 : Int) (v : Int) (h : s_X11_isVoidTaking o x1 = some v) : CI l g yX11_isVoidTaking cX11_isVoidTaking 3 (some .boolean) 4 89 (wC g ad o) [.ref (ad 0), iv x1] v (wC g ad o) := by
  refine met_I (by decide) (Nat.le_of_ble_eq_true rfl) ?_
  intro X E hQ
  show Go X 0 (wC g ad o) [(0, .ref (ad 0)), (1, iv x1)] []
  have j75 : b_X11_isVoidTaking_75 o = some v → Go X 75 (wC g ad o) [] [] := by
    intro h
    unfold b_X11_isVoidTaking_75 at h
    refine g_iconst E gdX11_isVoidTaking_75 ?_
    obtain ⟨hz, h⟩ := qZ_of h
    exact g_zret E hQ hz (Option.some.inj h) rfl gdX11_isVoidTaking_76
  have j83 : b_X11_isVoidTaking_83 o = some v → Go X 83 (wC g ad o) [] [] := by
    intro h
    unfold b_X11_isVoidTaking_83 at h
    refine g_iconst E gdX11_isVoidTaking_83 ?_
    obtain ⟨hz, h⟩ := qZ_of h
    exact g_zret E hQ hz (Option.some.inj h) rfl gdX11_isVoidTaking_84
  have j77 : ∀ (x1 : Int) (x2 : Int) (v : (Int) ⊕ ((Unit) ⊕ (Unit))), b_X11_isVoidTaking_77 o x1 x2 = some v → (∀ (x2 : Int), v = .inl x2 → Go X 2 (wC g ad o) [(0, .ref (ad 0)), (1, iv x1), (2, iv x2)] []) → (v = .inr (.inl ()) → Go X 75 (wC g ad o) [] []) → (v = .inr (.inr ()) → Go X 83 (wC g ad o) [] []) → Go X 77 (wC g ad o) [(0, .ref (ad 0)), (1, iv x1), (2, iv x2)] [] := by
    intro x1 x2 v h k0 k1 k2
    unfold b_X11_isVoidTaking_77 at h
    refine g_iinc E [(2, iv (x2 + 1)), (0, .ref (ad 0)), (1, iv x1)] gdX11_isVoidTaking_77 2 rfl (by decide) rfl ?_
    refine g_goto E 2 gdX11_isVoidTaking_80 (by decide) ?_
    refine g_sub E [1, 2, 0] rfl ?_
    exact k0 (x2 + 1) (Option.some.inj h).symm
  have l2 : ∀ (x1 : Int) (r : (Unit) ⊕ (Unit)) (s0 : Int), loopW (fun s => l_X11_isVoidTaking_2 o x1 s) s0 = some r → (r = (.inl ()) → Go X 75 (wC g ad o) [] []) → (r = (.inr ()) → Go X 83 (wC g ad o) [] []) → Go X 2 (wC g ad o) [(0, .ref (ad 0)), (1, iv x1), (2, iv s0)] [] := by
    intro x1 r s0 h k1 k2
    refine loop_rule (Head := fun s0 => Go X 2 (wC g ad o) [(0, .ref (ad 0)), (1, iv x1), (2, iv s0)] []) h ?_
    intro s v h kk kx
    obtain ⟨x2, hs⟩ : ∃ q, q = s := ⟨_, rfl⟩
    subst hs
    have h : l_X11_isVoidTaking_2 o x1 x2 = some v := h
    have k0 : ∀ (x2 : Int), v = .inl x2 → Go X 2 (wC g ad o) [(0, .ref (ad 0)), (1, iv x1), (2, iv x2)] [] := fun x2 e => kk x2 e
    have k1 : v = .inr (.inl ()) → Go X 75 (wC g ad o) [] [] := fun e => k1 (kx _ e).symm
    have k2 : v = .inr (.inr ()) → Go X 83 (wC g ad o) [] [] := fun e => k2 (kx _ e).symm
    unfold l_X11_isVoidTaking_2 at h
    refine g_iload_n E gdX11_isVoidTaking_2 rfl 2 rfl ?_
    refine g_aload_n E gdX11_isVoidTaking_3 rfl 0 rfl ?_
    refine g_get (T := TX11) E fw_X11 0 (wC_0 g ad o) rfl 6 (by decide) w_464 rfl rfl gdX11_isVoidTaking_4 ?_
    obtain ⟨r1, hc2, h⟩ := qB_of h
    refine g_Vi (r := r1) (As := []) (rest := [iv x2]) (w := wC g ad o) E (c_X4_number l g ad o r1 hc2) okm_X4_number okw_X4_number w_790 rfl (wC_32 g ad o) rfl rfl (Nat.le_of_ble_eq_true rfl) ⟨Nat.le_of_ble_eq_true rfl, Nat.le_of_ble_eq_true rfl⟩ gdX11_isVoidTaking_7 ?_
    refine g_icmp_ge E 83 gdX11_isVoidTaking_10 (by decide) h (fun h => ?_) (fun h => ?_)
    ·
      refine g_sub E [] rfl ?_
      exact k2  (Option.some.inj h).symm
    ·
      refine g_aload_n E gdX11_isVoidTaking_13 rfl 0 rfl ?_
      refine g_get (T := TX11) E fw_X11 0 (wC_0 g ad o) rfl 6 (by decide) w_464 rfl rfl gdX11_isVoidTaking_14 ?_
      refine g_iload_n E gdX11_isVoidTaking_17 rfl 2 rfl ?_
      obtain ⟨r3, hc4, h⟩ := qB_of h
      refine g_Vi (r := r3) (As := [iv x2]) (rest := []) (w := wC g ad o) E (c_X4_kindOf l g ad o x2 r3 hc4) okm_X4_kindOf okw_X4_kindOf w_979 rfl (wC_32 g ad o) rfl rfl (Nat.le_of_ble_eq_true rfl) ⟨Nat.le_of_ble_eq_true rfl, Nat.le_of_ble_eq_true rfl⟩ gdX11_isVoidTaking_18 ?_
      refine g_bipush E gdX11_isVoidTaking_21 (by decide) ?_
      refine g_icmp_ne E 77 gdX11_isVoidTaking_23 (by decide) h (fun h => ?_) (fun h => ?_)
      ·
        exact j77 x1 x2 v h k0 k1 k2
      ·
        refine g_aload_n E gdX11_isVoidTaking_26 rfl 0 rfl ?_
        refine g_get (T := TX11) E fw_X11 0 (wC_0 g ad o) rfl 6 (by decide) w_464 rfl rfl gdX11_isVoidTaking_27 ?_
        refine g_iload_n E gdX11_isVoidTaking_30 rfl 2 rfl ?_
        obtain ⟨r5, hc6, h⟩ := qB_of h
        refine g_Vi (r := r5) (As := [iv x2]) (rest := []) (w := wC g ad o) E (c_X4_hangsOn l g ad o x2 r5 hc6) okm_X4_hangsOn okw_X4_hangsOn w_1246 rfl (wC_32 g ad o) rfl rfl (Nat.le_of_ble_eq_true rfl) ⟨Nat.le_of_ble_eq_true rfl, Nat.le_of_ble_eq_true rfl⟩ gdX11_isVoidTaking_31 ?_
        refine g_aload_n E gdX11_isVoidTaking_34 rfl 0 rfl ?_
        refine g_get (T := TX11) E fw_X11 0 (wC_0 g ad o) rfl 6 (by decide) w_464 rfl rfl gdX11_isVoidTaking_35 ?_
        refine g_iload_n E gdX11_isVoidTaking_38 rfl 1 rfl ?_
        obtain ⟨r7, hc8, h⟩ := qB_of h
        refine g_Vi (r := r7) (As := [iv x1]) (rest := [iv r5]) (w := wC g ad o) E (c_X4_hangsOn l g ad o x1 r7 hc8) okm_X4_hangsOn okw_X4_hangsOn w_1246 rfl (wC_32 g ad o) rfl rfl (Nat.le_of_ble_eq_true rfl) ⟨Nat.le_of_ble_eq_true rfl, Nat.le_of_ble_eq_true rfl⟩ gdX11_isVoidTaking_39 ?_
        refine g_icmp_eq E 48 gdX11_isVoidTaking_42 (by decide) h (fun h => ?_) (fun h => ?_)
        ·
          refine g_aload_n E gdX11_isVoidTaking_48 rfl 0 rfl ?_
          refine g_get (T := TX11) E fw_X11 0 (wC_0 g ad o) rfl 6 (by decide) w_464 rfl rfl gdX11_isVoidTaking_49 ?_
          refine g_iload_n E gdX11_isVoidTaking_52 rfl 2 rfl ?_
          obtain ⟨r9, hc10, h⟩ := qB_of h
          refine g_Vi (r := r9) (As := [iv x2]) (rest := []) (w := wC g ad o) E (c_X4_dateOf l g ad o x2 r9 hc10) okm_X4_dateOf okw_X4_dateOf w_1238 rfl (wC_32 g ad o) rfl rfl (Nat.le_of_ble_eq_true rfl) ⟨Nat.le_of_ble_eq_true rfl, Nat.le_of_ble_eq_true rfl⟩ gdX11_isVoidTaking_53 ?_
          refine g_aload_n E gdX11_isVoidTaking_56 rfl 0 rfl ?_
          refine g_get (T := TX11) E fw_X11 0 (wC_0 g ad o) rfl 6 (by decide) w_464 rfl rfl gdX11_isVoidTaking_57 ?_
          refine g_iload_n E gdX11_isVoidTaking_60 rfl 1 rfl ?_
          obtain ⟨r11, hc12, h⟩ := qB_of h
          refine g_Vi (r := r11) (As := [iv x1]) (rest := [iv r9]) (w := wC g ad o) E (c_X4_dayOf l g ad o x1 r11 hc12) okm_X4_dayOf okw_X4_dayOf w_1234 rfl (wC_32 g ad o) rfl rfl (Nat.le_of_ble_eq_true rfl) ⟨Nat.le_of_ble_eq_true rfl, Nat.le_of_ble_eq_true rfl⟩ gdX11_isVoidTaking_61 ?_
          refine g_icmp_gt E 77 gdX11_isVoidTaking_64 (by decide) h (fun h => ?_) (fun h => ?_)
          ·
            exact j77 x1 x2 v h k0 k1 k2
          ·
            refine g_aload_n E gdX11_isVoidTaking_67 rfl 0 rfl ?_
            refine g_iload_n E gdX11_isVoidTaking_68 rfl 2 rfl ?_
            obtain ⟨r13, hc14, h⟩ := qB_of h
            refine g_Vi (r := r13) (As := [iv x2]) (rest := []) (w := wC g ad o) E (c_X11_isVoidHearing l g ad o x2 r13 hc14) okm_X11_isVoidHearing okw_X11_isVoidHearing w_1230 rfl (wC_0 g ad o) rfl rfl (Nat.le_of_ble_eq_true rfl) ⟨Nat.le_of_ble_eq_true rfl, Nat.le_of_ble_eq_true rfl⟩ gdX11_isVoidTaking_69 ?_
            refine g_if_ne E 77 gdX11_isVoidTaking_72 (by decide) h (fun h => ?_) (fun h => ?_)
            ·
              exact j77 x1 x2 v h k0 k1 k2
            ·
              refine g_sub E [] rfl ?_
              exact k1  (Option.some.inj h).symm
        ·
          refine g_goto E 77 gdX11_isVoidTaking_45 (by decide) ?_
          exact j77 x1 x2 v h k0 k1 k2
  have j2 : ∀ (x1 : Int) (x2 : Int), e_X11_isVoidTaking_2 o x1 x2 = some v → Go X 2 (wC g ad o) [(0, .ref (ad 0)), (1, iv x1), (2, iv x2)] [] := by
    intro x1 x2 h
    unfold e_X11_isVoidTaking_2 at h
    obtain ⟨r, hr, h⟩ := qB_of h
    refine l2 x1 r _ hr ?_ ?_
    ·
      intro e
      subst e
      have h : b_X11_isVoidTaking_75 o = some v := h
      exact j75  h
    ·
      intro e
      subst e
      have h : b_X11_isVoidTaking_83 o = some v := h
      exact j83  h
  unfold s_X11_isVoidTaking at h
  refine g_iconst E gdX11_isVoidTaking_0 ?_
  refine g_istore_n E [(2, iv 0), (0, .ref (ad 0)), (1, iv x1)] gdX11_isVoidTaking_1 rfl (by decide) rfl ?_
  refine g_sub E [1, 2, 0] rfl ?_
  exact j2 x1 0 h
noncomputable def b_X11_isVoid_41 (o : OO) (y0 : Int) : Option (Int × OO) := some (y0, o)
noncomputable def b_X11_isVoid_60 (o : OO) (y0 : Int) : Option (Int × OO) := some (y0, o)
noncomputable def s_X11_isVoid (o : OO) (x1 : Int) : Option (Int × OO) := qB (s_X4_exists o x1) (fun r1 => qEq r1 0 (some ((-1), o)) (qB (s_X4_kindOf o x1) (fun r3 => qEq r3 6 (qB (s_X11_isVoidHearing o x1) (fun r10 => qEq r10 0 (b_X11_isVoid_41 o 0) (b_X11_isVoid_41 o 1))) (qEq r3 3 (qB (s_X11_isVoidTaking o x1) (fun r8 => qEq r8 0 (b_X11_isVoid_60 o 0) (b_X11_isVoid_60 o 1))) (qB2 (s_X11_found o 3) (fun r5 o7 => some (r5, o7)))))))
set_option maxHeartbeats 4000000 in
set_option maxRecDepth 100000 in
theorem c_X11_isVoid (l : Launch) (g : GG) (ad : Nat → Nat) (o : OO) (x1 : Int) (v : Int × OO) (h : s_X11_isVoid o x1 = some v) : CI l g yX11_isVoid cX11_isVoid 3 (some .int) 5 111 (wC g ad o) [.ref (ad 0), iv x1] v.1 (wC g ad v.2) := by
  refine met_I (by decide) (Nat.le_of_ble_eq_true rfl) ?_
  intro X E hQ
  show Go X 0 (wC g ad o) [(0, .ref (ad 0)), (1, iv x1)] []
  have j41 : ∀ (o : OO) (y0 : Int), b_X11_isVoid_41 o y0 = some v → Go X 41 (wC g ad o) [] [iv y0] := by
    intro o y0 h
    unfold b_X11_isVoid_41 at h
    exact g_iret E hQ (by rw [← Option.some.inj h]) (by rw [← Option.some.inj h]) gdX11_isVoid_41
  have j60 : ∀ (o : OO) (y0 : Int), b_X11_isVoid_60 o y0 = some v → Go X 60 (wC g ad o) [] [iv y0] := by
    intro o y0 h
    unfold b_X11_isVoid_60 at h
    exact g_iret E hQ (by rw [← Option.some.inj h]) (by rw [← Option.some.inj h]) gdX11_isVoid_60
  unfold s_X11_isVoid at h
  refine g_aload_n E gdX11_isVoid_0 rfl 0 rfl ?_
  refine g_get (T := TX11) E fw_X11 0 (wC_0 g ad o) rfl 6 (by decide) w_464 rfl rfl gdX11_isVoid_1 ?_
  refine g_iload_n E gdX11_isVoid_4 rfl 1 rfl ?_
  obtain ⟨r1, hc2, h⟩ := qB_of h
  refine g_Vi (r := r1) (As := [iv x1]) (rest := []) (w := wC g ad o) E (c_X4_exists l g ad o x1 r1 hc2) okm_X4_exists okw_X4_exists w_882 rfl (wC_32 g ad o) rfl rfl (Nat.le_of_ble_eq_true rfl) ⟨Nat.le_of_ble_eq_true rfl, Nat.le_of_ble_eq_true rfl⟩ gdX11_isVoid_5 ?_
  refine g_if_ne E 13 gdX11_isVoid_8 (by decide) h (fun h => ?_) (fun h => ?_)
  ·
    refine g_aload_n E gdX11_isVoid_13 rfl 0 rfl ?_
    refine g_get (T := TX11) E fw_X11 0 (wC_0 g ad o) rfl 6 (by decide) w_464 rfl rfl gdX11_isVoid_14 ?_
    refine g_iload_n E gdX11_isVoid_17 rfl 1 rfl ?_
    obtain ⟨r3, hc4, h⟩ := qB_of h
    refine g_Vi (r := r3) (As := [iv x1]) (rest := []) (w := wC g ad o) E (c_X4_kindOf l g ad o x1 r3 hc4) okm_X4_kindOf okw_X4_kindOf w_979 rfl (wC_32 g ad o) rfl rfl (Nat.le_of_ble_eq_true rfl) ⟨Nat.le_of_ble_eq_true rfl, Nat.le_of_ble_eq_true rfl⟩ gdX11_isVoid_18 ?_
    refine g_istore_n E [(2, iv r3), (0, .ref (ad 0)), (1, iv x1)] gdX11_isVoid_21 rfl (by decide) rfl ?_
    refine g_iload_n E gdX11_isVoid_22 rfl 0 rfl ?_
    refine g_bipush E gdX11_isVoid_23 (by decide) ?_
    refine g_icmp_ne E 42 gdX11_isVoid_25 (by decide) h (fun h => ?_) (fun h => ?_)
    ·
      refine g_iload_n E gdX11_isVoid_42 rfl 0 rfl ?_
      refine g_iconst E gdX11_isVoid_43 ?_
      refine g_icmp_ne E 61 gdX11_isVoid_44 (by decide) h (fun h => ?_) (fun h => ?_)
      ·
        refine g_aload_n E gdX11_isVoid_61 rfl 1 rfl ?_
        refine g_iconst E gdX11_isVoid_62 ?_
        obtain ⟨r5, o7, hc6, h⟩ := qB2_of h
        refine g_Vi (r := r5) (As := [iv 3]) (rest := []) (w := wC g ad o7) E (c_X11_found l g ad o 3 (r5, o7) hc6) okm_X11_found okw_X11_found w_521 rfl (wC_0 g ad o) rfl rfl (Nat.le_of_ble_eq_true rfl) ⟨Nat.le_of_ble_eq_true rfl, Nat.le_of_ble_eq_true rfl⟩ gdX11_isVoid_63 ?_
        exact g_iret E hQ (by rw [← Option.some.inj h]) (by rw [← Option.some.inj h]) gdX11_isVoid_66
      ·
        refine g_aload_n E gdX11_isVoid_47 rfl 1 rfl ?_
        refine g_iload_n E gdX11_isVoid_48 rfl 2 rfl ?_
        obtain ⟨r8, hc9, h⟩ := qB_of h
        refine g_Vi (r := r8) (As := [iv x1]) (rest := []) (w := wC g ad o) E (c_X11_isVoidTaking l g ad o x1 r8 hc9) okm_X11_isVoidTaking okw_X11_isVoidTaking w_1242 rfl (wC_0 g ad o) rfl rfl (Nat.le_of_ble_eq_true rfl) ⟨Nat.le_of_ble_eq_true rfl, Nat.le_of_ble_eq_true rfl⟩ gdX11_isVoid_49 ?_
        refine g_if_eq E 59 gdX11_isVoid_52 (by decide) h (fun h => ?_) (fun h => ?_)
        ·
          refine g_iconst E gdX11_isVoid_59 ?_
          refine g_sub E [] rfl ?_
          exact j60 o 0 h
        ·
          refine g_iconst E gdX11_isVoid_55 ?_
          refine g_goto E 60 gdX11_isVoid_56 (by decide) ?_
          refine g_sub E [] rfl ?_
          exact j60 o 1 h
    ·
      refine g_aload_n E gdX11_isVoid_28 rfl 1 rfl ?_
      refine g_iload_n E gdX11_isVoid_29 rfl 2 rfl ?_
      obtain ⟨r10, hc11, h⟩ := qB_of h
      refine g_Vi (r := r10) (As := [iv x1]) (rest := []) (w := wC g ad o) E (c_X11_isVoidHearing l g ad o x1 r10 hc11) okm_X11_isVoidHearing okw_X11_isVoidHearing w_1230 rfl (wC_0 g ad o) rfl rfl (Nat.le_of_ble_eq_true rfl) ⟨Nat.le_of_ble_eq_true rfl, Nat.le_of_ble_eq_true rfl⟩ gdX11_isVoid_30 ?_
      refine g_if_eq E 40 gdX11_isVoid_33 (by decide) h (fun h => ?_) (fun h => ?_)
      ·
        refine g_iconst E gdX11_isVoid_40 ?_
        refine g_sub E [] rfl ?_
        exact j41 o 0 h
      ·
        refine g_iconst E gdX11_isVoid_36 ?_
        refine g_goto E 41 gdX11_isVoid_37 (by decide) ?_
        refine g_sub E [] rfl ?_
        exact j41 o 1 h
  ·
    refine g_iconst E gdX11_isVoid_11 ?_
    exact g_iret E hQ (by rw [← Option.some.inj h]) (by rw [← Option.some.inj h]) gdX11_isVoid_12
noncomputable def b_X11_judge_33 (o : OO) : Option (Int × OO) := some ((-1), o)
noncomputable def s_X11_judge (o : OO) (x1 : Int) (x2 : Int) (x3 : Int) : Option (Int × OO) := qB (s_X4_exists o x1) (fun r1 => qEq r1 0 (b_X11_judge_33 o) (qB (s_X8_exists o x2) (fun r3 => qEq r3 0 (b_X11_judge_33 o) (qB (s_X8_exists o x3) (fun r5 => qEq r5 0 (b_X11_judge_33 o) (qB (s_X4_isOf o x1 1) (fun r7 => qEq r7 0 (qB2 (s_X11_found o 3) (fun r19 o21 => some (r19, o21))) (qB (s_X11_weighingFault o x2 x3) (fun r9 => qEq r9 0 (qB (s_X11_weigh o x1 x2 x3) (fun r11 => qB2 (s_X11_tell o r11) (fun r13 o15 => some (r13, o15)))) (qB2 (s_X11_found o r9) (fun r16 o18 => some (r16, o18))))))))))))
set_option maxHeartbeats 4000000 in
set_option maxRecDepth 100000 in
theorem c_X11_judge (l : Launch) (g : GG) (ad : Nat → Nat) (o : OO) (x1 : Int) (x2 : Int) (x3 : Int) (v : Int × OO) (h : s_X11_judge o x1 x2 x3 = some v) : CI l g yX11_judge cX11_judge 5 (some .int) 5 125 (wC g ad o) [.ref (ad 0), iv x1, iv x2, iv x3] v.1 (wC g ad v.2) := by
  refine met_I (by decide) (Nat.le_of_ble_eq_true rfl) ?_
  intro X E hQ
  show Go X 0 (wC g ad o) [(0, .ref (ad 0)), (1, iv x1), (2, iv x2), (3, iv x3)] []
  have j33 : ∀ (o : OO), b_X11_judge_33 o = some v → Go X 33 (wC g ad o) [] [] := by
    intro o h
    unfold b_X11_judge_33 at h
    refine g_iconst E gdX11_judge_33 ?_
    exact g_iret E hQ (by rw [← Option.some.inj h]) (by rw [← Option.some.inj h]) gdX11_judge_34
  unfold s_X11_judge at h
  refine g_aload_n E gdX11_judge_0 rfl 0 rfl ?_
  refine g_get (T := TX11) E fw_X11 0 (wC_0 g ad o) rfl 6 (by decide) w_464 rfl rfl gdX11_judge_1 ?_
  refine g_iload_n E gdX11_judge_4 rfl 1 rfl ?_
  obtain ⟨r1, hc2, h⟩ := qB_of h
  refine g_Vi (r := r1) (As := [iv x1]) (rest := []) (w := wC g ad o) E (c_X4_exists l g ad o x1 r1 hc2) okm_X4_exists okw_X4_exists w_882 rfl (wC_32 g ad o) rfl rfl (Nat.le_of_ble_eq_true rfl) ⟨Nat.le_of_ble_eq_true rfl, Nat.le_of_ble_eq_true rfl⟩ gdX11_judge_5 ?_
  refine g_if_eq E 33 gdX11_judge_8 (by decide) h (fun h => ?_) (fun h => ?_)
  ·
    refine g_sub E [] rfl ?_
    exact j33 o h
  ·
    refine g_aload_n E gdX11_judge_11 rfl 0 rfl ?_
    refine g_get (T := TX11) E fw_X11 0 (wC_0 g ad o) rfl 0 (by decide) w_458 rfl rfl gdX11_judge_12 ?_
    refine g_iload_n E gdX11_judge_15 rfl 2 rfl ?_
    obtain ⟨r3, hc4, h⟩ := qB_of h
    refine g_Vi (r := r3) (As := [iv x2]) (rest := []) (w := wC g ad o) E (c_X8_exists l g ad o x2 r3 hc4) okm_X8_exists okw_X8_exists w_517 rfl (wC_1 g ad o) rfl rfl (Nat.le_of_ble_eq_true rfl) ⟨Nat.le_of_ble_eq_true rfl, Nat.le_of_ble_eq_true rfl⟩ gdX11_judge_16 ?_
    refine g_if_eq E 33 gdX11_judge_19 (by decide) h (fun h => ?_) (fun h => ?_)
    ·
      refine g_sub E [] rfl ?_
      exact j33 o h
    ·
      refine g_aload_n E gdX11_judge_22 rfl 0 rfl ?_
      refine g_get (T := TX11) E fw_X11 0 (wC_0 g ad o) rfl 0 (by decide) w_458 rfl rfl gdX11_judge_23 ?_
      refine g_iload_n E gdX11_judge_26 rfl 3 rfl ?_
      obtain ⟨r5, hc6, h⟩ := qB_of h
      refine g_Vi (r := r5) (As := [iv x3]) (rest := []) (w := wC g ad o) E (c_X8_exists l g ad o x3 r5 hc6) okm_X8_exists okw_X8_exists w_517 rfl (wC_1 g ad o) rfl rfl (Nat.le_of_ble_eq_true rfl) ⟨Nat.le_of_ble_eq_true rfl, Nat.le_of_ble_eq_true rfl⟩ gdX11_judge_27 ?_
      refine g_if_ne E 35 gdX11_judge_30 (by decide) h (fun h => ?_) (fun h => ?_)
      ·
        refine g_aload_n E gdX11_judge_35 rfl 0 rfl ?_
        refine g_get (T := TX11) E fw_X11 0 (wC_0 g ad o) rfl 6 (by decide) w_464 rfl rfl gdX11_judge_36 ?_
        refine g_iload_n E gdX11_judge_39 rfl 1 rfl ?_
        refine g_iconst E gdX11_judge_40 ?_
        obtain ⟨r7, hc8, h⟩ := qB_of h
        refine g_Vi (r := r7) (As := [iv x1, iv 1]) (rest := []) (w := wC g ad o) E (c_X4_isOf l g ad o x1 1 r7 hc8) okm_X4_isOf okw_X4_isOf w_886 rfl (wC_32 g ad o) rfl rfl (Nat.le_of_ble_eq_true rfl) ⟨Nat.le_of_ble_eq_true rfl, Nat.le_of_ble_eq_true rfl⟩ gdX11_judge_41 ?_
        refine g_if_ne E 53 gdX11_judge_44 (by decide) h (fun h => ?_) (fun h => ?_)
        ·
          refine g_aload_n E gdX11_judge_53 rfl 0 rfl ?_
          refine g_iload_n E gdX11_judge_54 rfl 2 rfl ?_
          refine g_iload_n E gdX11_judge_55 rfl 3 rfl ?_
          obtain ⟨r9, hc10, h⟩ := qB_of h
          refine g_Vi (r := r9) (As := [iv x2, iv x3]) (rest := []) (w := wC g ad o) E (c_X11_weighingFault l g ad o x2 x3 r9 hc10) okm_X11_weighingFault okw_X11_weighingFault w_1373 rfl (wC_0 g ad o) rfl rfl (Nat.le_of_ble_eq_true rfl) ⟨Nat.le_of_ble_eq_true rfl, Nat.le_of_ble_eq_true rfl⟩ gdX11_judge_56 ?_
          refine g_istore E [(4, iv r9), (0, .ref (ad 0)), (1, iv x1), (2, iv x2), (3, iv x3)] gdX11_judge_59 (by decide) rfl ?_
          refine g_iload E gdX11_judge_61 0 rfl ?_
          refine g_if_eq E 73 gdX11_judge_63 (by decide) h (fun h => ?_) (fun h => ?_)
          ·
            refine g_aload_n E gdX11_judge_73 rfl 1 rfl ?_
            refine g_aload_n E gdX11_judge_74 rfl 1 rfl ?_
            refine g_iload_n E gdX11_judge_75 rfl 2 rfl ?_
            refine g_iload_n E gdX11_judge_76 rfl 3 rfl ?_
            refine g_iload_n E gdX11_judge_77 rfl 4 rfl ?_
            obtain ⟨r11, hc12, h⟩ := qB_of h
            refine g_Vi (r := r11) (As := [iv x1, iv x2, iv x3]) (rest := [.ref (ad 0)]) (w := wC g ad o) E (c_X11_weigh l g ad o x1 x2 x3 r11 hc12) okm_X11_weigh okw_X11_weigh w_1377 rfl (wC_0 g ad o) rfl rfl (Nat.le_of_ble_eq_true rfl) ⟨Nat.le_of_ble_eq_true rfl, Nat.le_of_ble_eq_true rfl⟩ gdX11_judge_78 ?_
            obtain ⟨r13, o15, hc14, h⟩ := qB2_of h
            refine g_Vi (r := r13) (As := [iv r11]) (rest := []) (w := wC g ad o15) E (c_X11_tell l g ad o r11 (r13, o15) hc14) okm_X11_tell okw_X11_tell w_551 rfl (wC_0 g ad o) rfl rfl (Nat.le_of_ble_eq_true rfl) ⟨Nat.le_of_ble_eq_true rfl, Nat.le_of_ble_eq_true rfl⟩ gdX11_judge_81 ?_
            exact g_iret E hQ (by rw [← Option.some.inj h]) (by rw [← Option.some.inj h]) gdX11_judge_84
          ·
            refine g_aload_n E gdX11_judge_66 rfl 1 rfl ?_
            refine g_iload E gdX11_judge_67 0 rfl ?_
            obtain ⟨r16, o18, hc17, h⟩ := qB2_of h
            refine g_Vi (r := r16) (As := [iv r9]) (rest := []) (w := wC g ad o18) E (c_X11_found l g ad o r9 (r16, o18) hc17) okm_X11_found okw_X11_found w_521 rfl (wC_0 g ad o) rfl rfl (Nat.le_of_ble_eq_true rfl) ⟨Nat.le_of_ble_eq_true rfl, Nat.le_of_ble_eq_true rfl⟩ gdX11_judge_69 ?_
            exact g_iret E hQ (by rw [← Option.some.inj h]) (by rw [← Option.some.inj h]) gdX11_judge_72
        ·
          refine g_aload_n E gdX11_judge_47 rfl 0 rfl ?_
          refine g_iconst E gdX11_judge_48 ?_
          obtain ⟨r19, o21, hc20, h⟩ := qB2_of h
          refine g_Vi (r := r19) (As := [iv 3]) (rest := []) (w := wC g ad o21) E (c_X11_found l g ad o 3 (r19, o21) hc20) okm_X11_found okw_X11_found w_521 rfl (wC_0 g ad o) rfl rfl (Nat.le_of_ble_eq_true rfl) ⟨Nat.le_of_ble_eq_true rfl, Nat.le_of_ble_eq_true rfl⟩ gdX11_judge_49 ?_
          exact g_iret E hQ (by rw [← Option.some.inj h]) (by rw [← Option.some.inj h]) gdX11_judge_52
      ·
        refine g_sub E [] rfl ?_
        exact j33 o h
noncomputable def b_X11_later_16 (o : OO) : Option (Int × OO) := some ((-1), o)
noncomputable def s_X11_later (o : OO) (x1 : Int) : Option (Int × OO) := qLt x1 0 (b_X11_later_16 o) (qLt (999 - (o.1 0 13)) x1 (b_X11_later_16 o) (qNm (st1 o 0 13 ((o.1 0 13) + x1)) (fun o1 => some (o1.1 0 13, o1))))
set_option maxHeartbeats 4000000 in
set_option maxRecDepth 100000 in
theorem c_X11_later (l : Launch) (g : GG) (ad : Nat → Nat) (o : OO) (x1 : Int) (v : Int × OO) (h : s_X11_later o x1 = some v) : CI l g yX11_later cX11_later 2 (some .int) 0 0 (wC g ad o) [.ref (ad 0), iv x1] v.1 (wC g ad v.2) := by
  refine met_I (by decide) (Nat.le_of_ble_eq_true rfl) ?_
  intro X E hQ
  show Go X 0 (wC g ad o) [(0, .ref (ad 0)), (1, iv x1)] []
  have j16 : ∀ (o : OO), b_X11_later_16 o = some v → Go X 16 (wC g ad o) [] [] := by
    intro o h
    unfold b_X11_later_16 at h
    refine g_iconst E gdX11_later_16 ?_
    exact g_iret E hQ (by rw [← Option.some.inj h]) (by rw [← Option.some.inj h]) gdX11_later_17
  unfold s_X11_later at h
  refine g_iload_n E gdX11_later_0 rfl 1 rfl ?_
  refine g_if_lt E 16 gdX11_later_1 (by decide) h (fun h => ?_) (fun h => ?_)
  ·
    refine g_sub E [] rfl ?_
    exact j16 o h
  ·
    refine g_iload_n E gdX11_later_4 rfl 1 rfl ?_
    refine g_sipush E gdX11_later_5 (by decide) ?_
    refine g_aload_n E gdX11_later_8 rfl 0 rfl ?_
    refine g_get (T := TX11) E fw_X11 0 (wC_0 g ad o) rfl 13 (by decide) w_471 rfl rfl gdX11_later_9 ?_
    refine g_isub E gdX11_later_12 ?_
    refine g_icmp_le E 18 gdX11_later_13 (by decide) h (fun h => ?_) (fun h => ?_)
    ·
      refine g_aload_n E gdX11_later_18 rfl 0 rfl ?_
      refine g_dup E gdX11_later_19 rfl ?_
      refine g_get (T := TX11) E fw_X11 0 (wC_0 g ad o) rfl 13 (by decide) w_471 rfl rfl gdX11_later_20 ?_
      refine g_iload_n E gdX11_later_23 rfl 1 rfl ?_
      refine g_iadd E gdX11_later_24 ?_
      obtain ⟨o1, e_o1, h⟩ := qNm_of h
      refine g_puti (T := TX11) (ws' := wC g ad o1) E fw_X11 tyX11 tyX11_ok nmX11 0 (wC_0 g ad o) rfl 13 (by decide) w_471 rfl rfl (by decide +kernel) (Nat.le_of_ble_eq_true rfl) (by rw [e_o1]; exact wC_p0_13 g ad o _) gdX11_later_25 ?_
      refine g_aload_n E gdX11_later_28 rfl 0 rfl ?_
      refine g_get (T := TX11) E fw_X11 0 (wC_0 g ad o1) rfl 13 (by decide) w_471 rfl rfl gdX11_later_29 ?_
      exact g_iret E hQ (by rw [← Option.some.inj h]) (by rw [← Option.some.inj h]) gdX11_later_32
    ·
      refine g_sub E [] rfl ?_
      exact j16 o h
noncomputable def b_X8_holds__1_19 (o : OO) (y0 : Int) : Option (Int) := qZ y0 (some y0)
noncomputable def b_X8_holds__1_18 (o : OO) : Option (Int) := b_X8_holds__1_19 o 0
noncomputable def s_X8_holds__1 (o : OO) (x1 : Int) (x2 : Int) : Option (Int) := qLt x2 0 (b_X8_holds__1_18 o) (qIn x1 6 (qNm (o.1 2 x1.toNat) (fun n2 => qLt x2 n2 (b_X8_holds__1_19 o 1) (b_X8_holds__1_18 o))))
set_option maxHeartbeats 4000000 in
set_option maxRecDepth 100000 in
theorem c_X8_holds__1 (l : Launch) (g : GG) (ad : Nat → Nat) (o : OO) (x1 : Int) (x2 : Int) (v : Int) (h : s_X8_holds__1 o x1 x2 = some v) : CI l g yX8_holds cX8_holds 3 (some .boolean) 0 0 (wC g ad o) [.ref (ad 1), iv x1, iv x2] v (wC g ad o) := by
  refine met_I (by decide) (Nat.le_of_ble_eq_true rfl) ?_
  intro X E hQ
  show Go X 0 (wC g ad o) [(0, .ref (ad 1)), (1, iv x1), (2, iv x2)] []
  have j19 : ∀ (y0 : Int), b_X8_holds__1_19 o y0 = some v → Go X 19 (wC g ad o) [] [iv y0] := by
    intro y0 h
    unfold b_X8_holds__1_19 at h
    obtain ⟨hz, h⟩ := qZ_of h
    exact g_zret E hQ hz (Option.some.inj h) rfl gdX8_holds_19
  have j18 : b_X8_holds__1_18 o = some v → Go X 18 (wC g ad o) [] [] := by
    intro h
    unfold b_X8_holds__1_18 at h
    refine g_iconst E gdX8_holds_18 ?_
    exact j19 0 h
  unfold s_X8_holds__1 at h
  refine g_iload_n E gdX8_holds_0 rfl 2 rfl ?_
  refine g_if_lt E 18 gdX8_holds_1 (by decide) h (fun h => ?_) (fun h => ?_)
  ·
    refine g_sub E [] rfl ?_
    exact j18  h
  ·
    refine g_iload_n E gdX8_holds_4 rfl 2 rfl ?_
    refine g_aload_n E gdX8_holds_5 rfl 0 rfl ?_
    refine g_get (T := TX8) E fw_X8 1 (wC_1 g ad o) rfl 2 (by decide) w_128 rfl rfl gdX8_holds_6 ?_
    refine g_iload_n E gdX8_holds_9 rfl 1 rfl ?_
    obtain ⟨hi1, h⟩ := qIn_of h
    refine g_iald E 2 (wC_2 g ad o) (by decide) hi1 gdX8_holds_10 ?_
    obtain ⟨n2, e_n2, h⟩ := qNm_of h
    refine g_nmi e_n2 ?_
    refine g_icmp_ge E 18 gdX8_holds_11 (by decide) h (fun h => ?_) (fun h => ?_)
    ·
      refine g_sub E [] rfl ?_
      exact j18  h
    ·
      refine g_iconst E gdX8_holds_14 ?_
      refine g_goto E 19 gdX8_holds_15 (by decide) ?_
      refine g_sub E [] rfl ?_
      exact j19 1 h
noncomputable def s_X8_exchange (o : OO) (x1 : Int) (x2 : Int) (x3 : Int) : Option (Int × OO) := qIn ((x1 * 40) + x2) 240 (qNm (o.1 3 ((x1 * 40) + x2).toNat) (fun n2 => qIn ((x1 * 40) + x2) 240 (qNm (st1 o 3 (((x1 * 40) + x2).toNat) x3) (fun o4 => some (n2, o4)))))
set_option maxHeartbeats 4000000 in
set_option maxRecDepth 100000 in
theorem c_X8_exchange (l : Launch) (g : GG) (ad : Nat → Nat) (o : OO) (x1 : Int) (x2 : Int) (x3 : Int) (v : Int × OO) (h : s_X8_exchange o x1 x2 x3 = some v) : CI l g yX8_exchange cX8_exchange 5 (some .int) 0 0 (wC g ad o) [.ref (ad 1), iv x1, iv x2, iv x3] v.1 (wC g ad v.2) := by
  refine met_I (by decide) (Nat.le_of_ble_eq_true rfl) ?_
  intro X E hQ
  show Go X 0 (wC g ad o) [(0, .ref (ad 1)), (1, iv x1), (2, iv x2), (3, iv x3)] []
  unfold s_X8_exchange at h
  refine g_aload_n E gdX8_exchange_0 rfl 0 rfl ?_
  refine g_get (T := TX8) E fw_X8 1 (wC_1 g ad o) rfl 3 (by decide) w_129 rfl rfl gdX8_exchange_1 ?_
  refine g_iload_n E gdX8_exchange_4 rfl 1 rfl ?_
  refine g_bipush E gdX8_exchange_5 (by decide) ?_
  refine g_imul E gdX8_exchange_7 ?_
  refine g_iload_n E gdX8_exchange_8 rfl 2 rfl ?_
  refine g_iadd E gdX8_exchange_9 ?_
  obtain ⟨hi1, h⟩ := qIn_of h
  refine g_iald E 3 (wC_3 g ad o) (by decide) hi1 gdX8_exchange_10 ?_
  obtain ⟨n2, e_n2, h⟩ := qNm_of h
  refine g_nmi e_n2 ?_
  refine g_istore E [(4, iv n2), (0, .ref (ad 1)), (1, iv x1), (2, iv x2), (3, iv x3)] gdX8_exchange_11 (by decide) rfl ?_
  refine g_aload_n E gdX8_exchange_13 rfl 1 rfl ?_
  refine g_get (T := TX8) E fw_X8 1 (wC_1 g ad o) rfl 3 (by decide) w_129 rfl rfl gdX8_exchange_14 ?_
  refine g_iload_n E gdX8_exchange_17 rfl 2 rfl ?_
  refine g_bipush E gdX8_exchange_18 (by decide) ?_
  refine g_imul E gdX8_exchange_20 ?_
  refine g_iload_n E gdX8_exchange_21 rfl 3 rfl ?_
  refine g_iadd E gdX8_exchange_22 ?_
  refine g_iload_n E gdX8_exchange_23 rfl 4 rfl ?_
  obtain ⟨hi3, h⟩ := qIn_of h
  obtain ⟨o4, e_o4, h⟩ := qNm_of h
  refine g_iast (ws' := wC g ad o4) E 3 (wC_3 g ad o) (by decide) hi3 (by rw [e_o4]; exact wC_s3 g ad o _ _) gdX8_exchange_24 ?_
  refine g_iload E gdX8_exchange_25 0 rfl ?_
  exact g_iret E hQ (by rw [← Option.some.inj h]) (by rw [← Option.some.inj h]) gdX8_exchange_27
noncomputable def s_X11_lay (o : OO) (x1 : Int) (x2 : Int) (x3 : Int) : Option (Int × OO) := qB (s_X8_exists o x1) (fun r1 => qEq r1 0 (some ((-1), o)) (qB (s_X8_isThere o x1) (fun r3 => qEq r3 0 (qB2 (s_X11_found o 1) (fun r16 o18 => some (r16, o18))) (qB (s_X8_holds__1 o x1 x2) (fun r5 => qEq r5 0 (qB2 (s_X11_found o 2) (fun r13 o15 => some (r13, o15))) (qB2 (s_X8_exchange o x1 x2 x3) (fun r7 o9 => qB2 (s_X11_tell o9 r7) (fun r10 o12 => some (r10, o12)))))))))
set_option maxHeartbeats 4000000 in
set_option maxRecDepth 100000 in
theorem c_X11_lay (l : Launch) (g : GG) (ad : Nat → Nat) (o : OO) (x1 : Int) (x2 : Int) (x3 : Int) (v : Int × OO) (h : s_X11_lay o x1 x2 x3 = some v) : CI l g yX11_lay cX11_lay 4 (some .int) 1 24 (wC g ad o) [.ref (ad 0), iv x1, iv x2, iv x3] v.1 (wC g ad v.2) := by
  refine met_I (by decide) (Nat.le_of_ble_eq_true rfl) ?_
  intro X E hQ
  show Go X 0 (wC g ad o) [(0, .ref (ad 0)), (1, iv x1), (2, iv x2), (3, iv x3)] []
  unfold s_X11_lay at h
  refine g_aload_n E gdX11_lay_0 rfl 0 rfl ?_
  refine g_get (T := TX11) E fw_X11 0 (wC_0 g ad o) rfl 0 (by decide) w_458 rfl rfl gdX11_lay_1 ?_
  refine g_iload_n E gdX11_lay_4 rfl 1 rfl ?_
  obtain ⟨r1, hc2, h⟩ := qB_of h
  refine g_Vi (r := r1) (As := [iv x1]) (rest := []) (w := wC g ad o) E (c_X8_exists l g ad o x1 r1 hc2) okm_X8_exists okw_X8_exists w_517 rfl (wC_1 g ad o) rfl rfl (Nat.le_of_ble_eq_true rfl) ⟨Nat.le_of_ble_eq_true rfl, Nat.le_of_ble_eq_true rfl⟩ gdX11_lay_5 ?_
  refine g_if_ne E 13 gdX11_lay_8 (by decide) h (fun h => ?_) (fun h => ?_)
  ·
    refine g_aload_n E gdX11_lay_13 rfl 0 rfl ?_
    refine g_get (T := TX11) E fw_X11 0 (wC_0 g ad o) rfl 0 (by decide) w_458 rfl rfl gdX11_lay_14 ?_
    refine g_iload_n E gdX11_lay_17 rfl 1 rfl ?_
    obtain ⟨r3, hc4, h⟩ := qB_of h
    refine g_Vi (r := r3) (As := [iv x1]) (rest := []) (w := wC g ad o) E (c_X8_isThere l g ad o x1 r3 hc4) okm_X8_isThere okw_X8_isThere w_539 rfl (wC_1 g ad o) rfl rfl (Nat.le_of_ble_eq_true rfl) ⟨Nat.le_of_ble_eq_true rfl, Nat.le_of_ble_eq_true rfl⟩ gdX11_lay_18 ?_
    refine g_if_ne E 30 gdX11_lay_21 (by decide) h (fun h => ?_) (fun h => ?_)
    ·
      refine g_aload_n E gdX11_lay_30 rfl 0 rfl ?_
      refine g_get (T := TX11) E fw_X11 0 (wC_0 g ad o) rfl 0 (by decide) w_458 rfl rfl gdX11_lay_31 ?_
      refine g_iload_n E gdX11_lay_34 rfl 1 rfl ?_
      refine g_iload_n E gdX11_lay_35 rfl 2 rfl ?_
      obtain ⟨r5, hc6, h⟩ := qB_of h
      refine g_Vi (r := r5) (As := [iv x1, iv x2]) (rest := []) (w := wC g ad o) E (c_X8_holds__1 l g ad o x1 x2 r5 hc6) okm_X8_holds okw_X8_holds w_543 rfl (wC_1 g ad o) rfl rfl (Nat.le_of_ble_eq_true rfl) ⟨Nat.le_of_ble_eq_true rfl, Nat.le_of_ble_eq_true rfl⟩ gdX11_lay_36 ?_
      refine g_if_ne E 48 gdX11_lay_39 (by decide) h (fun h => ?_) (fun h => ?_)
      ·
        refine g_aload_n E gdX11_lay_48 rfl 0 rfl ?_
        refine g_aload_n E gdX11_lay_49 rfl 0 rfl ?_
        refine g_get (T := TX11) E fw_X11 0 (wC_0 g ad o) rfl 0 (by decide) w_458 rfl rfl gdX11_lay_50 ?_
        refine g_iload_n E gdX11_lay_53 rfl 1 rfl ?_
        refine g_iload_n E gdX11_lay_54 rfl 2 rfl ?_
        refine g_iload_n E gdX11_lay_55 rfl 3 rfl ?_
        obtain ⟨r7, o9, hc8, h⟩ := qB2_of h
        refine g_Vi (r := r7) (As := [iv x1, iv x2, iv x3]) (rest := [.ref (ad 0)]) (w := wC g ad o9) E (c_X8_exchange l g ad o x1 x2 x3 (r7, o9) hc8) okm_X8_exchange okw_X8_exchange w_547 rfl (wC_1 g ad o) rfl rfl (Nat.le_of_ble_eq_true rfl) ⟨Nat.le_of_ble_eq_true rfl, Nat.le_of_ble_eq_true rfl⟩ gdX11_lay_56 ?_
        obtain ⟨r10, o12, hc11, h⟩ := qB2_of h
        refine g_Vi (r := r10) (As := [iv r7]) (rest := []) (w := wC g ad o12) E (c_X11_tell l g ad o9 r7 (r10, o12) hc11) okm_X11_tell okw_X11_tell w_551 rfl (wC_0 g ad o9) rfl rfl (Nat.le_of_ble_eq_true rfl) ⟨Nat.le_of_ble_eq_true rfl, Nat.le_of_ble_eq_true rfl⟩ gdX11_lay_59 ?_
        exact g_iret E hQ (by rw [← Option.some.inj h]) (by rw [← Option.some.inj h]) gdX11_lay_62
      ·
        refine g_aload_n E gdX11_lay_42 rfl 0 rfl ?_
        refine g_iconst E gdX11_lay_43 ?_
        obtain ⟨r13, o15, hc14, h⟩ := qB2_of h
        refine g_Vi (r := r13) (As := [iv 2]) (rest := []) (w := wC g ad o15) E (c_X11_found l g ad o 2 (r13, o15) hc14) okm_X11_found okw_X11_found w_521 rfl (wC_0 g ad o) rfl rfl (Nat.le_of_ble_eq_true rfl) ⟨Nat.le_of_ble_eq_true rfl, Nat.le_of_ble_eq_true rfl⟩ gdX11_lay_44 ?_
        exact g_iret E hQ (by rw [← Option.some.inj h]) (by rw [← Option.some.inj h]) gdX11_lay_47
    ·
      refine g_aload_n E gdX11_lay_24 rfl 0 rfl ?_
      refine g_iconst E gdX11_lay_25 ?_
      obtain ⟨r16, o18, hc17, h⟩ := qB2_of h
      refine g_Vi (r := r16) (As := [iv 1]) (rest := []) (w := wC g ad o18) E (c_X11_found l g ad o 1 (r16, o18) hc17) okm_X11_found okw_X11_found w_521 rfl (wC_0 g ad o) rfl rfl (Nat.le_of_ble_eq_true rfl) ⟨Nat.le_of_ble_eq_true rfl, Nat.le_of_ble_eq_true rfl⟩ gdX11_lay_26 ?_
      exact g_iret E hQ (by rw [← Option.some.inj h]) (by rw [← Option.some.inj h]) gdX11_lay_29
  ·
    refine g_iconst E gdX11_lay_11 ?_
    exact g_iret E hQ (by rw [← Option.some.inj h]) (by rw [← Option.some.inj h]) gdX11_lay_12
noncomputable def s_X1_latestWorth (o : OO) (x1 : Int) : Option (Int) := qIn x1 32 (qNm (o.1 16 x1.toNat) (fun n2 => some n2))
set_option maxHeartbeats 4000000 in
set_option maxRecDepth 100000 in
theorem c_X1_latestWorth (l : Launch) (g : GG) (ad : Nat → Nat) (o : OO) (x1 : Int) (v : Int) (h : s_X1_latestWorth o x1 = some v) : CI l g yX1_latestWorth cX1_latestWorth 2 (some .int) 0 0 (wC g ad o) [.ref (ad 10), iv x1] v (wC g ad o) := by
  refine met_I (by decide) (Nat.le_of_ble_eq_true rfl) ?_
  intro X E hQ
  show Go X 0 (wC g ad o) [(0, .ref (ad 10)), (1, iv x1)] []
  unfold s_X1_latestWorth at h
  refine g_aload_n E gdX1_latestWorth_0 rfl 0 rfl ?_
  refine g_get (T := TX1) E fw_X1 10 (wC_10 g ad o) rfl 5 (by decide) w_165 rfl rfl gdX1_latestWorth_1 ?_
  refine g_iload_n E gdX1_latestWorth_4 rfl 1 rfl ?_
  obtain ⟨hi1, h⟩ := qIn_of h
  refine g_iald E 16 (wC_16 g ad o) (by decide) hi1 gdX1_latestWorth_5 ?_
  obtain ⟨n2, e_n2, h⟩ := qNm_of h
  refine g_nmi e_n2 ?_
  exact g_iret E hQ (Option.some.inj h) rfl gdX1_latestWorth_6
noncomputable def s_X3_sortOf (o : OO) (x1 : Int) : Option (Int) := qIn x1 64 (qNm (o.1 8 x1.toNat) (fun n2 => some n2))
set_option maxHeartbeats 4000000 in
set_option maxRecDepth 100000 in
theorem c_X3_sortOf (l : Launch) (g : GG) (ad : Nat → Nat) (o : OO) (x1 : Int) (v : Int) (h : s_X3_sortOf o x1 = some v) : CI l g yX3_sortOf cX3_sortOf 2 (some .int) 0 0 (wC g ad o) [.ref (ad 7), iv x1] v (wC g ad o) := by
  refine met_I (by decide) (Nat.le_of_ble_eq_true rfl) ?_
  intro X E hQ
  show Go X 0 (wC g ad o) [(0, .ref (ad 7)), (1, iv x1)] []
  unfold s_X3_sortOf at h
  refine g_aload_n E gdX3_sortOf_0 rfl 0 rfl ?_
  refine g_get (T := TX3) E fw_X3 7 (wC_7 g ad o) rfl 0 (by decide) w_146 rfl rfl gdX3_sortOf_1 ?_
  refine g_iload_n E gdX3_sortOf_4 rfl 1 rfl ?_
  obtain ⟨hi1, h⟩ := qIn_of h
  refine g_iald E 8 (wC_8 g ad o) (by decide) hi1 gdX3_sortOf_5 ?_
  obtain ⟨n2, e_n2, h⟩ := qNm_of h
  refine g_nmi e_n2 ?_
  exact g_iret E hQ (Option.some.inj h) rfl gdX3_sortOf_6
noncomputable def b_X11_setPrices_89 (o : OO) : Option (OO) := some o
noncomputable def b_X11_setPrices_72 (o : OO) (x1 : Int) (x2 : Int) (x4 : Int) : Option ((OO × Int) ⊕ ((OO))) := qIn x2 64 (qNm (st1 o 54 x2.toNat x4) (fun o2 => some (.inl (o2, x2 + 1))))
noncomputable def b_X11_setPrices_48 (o : OO) (x1 : Int) (x2 : Int) (x3 : Int) (y0 : Int) : Option ((OO × Int) ⊕ ((OO))) := qEq x3 (-9) (b_X11_setPrices_72 o x1 x2 y0) (qB (s_X1_latestWorth o x3) (fun r3 => qDv r3 100 (qNm (y0 + (jq r3 100)) (fun n6 => b_X11_setPrices_72 o x1 x2 n6))))
noncomputable def l_X11_setPrices_2 (x1 : Int) (o : OO) (x2 : Int) : Option ((OO × Int) ⊕ ((OO))) := qLt x2 64 (qB (s_X1_standingOn o x2) (fun r7 => qB (s_X3_isWater o x2) (fun r9 => qEq r9 0 (qB (s_X3_sortOf o x2) (fun r11 => qB (s_X8_at o x1 r11) (fun r13 => b_X11_setPrices_48 o x1 x2 r7 r13))) (b_X11_setPrices_48 o x1 x2 r7 0)))) (some (.inr (o)))
noncomputable def e_X11_setPrices_2 (o : OO) (x1 : Int) (x2 : Int) : Option (OO) := qB (loopW (fun s => l_X11_setPrices_2 x1 s.1 s.2) (o, x2)) (fun r => b_X11_setPrices_89 r)
noncomputable def s_X11_setPrices (o : OO) (x1 : Int) : Option (OO) := e_X11_setPrices_2 o x1 0
set_option maxHeartbeats 4000000 in
set_option maxRecDepth 100000 in
theorem c_X11_setPrices (l : Launch) (g : GG) (ad : Nat → Nat) (o : OO) (x1 : Int) (v : OO) (h : s_X11_setPrices o x1 = some v) : CV l g yX11_setPrices cX11_setPrices 5 1 22 (wC g ad o) [.ref (ad 0), iv x1] (wC g ad v) := by
  refine met_V (by decide) (Nat.le_of_ble_eq_true rfl) ?_
  intro X E hQ
  show Go X 0 (wC g ad o) [(0, .ref (ad 0)), (1, iv x1)] []
  have j89 : ∀ (o : OO), b_X11_setPrices_89 o = some v → Go X 89 (wC g ad o) [] [] := by
    intro o h
    unfold b_X11_setPrices_89 at h
    exact g_vret E hQ (by rw [← Option.some.inj h]) gdX11_setPrices_89
  have j72 : ∀ (o : OO) (x1 : Int) (x2 : Int) (x4 : Int) (v : (OO × Int) ⊕ ((OO))), b_X11_setPrices_72 o x1 x2 x4 = some v → (∀ (o : OO) (x2 : Int), v = .inl (o, x2) → Go X 2 (wC g ad o) [(0, .ref (ad 0)), (1, iv x1), (2, iv x2)] []) → (∀ (o : OO), v = .inr (o) → Go X 89 (wC g ad o) [] []) → Go X 72 (wC g ad o) [(0, .ref (ad 0)), (1, iv x1), (2, iv x2), (4, iv x4)] [] := by
    intro o x1 x2 x4 v h k0 k1
    unfold b_X11_setPrices_72 at h
    refine g_aload_n E gdX11_setPrices_72 rfl 0 rfl ?_
    refine g_get (T := TX11) E fw_X11 0 (wC_0 g ad o) rfl 8 (by decide) w_466 rfl rfl gdX11_setPrices_73 ?_
    refine g_get (T := TX10) E fw_X10 53 (wC_53 g ad o) rfl 0 (by decide) w_333 rfl rfl gdX11_setPrices_76 ?_
    refine g_iload_n E gdX11_setPrices_79 rfl 2 rfl ?_
    refine g_iload E gdX11_setPrices_80 3 rfl ?_
    obtain ⟨hi1, h⟩ := qIn_of h
    obtain ⟨o2, e_o2, h⟩ := qNm_of h
    refine g_iast (ws' := wC g ad o2) E 54 (wC_54 g ad o) (by decide) hi1 (by rw [e_o2]; exact wC_s54 g ad o _ _) gdX11_setPrices_82 ?_
    refine g_iinc E [(2, iv (x2 + 1)), (0, .ref (ad 0)), (1, iv x1), (4, iv x4)] gdX11_setPrices_83 2 rfl (by decide) rfl ?_
    refine g_goto E 2 gdX11_setPrices_86 (by decide) ?_
    refine g_sub E [1, 2, 0] rfl ?_
    exact k0 o2 (x2 + 1) (Option.some.inj h).symm
  have j48 : ∀ (o : OO) (x1 : Int) (x2 : Int) (x3 : Int) (y0 : Int) (v : (OO × Int) ⊕ ((OO))), b_X11_setPrices_48 o x1 x2 x3 y0 = some v → (∀ (o : OO) (x2 : Int), v = .inl (o, x2) → Go X 2 (wC g ad o) [(0, .ref (ad 0)), (1, iv x1), (2, iv x2)] []) → (∀ (o : OO), v = .inr (o) → Go X 89 (wC g ad o) [] []) → Go X 48 (wC g ad o) [(0, .ref (ad 0)), (1, iv x1), (2, iv x2), (3, iv x3)] [iv y0] := by
    intro o x1 x2 x3 y0 v h k0 k1
    unfold b_X11_setPrices_48 at h
    refine g_istore E [(4, iv y0), (0, .ref (ad 0)), (1, iv x1), (2, iv x2), (3, iv x3)] gdX11_setPrices_48 (by decide) rfl ?_
    refine g_iload_n E gdX11_setPrices_50 rfl 4 rfl ?_
    refine g_bipush E gdX11_setPrices_51 (by decide) ?_
    refine g_icmp_eq E 72 gdX11_setPrices_53 (by decide) h (fun h => ?_) (fun h => ?_)
    ·
      refine g_sub E [1, 2, 3, 0] rfl ?_
      exact j72 o x1 x2 y0 v h k0 k1
    ·
      refine g_iload E gdX11_setPrices_56 0 rfl ?_
      refine g_aload_n E gdX11_setPrices_58 rfl 1 rfl ?_
      refine g_get (T := TX11) E fw_X11 0 (wC_0 g ad o) rfl 3 (by decide) w_461 rfl rfl gdX11_setPrices_59 ?_
      refine g_iload_n E gdX11_setPrices_62 rfl 4 rfl ?_
      obtain ⟨r3, hc4, h⟩ := qB_of h
      refine g_Vi (r := r3) (As := [iv x3]) (rest := [iv y0]) (w := wC g ad o) E (c_X1_latestWorth l g ad o x3 r3 hc4) okm_X1_latestWorth okw_X1_latestWorth w_675 rfl (wC_10 g ad o) rfl rfl (Nat.le_of_ble_eq_true rfl) ⟨Nat.le_of_ble_eq_true rfl, Nat.le_of_ble_eq_true rfl⟩ gdX11_setPrices_63 ?_
      refine g_bipush E gdX11_setPrices_66 (by decide) ?_
      obtain ⟨hd5, h⟩ := qDv_of h
      refine g_idiv E hd5 gdX11_setPrices_68 ?_
      refine g_iadd E gdX11_setPrices_69 ?_
      obtain ⟨n6, e_n6, h⟩ := qNm_of h
      refine g_nmi e_n6 ?_
      refine g_istore E [(4, iv n6), (0, .ref (ad 0)), (1, iv x1), (2, iv x2), (3, iv x3)] gdX11_setPrices_70 (by decide) rfl ?_
      refine g_sub E [1, 2, 3, 0] rfl ?_
      exact j72 o x1 x2 n6 v h k0 k1
  have l2 : ∀ (x1 : Int) (r : (OO)) (s0 : OO × Int), loopW (fun s => l_X11_setPrices_2 x1 s.1 s.2) s0 = some r → (∀ (o : OO), r = (o) → Go X 89 (wC g ad o) [] []) → Go X 2 (wC g ad s0.1) [(0, .ref (ad 0)), (1, iv x1), (2, iv s0.2)] [] := by
    intro x1 r s0 h k1
    refine loop_rule (Head := fun s0 => Go X 2 (wC g ad s0.1) [(0, .ref (ad 0)), (1, iv x1), (2, iv s0.2)] []) h ?_
    intro s v h kk kx
    obtain ⟨o, x2⟩ := s
    have h : l_X11_setPrices_2 x1 o x2 = some v := h
    have k0 : ∀ (o : OO) (x2 : Int), v = .inl (o, x2) → Go X 2 (wC g ad o) [(0, .ref (ad 0)), (1, iv x1), (2, iv x2)] [] := fun o x2 e => kk (o, x2) e
    have k1 : ∀ (o : OO), v = .inr (o) → Go X 89 (wC g ad o) [] [] := fun o e => k1 o (kx _ e).symm
    unfold l_X11_setPrices_2 at h
    refine g_iload_n E gdX11_setPrices_2 rfl 2 rfl ?_
    refine g_bipush E gdX11_setPrices_3 (by decide) ?_
    refine g_icmp_ge E 89 gdX11_setPrices_5 (by decide) h (fun h => ?_) (fun h => ?_)
    ·
      refine g_sub E [] rfl ?_
      exact k1 o (Option.some.inj h).symm
    ·
      refine g_aload_n E gdX11_setPrices_8 rfl 0 rfl ?_
      refine g_get (T := TX11) E fw_X11 0 (wC_0 g ad o) rfl 3 (by decide) w_461 rfl rfl gdX11_setPrices_9 ?_
      refine g_iload_n E gdX11_setPrices_12 rfl 2 rfl ?_
      obtain ⟨r7, hc8, h⟩ := qB_of h
      refine g_Vi (r := r7) (As := [iv x2]) (rest := []) (w := wC g ad o) E (c_X1_standingOn l g ad o x2 r7 hc8) okm_X1_standingOn okw_X1_standingOn w_624 rfl (wC_10 g ad o) rfl rfl (Nat.le_of_ble_eq_true rfl) ⟨Nat.le_of_ble_eq_true rfl, Nat.le_of_ble_eq_true rfl⟩ gdX11_setPrices_13 ?_
      refine g_istore_n E [(3, iv r7), (0, .ref (ad 0)), (1, iv x1), (2, iv x2)] gdX11_setPrices_16 rfl (by decide) rfl ?_
      refine g_aload_n E gdX11_setPrices_17 rfl 1 rfl ?_
      refine g_get (T := TX11) E fw_X11 0 (wC_0 g ad o) rfl 2 (by decide) w_460 rfl rfl gdX11_setPrices_18 ?_
      refine g_iload_n E gdX11_setPrices_21 rfl 3 rfl ?_
      obtain ⟨r9, hc10, h⟩ := qB_of h
      refine g_Vi (r := r9) (As := [iv x2]) (rest := []) (w := wC g ad o) E (c_X3_isWater l g ad o x2 r9 hc10) okm_X3_isWater okw_X3_isWater w_651 rfl (wC_7 g ad o) rfl rfl (Nat.le_of_ble_eq_true rfl) ⟨Nat.le_of_ble_eq_true rfl, Nat.le_of_ble_eq_true rfl⟩ gdX11_setPrices_22 ?_
      refine g_if_eq E 32 gdX11_setPrices_25 (by decide) h (fun h => ?_) (fun h => ?_)
      ·
        refine g_aload_n E gdX11_setPrices_32 rfl 1 rfl ?_
        refine g_get (T := TX11) E fw_X11 0 (wC_0 g ad o) rfl 0 (by decide) w_458 rfl rfl gdX11_setPrices_33 ?_
        refine g_iload_n E gdX11_setPrices_36 rfl 2 rfl ?_
        refine g_aload_n E gdX11_setPrices_37 rfl 1 rfl ?_
        refine g_get (T := TX11) E fw_X11 0 (wC_0 g ad o) rfl 2 (by decide) w_460 rfl rfl gdX11_setPrices_38 ?_
        refine g_iload_n E gdX11_setPrices_41 rfl 3 rfl ?_
        obtain ⟨r11, hc12, h⟩ := qB_of h
        refine g_Vi (r := r11) (As := [iv x2]) (rest := [iv x1, .ref (ad 1)]) (w := wC g ad o) E (c_X3_sortOf l g ad o x2 r11 hc12) okm_X3_sortOf okw_X3_sortOf w_804 rfl (wC_7 g ad o) rfl rfl (Nat.le_of_ble_eq_true rfl) ⟨Nat.le_of_ble_eq_true rfl, Nat.le_of_ble_eq_true rfl⟩ gdX11_setPrices_42 ?_
        obtain ⟨r13, hc14, h⟩ := qB_of h
        refine g_Vi (r := r13) (As := [iv x1, iv r11]) (rest := []) (w := wC g ad o) E (c_X8_at l g ad o x1 r11 r13 hc14) okm_X8_at okw_X8_at w_808 rfl (wC_1 g ad o) rfl rfl (Nat.le_of_ble_eq_true rfl) ⟨Nat.le_of_ble_eq_true rfl, Nat.le_of_ble_eq_true rfl⟩ gdX11_setPrices_45 ?_
        refine g_sub E [1, 2, 3, 0] rfl ?_
        exact j48 o x1 x2 r7 r13 v h k0 k1
      ·
        refine g_iconst E gdX11_setPrices_28 ?_
        refine g_goto E 48 gdX11_setPrices_29 (by decide) ?_
        refine g_sub E [1, 2, 3, 0] rfl ?_
        exact j48 o x1 x2 r7 0 v h k0 k1
  have j2 : ∀ (o : OO) (x1 : Int) (x2 : Int), e_X11_setPrices_2 o x1 x2 = some v → Go X 2 (wC g ad o) [(0, .ref (ad 0)), (1, iv x1), (2, iv x2)] [] := by
    intro o x1 x2 h
    unfold e_X11_setPrices_2 at h
    obtain ⟨r, hr, h⟩ := qB_of h
    refine l2 x1 r _ hr ?_
    ·
      intro u0 e
      have e := e.symm
      subst e
      have h : b_X11_setPrices_89 u0 = some v := h
      exact j89 u0 h
  unfold s_X11_setPrices at h
  refine g_iconst E gdX11_setPrices_0 ?_
  refine g_istore_n E [(2, iv 0), (0, .ref (ad 0)), (1, iv x1)] gdX11_setPrices_1 rfl (by decide) rfl ?_
  refine g_sub E [1, 2, 0] rfl ?_
  exact j2 o x1 0 h
