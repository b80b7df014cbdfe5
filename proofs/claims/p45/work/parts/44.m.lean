set_option maxRecDepth 200000 in
theorem w_1086 : Cond.methodLink "CityRoad" 350 yX2_heardOn ∈ tb := tb_mem 1086 (by decide +kernel) rfl
set_option maxRecDepth 200000 in
theorem w_1093 : Cond.code yX2_heards cX2_heards 1 (some .int) ∈ tb := tb_mem 1093 (by rfl) rfl
set_option maxRecDepth 200000 in
theorem w_1091 : Cond.instanceMethod yX2_heards ∈ tb := tb_mem 1091 (by decide +kernel) rfl
set_option maxRecDepth 200000 in
theorem w_1092 : Cond.selects "CityRoad$Dealings" yX2_heards yX2_heards ∈ tb := tb_mem 1092 (by decide +kernel) rfl
set_option maxRecDepth 200000 in
theorem w_1090 : Cond.methodLink "CityRoad" 353 yX2_heards ∈ tb := tb_mem 1090 (by decide +kernel) rfl
set_option maxRecDepth 200000 in
theorem w_1097 : Cond.code yX2_addHeard cX2_addHeard 4 none ∈ tb := tb_mem 1097 (by rfl) rfl
set_option maxRecDepth 200000 in
theorem w_1095 : Cond.instanceMethod yX2_addHeard ∈ tb := tb_mem 1095 (by decide +kernel) rfl
set_option maxRecDepth 200000 in
theorem w_1096 : Cond.selects "CityRoad$Dealings" yX2_addHeard yX2_addHeard ∈ tb := tb_mem 1096 (by decide +kernel) rfl
set_option maxRecDepth 200000 in
theorem w_1094 : Cond.methodLink "CityRoad" 356 yX2_addHeard ∈ tb := tb_mem 1094 (by decide +kernel) rfl
set_option maxRecDepth 200000 in
theorem w_260 : Cond.fieldLink "CityRoad$Marks" 42 "CityRoad$Marks" "parties" "[I" ∈ tb := tb_mem 260 (by decide +kernel) rfl
set_option maxRecDepth 200000 in
theorem w_262 : Cond.fieldLink "CityRoad$Marks" 48 "CityRoad$Marks" "hours" "[I" ∈ tb := tb_mem 262 (by decide +kernel) rfl
set_option maxRecDepth 200000 in
theorem w_1010 : Cond.code yX4_setHearing cX4_setHearing 5 none ∈ tb := tb_mem 1010 (by rfl) rfl
set_option maxRecDepth 200000 in
theorem w_1008 : Cond.instanceMethod yX4_setHearing ∈ tb := tb_mem 1008 (by decide +kernel) rfl
set_option maxRecDepth 200000 in
theorem w_1009 : Cond.selects "CityRoad$Marks" yX4_setHearing yX4_setHearing ∈ tb := tb_mem 1009 (by decide +kernel) rfl
set_option maxRecDepth 200000 in
theorem w_1007 : Cond.methodLink "CityRoad" 317 yX4_setHearing ∈ tb := tb_mem 1007 (by decide +kernel) rfl
set_option maxRecDepth 200000 in
theorem w_695 : Cond.methodLink "CityRoad" 187 yX1_trait ∈ tb := tb_mem 695 (by decide +kernel) rfl
set_option maxRecDepth 200000 in
theorem w_835 : Cond.methodLink "CityRoad$Ground" 18 Lib.Math.abs.name ∈ tb := tb_mem 835 (by decide +kernel) rfl
set_option maxRecDepth 200000 in
theorem w_836 : Cond.static Lib.Math.abs.name ∈ tb := tb_mem 836 (by decide +kernel) rfl
set_option maxRecDepth 200000 in
theorem w_837 : Cond.code Lib.Math.abs.name Lib.Math.abs.code 1 (some .int) ∈ tb := tb_mem 837 (by rfl) rfl
set_option maxRecDepth 200000 in
theorem w_990 : Cond.code yX5_homeOf cX5_homeOf 2 (some .int) ∈ tb := tb_mem 990 (by rfl) rfl
set_option maxRecDepth 200000 in
theorem w_988 : Cond.instanceMethod yX5_homeOf ∈ tb := tb_mem 988 (by decide +kernel) rfl
set_option maxRecDepth 200000 in
theorem w_989 : Cond.selects "CityRoad$Persons" yX5_homeOf yX5_homeOf ∈ tb := tb_mem 989 (by decide +kernel) rfl
set_option maxRecDepth 200000 in
theorem w_987 : Cond.methodLink "CityRoad" 308 yX5_homeOf ∈ tb := tb_mem 987 (by decide +kernel) rfl
set_option maxRecDepth 200000 in
theorem w_1030 : Cond.code yX4_partyOf cX4_partyOf 2 (some .int) ∈ tb := tb_mem 1030 (by rfl) rfl
set_option maxRecDepth 200000 in
theorem w_1028 : Cond.instanceMethod yX4_partyOf ∈ tb := tb_mem 1028 (by decide +kernel) rfl
set_option maxRecDepth 200000 in
theorem w_1029 : Cond.selects "CityRoad$Marks" yX4_partyOf yX4_partyOf ∈ tb := tb_mem 1029 (by decide +kernel) rfl
set_option maxRecDepth 200000 in
theorem w_1027 : Cond.methodLink "CityRoad" 325 yX4_partyOf ∈ tb := tb_mem 1027 (by decide +kernel) rfl
set_option maxRecDepth 200000 in
theorem w_1037 : Cond.code yX3_steps cX3_steps 2 (some .int) ∈ tb := tb_mem 1037 (by rfl) rfl
set_option maxRecDepth 200000 in
theorem w_1036 : Cond.static yX3_steps ∈ tb := tb_mem 1036 (by decide +kernel) rfl
set_option maxRecDepth 200000 in
theorem w_1035 : Cond.methodLink "CityRoad" 521 yX3_steps ∈ tb := tb_mem 1035 (by decide +kernel) rfl
set_option maxRecDepth 200000 in
theorem w_1041 : Cond.code yX4_hourOf cX4_hourOf 2 (some .int) ∈ tb := tb_mem 1041 (by rfl) rfl
set_option maxRecDepth 200000 in
theorem w_1039 : Cond.instanceMethod yX4_hourOf ∈ tb := tb_mem 1039 (by decide +kernel) rfl
set_option maxRecDepth 200000 in
theorem w_1040 : Cond.selects "CityRoad$Marks" yX4_hourOf yX4_hourOf ∈ tb := tb_mem 1040 (by decide +kernel) rfl
set_option maxRecDepth 200000 in
theorem w_1038 : Cond.methodLink "CityRoad" 524 yX4_hourOf ∈ tb := tb_mem 1038 (by decide +kernel) rfl
set_option maxRecDepth 200000 in
theorem w_1045 : Cond.code yX5_canCome cX5_canCome 4 (some .boolean) ∈ tb := tb_mem 1045 (by rfl) rfl
set_option maxRecDepth 200000 in
theorem w_1043 : Cond.instanceMethod yX5_canCome ∈ tb := tb_mem 1043 (by decide +kernel) rfl
set_option maxRecDepth 200000 in
theorem w_1044 : Cond.selects "CityRoad$Persons" yX5_canCome yX5_canCome ∈ tb := tb_mem 1044 (by decide +kernel) rfl
set_option maxRecDepth 200000 in
theorem w_1042 : Cond.methodLink "CityRoad" 527 yX5_canCome ∈ tb := tb_mem 1042 (by decide +kernel) rfl
set_option maxRecDepth 200000 in
theorem w_1237 : Cond.code yX4_dayOf cX4_dayOf 2 (some .int) ∈ tb := tb_mem 1237 (by rfl) rfl
set_option maxRecDepth 200000 in
theorem w_1235 : Cond.instanceMethod yX4_dayOf ∈ tb := tb_mem 1235 (by decide +kernel) rfl
set_option maxRecDepth 200000 in
theorem w_1236 : Cond.selects "CityRoad$Marks" yX4_dayOf yX4_dayOf ∈ tb := tb_mem 1236 (by decide +kernel) rfl
set_option maxRecDepth 200000 in
theorem w_1234 : Cond.methodLink "CityRoad" 530 yX4_dayOf ∈ tb := tb_mem 1234 (by decide +kernel) rfl
set_option maxRecDepth 200000 in
theorem w_1034 : Cond.code yX11_couldCome cX11_couldCome 6 (some .int) ∈ tb := tb_mem 1034 (by rfl) rfl
set_option maxRecDepth 200000 in
theorem w_1033 : Cond.instanceMethod yX11_couldCome ∈ tb := tb_mem 1033 (by decide +kernel) rfl
set_option maxRecDepth 200000 in
theorem w_11 : Cond.selects "CityRoad" yX11_couldCome yX11_couldCome ∈ tb := tb_mem 11 (by decide +kernel) rfl
set_option maxRecDepth 200000 in
theorem w_1031 : Cond.methodLink "CityRoad" 328 yX11_couldCome ∈ tb := tb_mem 1031 (by decide +kernel) rfl
set_option maxRecDepth 200000 in
theorem w_1249 : Cond.code yX4_hangsOn cX4_hangsOn 2 (some .int) ∈ tb := tb_mem 1249 (by rfl) rfl
set_option maxRecDepth 200000 in
theorem w_1247 : Cond.instanceMethod yX4_hangsOn ∈ tb := tb_mem 1247 (by decide +kernel) rfl
set_option maxRecDepth 200000 in
theorem w_1248 : Cond.selects "CityRoad$Marks" yX4_hangsOn yX4_hangsOn ∈ tb := tb_mem 1248 (by decide +kernel) rfl
set_option maxRecDepth 200000 in
theorem w_1246 : Cond.methodLink "CityRoad" 533 yX4_hangsOn ∈ tb := tb_mem 1246 (by decide +kernel) rfl
set_option maxRecDepth 200000 in
theorem w_1233 : Cond.code yX11_isVoidHearing cX11_isVoidHearing 3 (some .boolean) ∈ tb := tb_mem 1233 (by rfl) rfl
set_option maxRecDepth 200000 in
theorem w_1232 : Cond.instanceMethod yX11_isVoidHearing ∈ tb := tb_mem 1232 (by decide +kernel) rfl
set_option maxRecDepth 200000 in
theorem w_22 : Cond.selects "CityRoad" yX11_isVoidHearing yX11_isVoidHearing ∈ tb := tb_mem 22 (by decide +kernel) rfl
set_option maxRecDepth 200000 in
theorem w_1230 : Cond.methodLink "CityRoad" 411 yX11_isVoidHearing ∈ tb := tb_mem 1230 (by decide +kernel) rfl
set_option maxRecDepth 200000 in
theorem w_1245 : Cond.code yX11_isVoidTaking cX11_isVoidTaking 3 (some .boolean) ∈ tb := tb_mem 1245 (by rfl) rfl
set_option maxRecDepth 200000 in
theorem w_1244 : Cond.instanceMethod yX11_isVoidTaking ∈ tb := tb_mem 1244 (by decide +kernel) rfl
set_option maxRecDepth 200000 in
theorem w_23 : Cond.selects "CityRoad" yX11_isVoidTaking yX11_isVoidTaking ∈ tb := tb_mem 23 (by decide +kernel) rfl
set_option maxRecDepth 200000 in
theorem w_1242 : Cond.methodLink "CityRoad" 414 yX11_isVoidTaking ∈ tb := tb_mem 1242 (by decide +kernel) rfl
set_option maxRecDepth 200000 in
theorem w_543 : Cond.methodLink "CityRoad" 109 yX8_holds ∈ tb := tb_mem 543 (by decide +kernel) rfl
set_option maxRecDepth 200000 in
theorem w_550 : Cond.code yX8_exchange cX8_exchange 5 (some .int) ∈ tb := tb_mem 550 (by rfl) rfl
set_option maxRecDepth 200000 in
theorem w_548 : Cond.instanceMethod yX8_exchange ∈ tb := tb_mem 548 (by decide +kernel) rfl
set_option maxRecDepth 200000 in
theorem w_549 : Cond.selects "CityRoad$Shelf" yX8_exchange yX8_exchange ∈ tb := tb_mem 549 (by decide +kernel) rfl
set_option maxRecDepth 200000 in
theorem w_547 : Cond.methodLink "CityRoad" 113 yX8_exchange ∈ tb := tb_mem 547 (by decide +kernel) rfl
set_option maxRecDepth 200000 in
theorem w_466 : Cond.fieldLink "CityRoad" 66 "CityRoad" "ways" "LCityRoad$WaySearch;" ∈ tb := tb_mem 466 (by decide +kernel) rfl
set_option maxRecDepth 200000 in
theorem w_333 : Cond.fieldLink "CityRoad" 507 "CityRoad$WaySearch" "prices" "[I" ∈ tb := tb_mem 333 (by decide +kernel) rfl
set_option maxRecDepth 200000 in
theorem w_678 : Cond.code yX1_latestWorth cX1_latestWorth 2 (some .int) ∈ tb := tb_mem 678 (by rfl) rfl
set_option maxRecDepth 200000 in
theorem w_676 : Cond.instanceMethod yX1_latestWorth ∈ tb := tb_mem 676 (by decide +kernel) rfl
set_option maxRecDepth 200000 in
theorem w_677 : Cond.selects "CityRoad$Buildings" yX1_latestWorth yX1_latestWorth ∈ tb := tb_mem 677 (by decide +kernel) rfl
set_option maxRecDepth 200000 in
theorem w_675 : Cond.methodLink "CityRoad" 174 yX1_latestWorth ∈ tb := tb_mem 675 (by decide +kernel) rfl
set_option maxRecDepth 200000 in
theorem w_807 : Cond.code yX3_sortOf cX3_sortOf 2 (some .int) ∈ tb := tb_mem 807 (by rfl) rfl
set_option maxRecDepth 200000 in
theorem w_805 : Cond.instanceMethod yX3_sortOf ∈ tb := tb_mem 805 (by decide +kernel) rfl
set_option maxRecDepth 200000 in
theorem w_806 : Cond.selects "CityRoad$Ground" yX3_sortOf yX3_sortOf ∈ tb := tb_mem 806 (by decide +kernel) rfl
set_option maxRecDepth 200000 in
theorem w_804 : Cond.methodLink "CityRoad" 501 yX3_sortOf ∈ tb := tb_mem 804 (by decide +kernel) rfl
set_option maxRecDepth 200000 in
theorem w_829 : Cond.code yX3_beside cX3_beside 2 (some .int) ∈ tb := tb_mem 829 (by rfl) rfl
set_option maxRecDepth 200000 in
theorem w_828 : Cond.static yX3_beside ∈ tb := tb_mem 828 (by decide +kernel) rfl
set_option maxRecDepth 200000 in
theorem w_827 : Cond.methodLink "CityRoad$Ground" 32 yX3_beside ∈ tb := tb_mem 827 (by decide +kernel) rfl
set_option maxRecDepth 200000 in
theorem w_834 : Cond.code yX3_slope cX3_slope 3 (some .int) ∈ tb := tb_mem 834 (by rfl) rfl
set_option maxRecDepth 200000 in
theorem w_832 : Cond.instanceMethod yX3_slope ∈ tb := tb_mem 832 (by decide +kernel) rfl
set_option maxRecDepth 200000 in
theorem w_833 : Cond.selects "CityRoad$Ground" yX3_slope yX3_slope ∈ tb := tb_mem 833 (by decide +kernel) rfl
set_option maxRecDepth 200000 in
theorem w_831 : Cond.methodLink "CityRoad$Ground" 40 yX3_slope ∈ tb := tb_mem 831 (by decide +kernel) rfl
set_option maxRecDepth 200000 in
theorem w_826 : Cond.code yX3_onward cX3_onward 5 (some .int) ∈ tb := tb_mem 826 (by rfl) rfl
set_option maxRecDepth 200000 in
theorem w_824 : Cond.instanceMethod yX3_onward ∈ tb := tb_mem 824 (by decide +kernel) rfl
set_option maxRecDepth 200000 in
theorem w_825 : Cond.selects "CityRoad$Ground" yX3_onward yX3_onward ∈ tb := tb_mem 825 (by decide +kernel) rfl
set_option maxRecDepth 200000 in
theorem w_823 : Cond.methodLink "CityRoad$WaySearch" 76 yX3_onward ∈ tb := tb_mem 823 (by decide +kernel) rfl
set_option maxRecDepth 200000 in
theorem w_346 : Cond.fieldLink "CityRoad$WaySearch" 47 "CityRoad$WaySearch" "goal" "I" ∈ tb := tb_mem 346 (by decide +kernel) rfl
set_option maxRecDepth 200000 in
theorem w_343 : Cond.fieldLink "CityRoad$WaySearch" 43 "CityRoad$WaySearch" "waits" "J" ∈ tb := tb_mem 343 (by decide +kernel) rfl
set_option maxRecDepth 200000 in
theorem w_838 : Cond.methodLink "CityRoad$WaySearch" 80 yX3_has ∈ tb := tb_mem 838 (by decide +kernel) rfl
set_option maxRecDepth 200000 in
theorem w_342 : Cond.fieldLink "CityRoad$WaySearch" 26 "CityRoad$WaySearch" "queue" "[I" ∈ tb := tb_mem 342 (by decide +kernel) rfl
set_option maxRecDepth 200000 in
theorem w_344 : Cond.fieldLink "CityRoad$WaySearch" 36 "CityRoad$WaySearch" "first" "I" ∈ tb := tb_mem 344 (by decide +kernel) rfl
set_option maxRecDepth 200000 in
theorem w_345 : Cond.fieldLink "CityRoad$WaySearch" 40 "CityRoad$WaySearch" "waiting" "I" ∈ tb := tb_mem 345 (by decide +kernel) rfl
set_option maxRecDepth 200000 in
theorem w_841 : Cond.methodLink "CityRoad$WaySearch" 70 yX3_bit ∈ tb := tb_mem 841 (by decide +kernel) rfl
set_option maxRecDepth 200000 in
theorem w_849 : Cond.constantLong "CityRoad$WaySearch" 74 (-1) ∈ tb := tb_mem 849 (by decide +kernel) rfl
set_option maxRecDepth 200000 in
theorem w_340 : Cond.fieldLink "CityRoad$WaySearch" 20 "CityRoad$WaySearch" "byWay" "[I" ∈ tb := tb_mem 340 (by decide +kernel) rfl
set_option maxRecDepth 200000 in
theorem w_341 : Cond.fieldLink "CityRoad$WaySearch" 23 "CityRoad$WaySearch" "least" "[I" ∈ tb := tb_mem 341 (by decide +kernel) rfl
set_option maxRecDepth 200000 in
theorem w_858 : Cond.methodLink "CityRoad$WaySearch" 84 Lib.Math.min.name ∈ tb := tb_mem 858 (by decide +kernel) rfl
set_option maxRecDepth 200000 in
theorem w_857 : Cond.code yX10_rest cX10_rest 3 (some .int) ∈ tb := tb_mem 857 (by rfl) rfl
set_option maxRecDepth 200000 in
theorem w_99 : Cond.initialized "CityRoad$WaySearch" ∈ tb := tb_mem 99 (by decide +kernel) rfl
set_option maxRecDepth 200000 in
theorem w_856 : Cond.instanceMethod yX10_rest ∈ tb := tb_mem 856 (by decide +kernel) rfl
set_option maxRecDepth 200000 in
theorem w_8 : Cond.selects "CityRoad$WaySearch" yX10_rest yX10_rest ∈ tb := tb_mem 8 (by decide +kernel) rfl
set_option maxRecDepth 200000 in
theorem w_854 : Cond.methodLink "CityRoad$WaySearch" 90 yX10_rest ∈ tb := tb_mem 854 (by decide +kernel) rfl
set_option maxRecDepth 200000 in
theorem w_817 : Cond.constant "CityRoad$WaySearch" 29 (1000000000) ∈ tb := tb_mem 817 (by decide +kernel) rfl
set_option maxRecDepth 200000 in
theorem w_332 : Cond.fieldLink "CityRoad$WaySearch" 11 "CityRoad$WaySearch" "prices" "[I" ∈ tb := tb_mem 332 (by decide +kernel) rfl
set_option maxRecDepth 200000 in
theorem w_859 : Cond.methodLink "CityRoad$WaySearch" 93 yX3_slope ∈ tb := tb_mem 859 (by decide +kernel) rfl
set_option maxRecDepth 200000 in
theorem w_336 : Cond.fieldLink "CityRoad$WaySearch" 96 "CityRoad$WaySearch" "length" "I" ∈ tb := tb_mem 336 (by decide +kernel) rfl
set_option maxRecDepth 200000 in
theorem w_867 : Cond.code yX10_firstOfLeast cX10_firstOfLeast 6 (some .int) ∈ tb := tb_mem 867 (by rfl) rfl
set_option maxRecDepth 200000 in
theorem w_866 : Cond.instanceMethod yX10_firstOfLeast ∈ tb := tb_mem 866 (by decide +kernel) rfl
set_option maxRecDepth 200000 in
theorem w_10 : Cond.selects "CityRoad$WaySearch" yX10_firstOfLeast yX10_firstOfLeast ∈ tb := tb_mem 10 (by decide +kernel) rfl
set_option maxRecDepth 200000 in
theorem w_864 : Cond.methodLink "CityRoad$WaySearch" 99 yX10_firstOfLeast ∈ tb := tb_mem 864 (by decide +kernel) rfl
set_option maxRecDepth 200000 in
theorem w_868 : Cond.methodLink "CityRoad$WaySearch" 102 yX3_beside ∈ tb := tb_mem 868 (by decide +kernel) rfl
set_option maxRecDepth 200000 in
theorem w_334 : Cond.fieldLink "CityRoad$WaySearch" 17 "CityRoad$WaySearch" "path" "[I" ∈ tb := tb_mem 334 (by decide +kernel) rfl
set_option maxRecDepth 200000 in
theorem w_338 : Cond.fieldLink "CityRoad$WaySearch" 63 "CityRoad$WaySearch" "total" "I" ∈ tb := tb_mem 338 (by decide +kernel) rfl
set_option maxRecDepth 200000 in
theorem w_863 : Cond.code yX10_trace cX10_trace 4 none ∈ tb := tb_mem 863 (by rfl) rfl
set_option maxRecDepth 200000 in
theorem w_862 : Cond.instanceMethod yX10_trace ∈ tb := tb_mem 862 (by decide +kernel) rfl
set_option maxRecDepth 200000 in
theorem w_9 : Cond.selects "CityRoad$WaySearch" yX10_trace yX10_trace ∈ tb := tb_mem 9 (by decide +kernel) rfl
set_option maxRecDepth 200000 in
theorem w_860 : Cond.methodLink "CityRoad$WaySearch" 66 yX10_trace ∈ tb := tb_mem 860 (by decide +kernel) rfl
set_option maxRecDepth 200000 in
theorem w_844 : Cond.constant "CityRoad$WaySearch" 54 (1000000) ∈ tb := tb_mem 844 (by decide +kernel) rfl
set_option maxRecDepth 200000 in
theorem w_848 : Cond.code yX10_next cX10_next 2 (some .int) ∈ tb := tb_mem 848 (by rfl) rfl
set_option maxRecDepth 200000 in
theorem w_847 : Cond.instanceMethod yX10_next ∈ tb := tb_mem 847 (by decide +kernel) rfl
set_option maxRecDepth 200000 in
theorem w_6 : Cond.selects "CityRoad$WaySearch" yX10_next yX10_next ∈ tb := tb_mem 6 (by decide +kernel) rfl
set_option maxRecDepth 200000 in
theorem w_845 : Cond.methodLink "CityRoad$WaySearch" 55 yX10_next ∈ tb := tb_mem 845 (by decide +kernel) rfl
set_option maxRecDepth 200000 in
theorem w_853 : Cond.code yX10_improve cX10_improve 8 (some .boolean) ∈ tb := tb_mem 853 (by rfl) rfl
set_option maxRecDepth 200000 in
theorem w_852 : Cond.instanceMethod yX10_improve ∈ tb := tb_mem 852 (by decide +kernel) rfl
set_option maxRecDepth 200000 in
theorem w_7 : Cond.selects "CityRoad$WaySearch" yX10_improve yX10_improve ∈ tb := tb_mem 7 (by decide +kernel) rfl
set_option maxRecDepth 200000 in
theorem w_850 : Cond.methodLink "CityRoad$WaySearch" 59 yX10_improve ∈ tb := tb_mem 850 (by decide +kernel) rfl
set_option maxRecDepth 200000 in
theorem w_822 : Cond.code yX10_rouseBeside cX10_rouseBeside 6 none ∈ tb := tb_mem 822 (by rfl) rfl
set_option maxRecDepth 200000 in
theorem w_821 : Cond.instanceMethod yX10_rouseBeside ∈ tb := tb_mem 821 (by decide +kernel) rfl
set_option maxRecDepth 200000 in
theorem w_5 : Cond.selects "CityRoad$WaySearch" yX10_rouseBeside yX10_rouseBeside ∈ tb := tb_mem 5 (by decide +kernel) rfl
set_option maxRecDepth 200000 in
theorem w_819 : Cond.methodLink "CityRoad$WaySearch" 50 yX10_rouseBeside ∈ tb := tb_mem 819 (by decide +kernel) rfl
set_option maxRecDepth 200000 in
theorem w_818 : Cond.methodLink "CityRoad$WaySearch" 30 yJ7_fill_53178 ∈ tb := tb_mem 818 (by decide +kernel) rfl
theorem gdX2_heards_0 : decode cX2_heards 0 = .ok (.aload_n 0, 1) := by decide +kernel
theorem gdX2_heards_1 : decode cX2_heards 1 = .ok (.getfield 34, 3) := by decide +kernel
theorem gdX2_heards_4 : decode cX2_heards 4 = .ok (.ireturn, 1) := by decide +kernel
theorem gdX2_addHeard_0 : decode cX2_addHeard 0 = .ok (.aload_n 0, 1) := by decide +kernel
theorem gdX2_addHeard_1 : decode cX2_addHeard 1 = .ok (.getfield 21, 3) := by decide +kernel
theorem gdX2_addHeard_4 : decode cX2_addHeard 4 = .ok (.aload_n 0, 1) := by decide +kernel
theorem gdX2_addHeard_5 : decode cX2_addHeard 5 = .ok (.getfield 34, 3) := by decide +kernel
theorem gdX2_addHeard_8 : decode cX2_addHeard 8 = .ok (.iload_n 1, 1) := by decide +kernel
theorem gdX2_addHeard_9 : decode cX2_addHeard 9 = .ok (.iastore, 1) := by decide +kernel
theorem gdX2_addHeard_10 : decode cX2_addHeard 10 = .ok (.aload_n 0, 1) := by decide +kernel
theorem gdX2_addHeard_11 : decode cX2_addHeard 11 = .ok (.getfield 24, 3) := by decide +kernel
theorem gdX2_addHeard_14 : decode cX2_addHeard 14 = .ok (.aload_n 0, 1) := by decide +kernel
theorem gdX2_addHeard_15 : decode cX2_addHeard 15 = .ok (.getfield 34, 3) := by decide +kernel
theorem gdX2_addHeard_18 : decode cX2_addHeard 18 = .ok (.iload_n 2, 1) := by decide +kernel
theorem gdX2_addHeard_19 : decode cX2_addHeard 19 = .ok (.iastore, 1) := by decide +kernel
theorem gdX2_addHeard_20 : decode cX2_addHeard 20 = .ok (.aload_n 0, 1) := by decide +kernel
theorem gdX2_addHeard_21 : decode cX2_addHeard 21 = .ok (.getfield 27, 3) := by decide +kernel
theorem gdX2_addHeard_24 : decode cX2_addHeard 24 = .ok (.aload_n 0, 1) := by decide +kernel
theorem gdX2_addHeard_25 : decode cX2_addHeard 25 = .ok (.getfield 34, 3) := by decide +kernel
theorem gdX2_addHeard_28 : decode cX2_addHeard 28 = .ok (.iload_n 3, 1) := by decide +kernel
theorem gdX2_addHeard_29 : decode cX2_addHeard 29 = .ok (.iastore, 1) := by decide +kernel
theorem gdX2_addHeard_30 : decode cX2_addHeard 30 = .ok (.aload_n 0, 1) := by decide +kernel
theorem gdX2_addHeard_31 : decode cX2_addHeard 31 = .ok (.dup, 1) := by decide +kernel
theorem gdX2_addHeard_32 : decode cX2_addHeard 32 = .ok (.getfield 34, 3) := by decide +kernel
theorem gdX2_addHeard_35 : decode cX2_addHeard 35 = .ok (.iconst 1, 1) := by decide +kernel
theorem gdX2_addHeard_36 : decode cX2_addHeard 36 = .ok (.iadd, 1) := by decide +kernel
theorem gdX2_addHeard_37 : decode cX2_addHeard 37 = .ok (.putfield 34, 3) := by decide +kernel
theorem gdX2_addHeard_40 : decode cX2_addHeard 40 = .ok (.return_, 1) := by decide +kernel
theorem gdX11_hear_22 : decode cX11_hear 22 = .ok (.iconst (-1), 1) := by decide +kernel
theorem gdX11_hear_23 : decode cX11_hear 23 = .ok (.ireturn, 1) := by decide +kernel
theorem gdX11_hear_0 : decode cX11_hear 0 = .ok (.aload_n 0, 1) := by decide +kernel
theorem gdX11_hear_1 : decode cX11_hear 1 = .ok (.getfield 40, 3) := by decide +kernel
theorem gdX11_hear_4 : decode cX11_hear 4 = .ok (.iload_n 1, 1) := by decide +kernel
theorem gdX11_hear_5 : decode cX11_hear 5 = .ok (.invokevirtual 200, 3) := by decide +kernel
theorem gdX11_hear_8 : decode cX11_hear 8 = .ok (.ifCond .eq 14, 3) := by decide +kernel
theorem gdX11_hear_11 : decode cX11_hear 11 = .ok (.aload_n 0, 1) := by decide +kernel
theorem gdX11_hear_12 : decode cX11_hear 12 = .ok (.getfield 52, 3) := by decide +kernel
theorem gdX11_hear_15 : decode cX11_hear 15 = .ok (.iload_n 2, 1) := by decide +kernel
theorem gdX11_hear_16 : decode cX11_hear 16 = .ok (.invokevirtual 250, 3) := by decide +kernel
theorem gdX11_hear_19 : decode cX11_hear 19 = .ok (.ifCond .ne 5, 3) := by decide +kernel
theorem gdX11_hear_24 : decode cX11_hear 24 = .ok (.aload_n 0, 1) := by decide +kernel
theorem gdX11_hear_25 : decode cX11_hear 25 = .ok (.getfield 52, 3) := by decide +kernel
theorem gdX11_hear_28 : decode cX11_hear 28 = .ok (.iload_n 2, 1) := by decide +kernel
theorem gdX11_hear_29 : decode cX11_hear 29 = .ok (.iconst 1, 1) := by decide +kernel
theorem gdX11_hear_30 : decode cX11_hear 30 = .ok (.invokevirtual 251, 3) := by decide +kernel
theorem gdX11_hear_33 : decode cX11_hear 33 = .ok (.ifCond .ne 9, 3) := by decide +kernel
theorem gdX11_hear_42 : decode cX11_hear 42 = .ok (.aload_n 0, 1) := by decide +kernel
theorem gdX11_hear_43 : decode cX11_hear 43 = .ok (.getfield 59, 3) := by decide +kernel
theorem gdX11_hear_46 : decode cX11_hear 46 = .ok (.iload_n 1, 1) := by decide +kernel
theorem gdX11_hear_47 : decode cX11_hear 47 = .ok (.iload_n 2, 1) := by decide +kernel
theorem gdX11_hear_48 : decode cX11_hear 48 = .ok (.invokevirtual 350, 3) := by decide +kernel
theorem gdX11_hear_51 : decode cX11_hear 51 = .ok (.istore_n 3, 1) := by decide +kernel
theorem gdX11_hear_52 : decode cX11_hear 52 = .ok (.iload_n 3, 1) := by decide +kernel
theorem gdX11_hear_53 : decode cX11_hear 53 = .ok (.bipush (-9), 2) := by decide +kernel
theorem gdX11_hear_55 : decode cX11_hear 55 = .ok (.if_icmp .eq 5, 3) := by decide +kernel
theorem gdX11_hear_60 : decode cX11_hear 60 = .ok (.aload_n 0, 1) := by decide +kernel
theorem gdX11_hear_61 : decode cX11_hear 61 = .ok (.getfield 59, 3) := by decide +kernel
theorem gdX11_hear_64 : decode cX11_hear 64 = .ok (.invokevirtual 353, 3) := by decide +kernel
theorem gdX11_hear_67 : decode cX11_hear 67 = .ok (.bipush 60, 2) := by decide +kernel
theorem gdX11_hear_69 : decode cX11_hear 69 = .ok (.if_icmp .lt 6, 3) := by decide +kernel
theorem gdX11_hear_75 : decode cX11_hear 75 = .ok (.aload_n 0, 1) := by decide +kernel
theorem gdX11_hear_76 : decode cX11_hear 76 = .ok (.getfield 59, 3) := by decide +kernel
theorem gdX11_hear_79 : decode cX11_hear 79 = .ok (.iload_n 1, 1) := by decide +kernel
theorem gdX11_hear_80 : decode cX11_hear 80 = .ok (.iload_n 2, 1) := by decide +kernel
theorem gdX11_hear_81 : decode cX11_hear 81 = .ok (.aload_n 0, 1) := by decide +kernel
theorem gdX11_hear_82 : decode cX11_hear 82 = .ok (.getfield 136, 3) := by decide +kernel
theorem gdX11_hear_85 : decode cX11_hear 85 = .ok (.invokevirtual 356, 3) := by decide +kernel
theorem gdX11_hear_88 : decode cX11_hear 88 = .ok (.aload_n 0, 1) := by decide +kernel
theorem gdX11_hear_89 : decode cX11_hear 89 = .ok (.getfield 136, 3) := by decide +kernel
theorem gdX11_hear_92 : decode cX11_hear 92 = .ok (.ireturn, 1) := by decide +kernel
theorem gdX11_hear_72 : decode cX11_hear 72 = .ok (.bipush (-2), 2) := by decide +kernel
theorem gdX11_hear_74 : decode cX11_hear 74 = .ok (.ireturn, 1) := by decide +kernel
theorem gdX11_hear_58 : decode cX11_hear 58 = .ok (.iload_n 3, 1) := by decide +kernel
theorem gdX11_hear_59 : decode cX11_hear 59 = .ok (.ireturn, 1) := by decide +kernel
theorem gdX11_hear_36 : decode cX11_hear 36 = .ok (.aload_n 0, 1) := by decide +kernel
theorem gdX11_hear_37 : decode cX11_hear 37 = .ok (.iconst 3, 1) := by decide +kernel
theorem gdX11_hear_38 : decode cX11_hear 38 = .ok (.invokevirtual 99, 3) := by decide +kernel
theorem gdX11_hear_41 : decode cX11_hear 41 = .ok (.ireturn, 1) := by decide +kernel
theorem gdX4_setHearing_0 : decode cX4_setHearing 0 = .ok (.aload_n 0, 1) := by decide +kernel
theorem gdX4_setHearing_1 : decode cX4_setHearing 1 = .ok (.getfield 42, 3) := by decide +kernel
theorem gdX4_setHearing_4 : decode cX4_setHearing 4 = .ok (.iload_n 1, 1) := by decide +kernel
theorem gdX4_setHearing_5 : decode cX4_setHearing 5 = .ok (.iload_n 2, 1) := by decide +kernel
theorem gdX4_setHearing_6 : decode cX4_setHearing 6 = .ok (.iastore, 1) := by decide +kernel
theorem gdX4_setHearing_7 : decode cX4_setHearing 7 = .ok (.aload_n 0, 1) := by decide +kernel
theorem gdX4_setHearing_8 : decode cX4_setHearing 8 = .ok (.getfield 48, 3) := by decide +kernel
theorem gdX4_setHearing_11 : decode cX4_setHearing 11 = .ok (.iload_n 1, 1) := by decide +kernel
theorem gdX4_setHearing_12 : decode cX4_setHearing 12 = .ok (.iload_n 3, 1) := by decide +kernel
theorem gdX4_setHearing_13 : decode cX4_setHearing 13 = .ok (.iastore, 1) := by decide +kernel
theorem gdX4_setHearing_14 : decode cX4_setHearing 14 = .ok (.aload_n 0, 1) := by decide +kernel
theorem gdX4_setHearing_15 : decode cX4_setHearing 15 = .ok (.getfield 45, 3) := by decide +kernel
theorem gdX4_setHearing_18 : decode cX4_setHearing 18 = .ok (.iload_n 1, 1) := by decide +kernel
theorem gdX4_setHearing_19 : decode cX4_setHearing 19 = .ok (.iload 4, 2) := by decide +kernel
theorem gdX4_setHearing_21 : decode cX4_setHearing 21 = .ok (.iastore, 1) := by decide +kernel
theorem gdX4_setHearing_22 : decode cX4_setHearing 22 = .ok (.return_, 1) := by decide +kernel
theorem gdX11_hearing_36 : decode cX11_hearing 36 = .ok (.iconst (-1), 1) := by decide +kernel
theorem gdX11_hearing_37 : decode cX11_hearing 37 = .ok (.ireturn, 1) := by decide +kernel
theorem gdX11_hearing_0 : decode cX11_hearing 0 = .ok (.aload_n 0, 1) := by decide +kernel
theorem gdX11_hearing_1 : decode cX11_hearing 1 = .ok (.getfield 52, 3) := by decide +kernel
theorem gdX11_hearing_4 : decode cX11_hearing 4 = .ok (.iload_n 1, 1) := by decide +kernel
theorem gdX11_hearing_5 : decode cX11_hearing 5 = .ok (.invokevirtual 250, 3) := by decide +kernel
theorem gdX11_hearing_8 : decode cX11_hearing 8 = .ok (.ifCond .eq 28, 3) := by decide +kernel
theorem gdX11_hearing_11 : decode cX11_hearing 11 = .ok (.iload_n 2, 1) := by decide +kernel
theorem gdX11_hearing_12 : decode cX11_hearing 12 = .ok (.invokestatic 140, 3) := by decide +kernel
theorem gdX11_hearing_15 : decode cX11_hearing 15 = .ok (.ifCond .eq 21, 3) := by decide +kernel
theorem gdX11_hearing_18 : decode cX11_hearing 18 = .ok (.iload_n 3, 1) := by decide +kernel
theorem gdX11_hearing_19 : decode cX11_hearing 19 = .ok (.ifCond .lt 17, 3) := by decide +kernel
theorem gdX11_hearing_22 : decode cX11_hearing 22 = .ok (.iload_n 3, 1) := by decide +kernel
theorem gdX11_hearing_23 : decode cX11_hearing 23 = .ok (.bipush 23, 2) := by decide +kernel
theorem gdX11_hearing_25 : decode cX11_hearing 25 = .ok (.if_icmp .gt 11, 3) := by decide +kernel
theorem gdX11_hearing_28 : decode cX11_hearing 28 = .ok (.iload 4, 2) := by decide +kernel
theorem gdX11_hearing_30 : decode cX11_hearing 30 = .ok (.invokestatic 180, 3) := by decide +kernel
theorem gdX11_hearing_33 : decode cX11_hearing 33 = .ok (.ifCond .ne 5, 3) := by decide +kernel
theorem gdX11_hearing_38 : decode cX11_hearing 38 = .ok (.aload_n 0, 1) := by decide +kernel
theorem gdX11_hearing_39 : decode cX11_hearing 39 = .ok (.getfield 52, 3) := by decide +kernel
theorem gdX11_hearing_42 : decode cX11_hearing 42 = .ok (.invokevirtual 218, 3) := by decide +kernel
theorem gdX11_hearing_45 : decode cX11_hearing 45 = .ok (.bipush 24, 2) := by decide +kernel
theorem gdX11_hearing_47 : decode cX11_hearing 47 = .ok (.if_icmp .lt 6, 3) := by decide +kernel
theorem gdX11_hearing_53 : decode cX11_hearing 53 = .ok (.aload_n 0, 1) := by decide +kernel
theorem gdX11_hearing_54 : decode cX11_hearing 54 = .ok (.getfield 52, 3) := by decide +kernel
theorem gdX11_hearing_57 : decode cX11_hearing 57 = .ok (.iload_n 1, 1) := by decide +kernel
theorem gdX11_hearing_58 : decode cX11_hearing 58 = .ok (.iconst 1, 1) := by decide +kernel
theorem gdX11_hearing_59 : decode cX11_hearing 59 = .ok (.invokevirtual 251, 3) := by decide +kernel
theorem gdX11_hearing_62 : decode cX11_hearing 62 = .ok (.ifCond .ne 9, 3) := by decide +kernel
theorem gdX11_hearing_71 : decode cX11_hearing 71 = .ok (.iload 4, 2) := by decide +kernel
theorem gdX11_hearing_73 : decode cX11_hearing 73 = .ok (.aload_n 0, 1) := by decide +kernel
theorem gdX11_hearing_74 : decode cX11_hearing 74 = .ok (.getfield 136, 3) := by decide +kernel
theorem gdX11_hearing_77 : decode cX11_hearing 77 = .ok (.if_icmp .ge 6, 3) := by decide +kernel
theorem gdX11_hearing_83 : decode cX11_hearing 83 = .ok (.aload_n 0, 1) := by decide +kernel
theorem gdX11_hearing_84 : decode cX11_hearing 84 = .ok (.getfield 52, 3) := by decide +kernel
theorem gdX11_hearing_87 : decode cX11_hearing 87 = .ok (.bipush 6, 2) := by decide +kernel
theorem gdX11_hearing_89 : decode cX11_hearing 89 = .ok (.aload_n 0, 1) := by decide +kernel
theorem gdX11_hearing_90 : decode cX11_hearing 90 = .ok (.getfield 136, 3) := by decide +kernel
theorem gdX11_hearing_93 : decode cX11_hearing 93 = .ok (.iload_n 1, 1) := by decide +kernel
theorem gdX11_hearing_94 : decode cX11_hearing 94 = .ok (.invokevirtual 235, 3) := by decide +kernel
theorem gdX11_hearing_97 : decode cX11_hearing 97 = .ok (.istore 5, 2) := by decide +kernel
theorem gdX11_hearing_99 : decode cX11_hearing 99 = .ok (.aload_n 0, 1) := by decide +kernel
theorem gdX11_hearing_100 : decode cX11_hearing 100 = .ok (.getfield 52, 3) := by decide +kernel
theorem gdX11_hearing_103 : decode cX11_hearing 103 = .ok (.iload 5, 2) := by decide +kernel
theorem gdX11_hearing_105 : decode cX11_hearing 105 = .ok (.iload_n 2, 1) := by decide +kernel
theorem gdX11_hearing_106 : decode cX11_hearing 106 = .ok (.iload_n 3, 1) := by decide +kernel
theorem gdX11_hearing_107 : decode cX11_hearing 107 = .ok (.iload 4, 2) := by decide +kernel
theorem gdX11_hearing_109 : decode cX11_hearing 109 = .ok (.invokevirtual 317, 3) := by decide +kernel
theorem gdX11_hearing_112 : decode cX11_hearing 112 = .ok (.iload 5, 2) := by decide +kernel
theorem gdX11_hearing_114 : decode cX11_hearing 114 = .ok (.ireturn, 1) := by decide +kernel
theorem gdX11_hearing_80 : decode cX11_hearing 80 = .ok (.bipush (-4), 2) := by decide +kernel
theorem gdX11_hearing_82 : decode cX11_hearing 82 = .ok (.ireturn, 1) := by decide +kernel
theorem gdX11_hearing_65 : decode cX11_hearing 65 = .ok (.aload_n 0, 1) := by decide +kernel
theorem gdX11_hearing_66 : decode cX11_hearing 66 = .ok (.iconst 3, 1) := by decide +kernel
theorem gdX11_hearing_67 : decode cX11_hearing 67 = .ok (.invokevirtual 99, 3) := by decide +kernel
theorem gdX11_hearing_70 : decode cX11_hearing 70 = .ok (.ireturn, 1) := by decide +kernel
theorem gdX11_hearing_50 : decode cX11_hearing 50 = .ok (.bipush (-2), 2) := by decide +kernel
theorem gdX11_hearing_52 : decode cX11_hearing 52 = .ok (.ireturn, 1) := by decide +kernel
theorem gdX11_house_20 : decode cX11_house 20 = .ok (.iconst (-1), 1) := by decide +kernel
theorem gdX11_house_21 : decode cX11_house 21 = .ok (.ireturn, 1) := by decide +kernel
theorem gdX11_house_0 : decode cX11_house 0 = .ok (.aload_n 0, 1) := by decide +kernel
theorem gdX11_house_1 : decode cX11_house 1 = .ok (.getfield 33, 3) := by decide +kernel
theorem gdX11_house_4 : decode cX11_house 4 = .ok (.iload_n 1, 1) := by decide +kernel
theorem gdX11_house_5 : decode cX11_house 5 = .ok (.invokevirtual 170, 3) := by decide +kernel
theorem gdX11_house_8 : decode cX11_house 8 = .ok (.ifCond .eq 12, 3) := by decide +kernel
theorem gdX11_house_11 : decode cX11_house 11 = .ok (.iload_n 2, 1) := by decide +kernel
theorem gdX11_house_12 : decode cX11_house 12 = .ok (.ifCond .lt 8, 3) := by decide +kernel
theorem gdX11_house_15 : decode cX11_house 15 = .ok (.iload_n 2, 1) := by decide +kernel
theorem gdX11_house_16 : decode cX11_house 16 = .ok (.iconst 5, 1) := by decide +kernel
theorem gdX11_house_17 : decode cX11_house 17 = .ok (.if_icmp .le 5, 3) := by decide +kernel
theorem gdX11_house_22 : decode cX11_house 22 = .ok (.aload_n 0, 1) := by decide +kernel
theorem gdX11_house_23 : decode cX11_house 23 = .ok (.aload_n 0, 1) := by decide +kernel
theorem gdX11_house_24 : decode cX11_house 24 = .ok (.getfield 33, 3) := by decide +kernel
theorem gdX11_house_27 : decode cX11_house 27 = .ok (.iload_n 1, 1) := by decide +kernel
theorem gdX11_house_28 : decode cX11_house 28 = .ok (.iload_n 2, 1) := by decide +kernel
theorem gdX11_house_29 : decode cX11_house 29 = .ok (.invokevirtual 187, 3) := by decide +kernel
theorem gdX11_house_32 : decode cX11_house 32 = .ok (.invokevirtual 117, 3) := by decide +kernel
theorem gdX11_house_35 : decode cX11_house 35 = .ok (.ireturn, 1) := by decide +kernel
theorem gdX4_dayOf_0 : decode cX4_dayOf 0 = .ok (.aload_n 0, 1) := by decide +kernel
theorem gdX4_dayOf_1 : decode cX4_dayOf 1 = .ok (.getfield 15, 3) := by decide +kernel
theorem gdX4_dayOf_4 : decode cX4_dayOf 4 = .ok (.iload_n 1, 1) := by decide +kernel
theorem gdX4_dayOf_5 : decode cX4_dayOf 5 = .ok (.iaload, 1) := by decide +kernel
theorem gdX4_dayOf_6 : decode cX4_dayOf 6 = .ok (.ireturn, 1) := by decide +kernel
theorem gdX5_homeOf_0 : decode cX5_homeOf 0 = .ok (.aload_n 0, 1) := by decide +kernel
theorem gdX5_homeOf_1 : decode cX5_homeOf 1 = .ok (.getfield 11, 3) := by decide +kernel
theorem gdX5_homeOf_4 : decode cX5_homeOf 4 = .ok (.iload_n 1, 1) := by decide +kernel
theorem gdX5_homeOf_5 : decode cX5_homeOf 5 = .ok (.iaload, 1) := by decide +kernel
theorem gdX5_homeOf_6 : decode cX5_homeOf 6 = .ok (.ireturn, 1) := by decide +kernel
theorem gdX4_partyOf_0 : decode cX4_partyOf 0 = .ok (.aload_n 0, 1) := by decide +kernel
theorem gdX4_partyOf_1 : decode cX4_partyOf 1 = .ok (.getfield 42, 3) := by decide +kernel
theorem gdX4_partyOf_4 : decode cX4_partyOf 4 = .ok (.iload_n 1, 1) := by decide +kernel
theorem gdX4_partyOf_5 : decode cX4_partyOf 5 = .ok (.iaload, 1) := by decide +kernel
theorem gdX4_partyOf_6 : decode cX4_partyOf 6 = .ok (.ireturn, 1) := by decide +kernel
theorem gdX3_steps_0 : decode cX3_steps 0 = .ok (.iload_n 0, 1) := by decide +kernel
theorem gdX3_steps_1 : decode cX3_steps 1 = .ok (.bipush 8, 2) := by decide +kernel
theorem gdX3_steps_3 : decode cX3_steps 3 = .ok (.irem, 1) := by decide +kernel
theorem gdX3_steps_4 : decode cX3_steps 4 = .ok (.iload_n 1, 1) := by decide +kernel
theorem gdX3_steps_5 : decode cX3_steps 5 = .ok (.bipush 8, 2) := by decide +kernel
theorem gdX3_steps_7 : decode cX3_steps 7 = .ok (.irem, 1) := by decide +kernel
theorem gdX3_steps_8 : decode cX3_steps 8 = .ok (.isub, 1) := by decide +kernel
theorem gdX3_steps_9 : decode cX3_steps 9 = .ok (.invokestatic 18, 3) := by decide +kernel
theorem gdX3_steps_12 : decode cX3_steps 12 = .ok (.iload_n 0, 1) := by decide +kernel
theorem gdX3_steps_13 : decode cX3_steps 13 = .ok (.bipush 8, 2) := by decide +kernel
theorem gdX3_steps_15 : decode cX3_steps 15 = .ok (.idiv, 1) := by decide +kernel
theorem gdX3_steps_16 : decode cX3_steps 16 = .ok (.iload_n 1, 1) := by decide +kernel
theorem gdX3_steps_17 : decode cX3_steps 17 = .ok (.bipush 8, 2) := by decide +kernel
theorem gdX3_steps_19 : decode cX3_steps 19 = .ok (.idiv, 1) := by decide +kernel
theorem gdX3_steps_20 : decode cX3_steps 20 = .ok (.isub, 1) := by decide +kernel
theorem gdX3_steps_21 : decode cX3_steps 21 = .ok (.invokestatic 18, 3) := by decide +kernel
theorem gdX3_steps_24 : decode cX3_steps 24 = .ok (.iadd, 1) := by decide +kernel
theorem gdX3_steps_25 : decode cX3_steps 25 = .ok (.ireturn, 1) := by decide +kernel
theorem gdX4_hourOf_0 : decode cX4_hourOf 0 = .ok (.aload_n 0, 1) := by decide +kernel
theorem gdX4_hourOf_1 : decode cX4_hourOf 1 = .ok (.getfield 48, 3) := by decide +kernel
theorem gdX4_hourOf_4 : decode cX4_hourOf 4 = .ok (.iload_n 1, 1) := by decide +kernel
theorem gdX4_hourOf_5 : decode cX4_hourOf 5 = .ok (.iaload, 1) := by decide +kernel
theorem gdX4_hourOf_6 : decode cX4_hourOf 6 = .ok (.ireturn, 1) := by decide +kernel
theorem gdX5_canCome_43 : decode cX5_canCome 43 = .ok (.ireturn, 1) := by decide +kernel
theorem gdX5_canCome_38 : decode cX5_canCome 38 = .ok (.iconst 1, 1) := by decide +kernel
theorem gdX5_canCome_39 : decode cX5_canCome 39 = .ok (.goto 4, 3) := by decide +kernel
theorem gdX5_canCome_42 : decode cX5_canCome 42 = .ok (.iconst 0, 1) := by decide +kernel
theorem gdX5_canCome_15 : decode cX5_canCome 15 = .ok (.aload_n 0, 1) := by decide +kernel
theorem gdX5_canCome_16 : decode cX5_canCome 16 = .ok (.getfield 15, 3) := by decide +kernel
theorem gdX5_canCome_19 : decode cX5_canCome 19 = .ok (.iload_n 1, 1) := by decide +kernel
theorem gdX5_canCome_20 : decode cX5_canCome 20 = .ok (.iaload, 1) := by decide +kernel
theorem gdX5_canCome_21 : decode cX5_canCome 21 = .ok (.bipush (-9), 2) := by decide +kernel
theorem gdX5_canCome_23 : decode cX5_canCome 23 = .ok (.if_icmp .eq 15, 3) := by decide +kernel
theorem gdX5_canCome_26 : decode cX5_canCome 26 = .ok (.iload_n 3, 1) := by decide +kernel
theorem gdX5_canCome_27 : decode cX5_canCome 27 = .ok (.bipush 9, 2) := by decide +kernel
theorem gdX5_canCome_29 : decode cX5_canCome 29 = .ok (.if_icmp .lt 9, 3) := by decide +kernel
theorem gdX5_canCome_32 : decode cX5_canCome 32 = .ok (.iload_n 3, 1) := by decide +kernel
theorem gdX5_canCome_33 : decode cX5_canCome 33 = .ok (.bipush 16, 2) := by decide +kernel
theorem gdX5_canCome_35 : decode cX5_canCome 35 = .ok (.if_icmp .le 7, 3) := by decide +kernel
theorem gdX5_canCome_0 : decode cX5_canCome 0 = .ok (.aload_n 0, 1) := by decide +kernel
theorem gdX5_canCome_1 : decode cX5_canCome 1 = .ok (.getfield 18, 3) := by decide +kernel
theorem gdX5_canCome_4 : decode cX5_canCome 4 = .ok (.iload_n 1, 1) := by decide +kernel
theorem gdX5_canCome_5 : decode cX5_canCome 5 = .ok (.baload, 1) := by decide +kernel
theorem gdX5_canCome_6 : decode cX5_canCome 6 = .ok (.ifCond .ne 9, 3) := by decide +kernel
theorem gdX5_canCome_9 : decode cX5_canCome 9 = .ok (.iload_n 2, 1) := by decide +kernel
theorem gdX5_canCome_10 : decode cX5_canCome 10 = .ok (.bipush 6, 2) := by decide +kernel
theorem gdX5_canCome_12 : decode cX5_canCome 12 = .ok (.if_icmp .gt 30, 3) := by decide +kernel
theorem gdX11_couldCome_87 : decode cX11_couldCome 87 = .ok (.iload_n 2, 1) := by decide +kernel
theorem gdX11_couldCome_88 : decode cX11_couldCome 88 = .ok (.ireturn, 1) := by decide +kernel
theorem gdX11_couldCome_81 : decode cX11_couldCome 81 = .ok (.iinc 3 1, 3) := by decide +kernel
theorem gdX11_couldCome_84 : decode cX11_couldCome 84 = .ok (.goto (-80), 3) := by decide +kernel
theorem gdX11_couldCome_4 : decode cX11_couldCome 4 = .ok (.iload_n 3, 1) := by decide +kernel
theorem gdX11_couldCome_5 : decode cX11_couldCome 5 = .ok (.aload_n 0, 1) := by decide +kernel
theorem gdX11_couldCome_6 : decode cX11_couldCome 6 = .ok (.getfield 40, 3) := by decide +kernel
theorem gdX11_couldCome_9 : decode cX11_couldCome 9 = .ok (.invokevirtual 190, 3) := by decide +kernel
theorem gdX11_couldCome_12 : decode cX11_couldCome 12 = .ok (.if_icmp .ge 75, 3) := by decide +kernel
theorem gdX11_couldCome_15 : decode cX11_couldCome 15 = .ok (.aload_n 0, 1) := by decide +kernel
theorem gdX11_couldCome_16 : decode cX11_couldCome 16 = .ok (.getfield 40, 3) := by decide +kernel
theorem gdX11_couldCome_19 : decode cX11_couldCome 19 = .ok (.iload_n 3, 1) := by decide +kernel
theorem gdX11_couldCome_20 : decode cX11_couldCome 20 = .ok (.invokevirtual 308, 3) := by decide +kernel
theorem gdX11_couldCome_23 : decode cX11_couldCome 23 = .ok (.istore 4, 2) := by decide +kernel
theorem gdX11_couldCome_25 : decode cX11_couldCome 25 = .ok (.iload 4, 2) := by decide +kernel
theorem gdX11_couldCome_27 : decode cX11_couldCome 27 = .ok (.bipush (-9), 2) := by decide +kernel
theorem gdX11_couldCome_29 : decode cX11_couldCome 29 = .ok (.if_icmp .ne 6, 3) := by decide +kernel
theorem gdX11_couldCome_35 : decode cX11_couldCome 35 = .ok (.aload_n 0, 1) := by decide +kernel
theorem gdX11_couldCome_36 : decode cX11_couldCome 36 = .ok (.getfield 33, 3) := by decide +kernel
theorem gdX11_couldCome_39 : decode cX11_couldCome 39 = .ok (.iload 4, 2) := by decide +kernel
theorem gdX11_couldCome_41 : decode cX11_couldCome 41 = .ok (.invokevirtual 282, 3) := by decide +kernel
theorem gdX11_couldCome_44 : decode cX11_couldCome 44 = .ok (.aload_n 0, 1) := by decide +kernel
theorem gdX11_couldCome_45 : decode cX11_couldCome 45 = .ok (.getfield 52, 3) := by decide +kernel
theorem gdX11_couldCome_48 : decode cX11_couldCome 48 = .ok (.iload_n 1, 1) := by decide +kernel
theorem gdX11_couldCome_49 : decode cX11_couldCome 49 = .ok (.invokevirtual 325, 3) := by decide +kernel
theorem gdX11_couldCome_52 : decode cX11_couldCome 52 = .ok (.invokestatic 521, 3) := by decide +kernel
theorem gdX11_couldCome_55 : decode cX11_couldCome 55 = .ok (.istore 5, 2) := by decide +kernel
theorem gdX11_couldCome_57 : decode cX11_couldCome 57 = .ok (.aload_n 0, 1) := by decide +kernel
theorem gdX11_couldCome_58 : decode cX11_couldCome 58 = .ok (.getfield 40, 3) := by decide +kernel
theorem gdX11_couldCome_61 : decode cX11_couldCome 61 = .ok (.iload_n 3, 1) := by decide +kernel
theorem gdX11_couldCome_62 : decode cX11_couldCome 62 = .ok (.iload 5, 2) := by decide +kernel
theorem gdX11_couldCome_64 : decode cX11_couldCome 64 = .ok (.aload_n 0, 1) := by decide +kernel
theorem gdX11_couldCome_65 : decode cX11_couldCome 65 = .ok (.getfield 52, 3) := by decide +kernel
theorem gdX11_couldCome_68 : decode cX11_couldCome 68 = .ok (.iload_n 1, 1) := by decide +kernel
theorem gdX11_couldCome_69 : decode cX11_couldCome 69 = .ok (.invokevirtual 524, 3) := by decide +kernel
theorem gdX11_couldCome_72 : decode cX11_couldCome 72 = .ok (.invokevirtual 527, 3) := by decide +kernel
theorem gdX11_couldCome_75 : decode cX11_couldCome 75 = .ok (.ifCond .eq 6, 3) := by decide +kernel
theorem gdX11_couldCome_78 : decode cX11_couldCome 78 = .ok (.iinc 2 1, 3) := by decide +kernel
theorem gdX11_couldCome_32 : decode cX11_couldCome 32 = .ok (.goto 49, 3) := by decide +kernel
theorem gdX11_couldCome_0 : decode cX11_couldCome 0 = .ok (.iconst 0, 1) := by decide +kernel
theorem gdX11_couldCome_1 : decode cX11_couldCome 1 = .ok (.istore_n 2, 1) := by decide +kernel
theorem gdX11_couldCome_2 : decode cX11_couldCome 2 = .ok (.iconst 0, 1) := by decide +kernel
theorem gdX11_couldCome_3 : decode cX11_couldCome 3 = .ok (.istore_n 3, 1) := by decide +kernel
theorem gdX11_isVoidHearing_48 : decode cX11_isVoidHearing 48 = .ok (.ireturn, 1) := by decide +kernel
theorem gdX11_isVoidHearing_0 : decode cX11_isVoidHearing 0 = .ok (.aload_n 0, 1) := by decide +kernel
theorem gdX11_isVoidHearing_1 : decode cX11_isVoidHearing 1 = .ok (.getfield 52, 3) := by decide +kernel
theorem gdX11_isVoidHearing_4 : decode cX11_isVoidHearing 4 = .ok (.iload_n 1, 1) := by decide +kernel
theorem gdX11_isVoidHearing_5 : decode cX11_isVoidHearing 5 = .ok (.invokevirtual 530, 3) := by decide +kernel
theorem gdX11_isVoidHearing_8 : decode cX11_isVoidHearing 8 = .ok (.istore_n 2, 1) := by decide +kernel
theorem gdX11_isVoidHearing_9 : decode cX11_isVoidHearing 9 = .ok (.aload_n 0, 1) := by decide +kernel
theorem gdX11_isVoidHearing_10 : decode cX11_isVoidHearing 10 = .ok (.getfield 52, 3) := by decide +kernel
theorem gdX11_isVoidHearing_13 : decode cX11_isVoidHearing 13 = .ok (.iload_n 1, 1) := by decide +kernel
theorem gdX11_isVoidHearing_14 : decode cX11_isVoidHearing 14 = .ok (.invokevirtual 436, 3) := by decide +kernel
theorem gdX11_isVoidHearing_17 : decode cX11_isVoidHearing 17 = .ok (.iload_n 2, 1) := by decide +kernel
theorem gdX11_isVoidHearing_18 : decode cX11_isVoidHearing 18 = .ok (.isub, 1) := by decide +kernel
theorem gdX11_isVoidHearing_19 : decode cX11_isVoidHearing 19 = .ok (.aload_n 0, 1) := by decide +kernel
theorem gdX11_isVoidHearing_20 : decode cX11_isVoidHearing 20 = .ok (.getfield 45, 3) := by decide +kernel
theorem gdX11_isVoidHearing_23 : decode cX11_isVoidHearing 23 = .ok (.bipush 7, 2) := by decide +kernel
theorem gdX11_isVoidHearing_25 : decode cX11_isVoidHearing 25 = .ok (.iload_n 2, 1) := by decide +kernel
theorem gdX11_isVoidHearing_26 : decode cX11_isVoidHearing 26 = .ok (.iload_n 2, 1) := by decide +kernel
theorem gdX11_isVoidHearing_27 : decode cX11_isVoidHearing 27 = .ok (.invokevirtual 212, 3) := by decide +kernel
theorem gdX11_isVoidHearing_30 : decode cX11_isVoidHearing 30 = .ok (.if_icmp .ge 5, 3) := by decide +kernel
theorem gdX11_isVoidHearing_35 : decode cX11_isVoidHearing 35 = .ok (.aload_n 0, 1) := by decide +kernel
theorem gdX11_isVoidHearing_36 : decode cX11_isVoidHearing 36 = .ok (.iload_n 1, 1) := by decide +kernel
theorem gdX11_isVoidHearing_37 : decode cX11_isVoidHearing 37 = .ok (.invokevirtual 328, 3) := by decide +kernel
theorem gdX11_isVoidHearing_40 : decode cX11_isVoidHearing 40 = .ok (.ifCond .ne 7, 3) := by decide +kernel
theorem gdX11_isVoidHearing_47 : decode cX11_isVoidHearing 47 = .ok (.iconst 0, 1) := by decide +kernel
theorem gdX11_isVoidHearing_43 : decode cX11_isVoidHearing 43 = .ok (.iconst 1, 1) := by decide +kernel
theorem gdX11_isVoidHearing_44 : decode cX11_isVoidHearing 44 = .ok (.goto 4, 3) := by decide +kernel
theorem gdX11_isVoidHearing_33 : decode cX11_isVoidHearing 33 = .ok (.iconst 1, 1) := by decide +kernel
theorem gdX11_isVoidHearing_34 : decode cX11_isVoidHearing 34 = .ok (.ireturn, 1) := by decide +kernel
theorem gdX4_hangsOn_0 : decode cX4_hangsOn 0 = .ok (.aload_n 0, 1) := by decide +kernel
theorem gdX4_hangsOn_1 : decode cX4_hangsOn 1 = .ok (.getfield 18, 3) := by decide +kernel
theorem gdX4_hangsOn_4 : decode cX4_hangsOn 4 = .ok (.iload_n 1, 1) := by decide +kernel
theorem gdX4_hangsOn_5 : decode cX4_hangsOn 5 = .ok (.iaload, 1) := by decide +kernel
theorem gdX4_hangsOn_6 : decode cX4_hangsOn 6 = .ok (.ireturn, 1) := by decide +kernel
theorem gdX11_isVoidTaking_75 : decode cX11_isVoidTaking 75 = .ok (.iconst 0, 1) := by decide +kernel
theorem gdX11_isVoidTaking_76 : decode cX11_isVoidTaking 76 = .ok (.ireturn, 1) := by decide +kernel
theorem gdX11_isVoidTaking_83 : decode cX11_isVoidTaking 83 = .ok (.iconst 1, 1) := by decide +kernel
theorem gdX11_isVoidTaking_84 : decode cX11_isVoidTaking 84 = .ok (.ireturn, 1) := by decide +kernel
theorem gdX11_isVoidTaking_77 : decode cX11_isVoidTaking 77 = .ok (.iinc 2 1, 3) := by decide +kernel
theorem gdX11_isVoidTaking_80 : decode cX11_isVoidTaking 80 = .ok (.goto (-78), 3) := by decide +kernel
theorem gdX11_isVoidTaking_2 : decode cX11_isVoidTaking 2 = .ok (.iload_n 2, 1) := by decide +kernel
theorem gdX11_isVoidTaking_3 : decode cX11_isVoidTaking 3 = .ok (.aload_n 0, 1) := by decide +kernel
theorem gdX11_isVoidTaking_4 : decode cX11_isVoidTaking 4 = .ok (.getfield 52, 3) := by decide +kernel
theorem gdX11_isVoidTaking_7 : decode cX11_isVoidTaking 7 = .ok (.invokevirtual 218, 3) := by decide +kernel
theorem gdX11_isVoidTaking_10 : decode cX11_isVoidTaking 10 = .ok (.if_icmp .ge 73, 3) := by decide +kernel
theorem gdX11_isVoidTaking_13 : decode cX11_isVoidTaking 13 = .ok (.aload_n 0, 1) := by decide +kernel
theorem gdX11_isVoidTaking_14 : decode cX11_isVoidTaking 14 = .ok (.getfield 52, 3) := by decide +kernel
theorem gdX11_isVoidTaking_17 : decode cX11_isVoidTaking 17 = .ok (.iload_n 2, 1) := by decide +kernel
theorem gdX11_isVoidTaking_18 : decode cX11_isVoidTaking 18 = .ok (.invokevirtual 302, 3) := by decide +kernel
theorem gdX11_isVoidTaking_21 : decode cX11_isVoidTaking 21 = .ok (.bipush 6, 2) := by decide +kernel
theorem gdX11_isVoidTaking_23 : decode cX11_isVoidTaking 23 = .ok (.if_icmp .ne 54, 3) := by decide +kernel
theorem gdX11_isVoidTaking_26 : decode cX11_isVoidTaking 26 = .ok (.aload_n 0, 1) := by decide +kernel
theorem gdX11_isVoidTaking_27 : decode cX11_isVoidTaking 27 = .ok (.getfield 52, 3) := by decide +kernel
theorem gdX11_isVoidTaking_30 : decode cX11_isVoidTaking 30 = .ok (.iload_n 2, 1) := by decide +kernel
theorem gdX11_isVoidTaking_31 : decode cX11_isVoidTaking 31 = .ok (.invokevirtual 533, 3) := by decide +kernel
theorem gdX11_isVoidTaking_34 : decode cX11_isVoidTaking 34 = .ok (.aload_n 0, 1) := by decide +kernel
theorem gdX11_isVoidTaking_35 : decode cX11_isVoidTaking 35 = .ok (.getfield 52, 3) := by decide +kernel
theorem gdX11_isVoidTaking_38 : decode cX11_isVoidTaking 38 = .ok (.iload_n 1, 1) := by decide +kernel
theorem gdX11_isVoidTaking_39 : decode cX11_isVoidTaking 39 = .ok (.invokevirtual 533, 3) := by decide +kernel
theorem gdX11_isVoidTaking_42 : decode cX11_isVoidTaking 42 = .ok (.if_icmp .eq 6, 3) := by decide +kernel
theorem gdX11_isVoidTaking_48 : decode cX11_isVoidTaking 48 = .ok (.aload_n 0, 1) := by decide +kernel
theorem gdX11_isVoidTaking_49 : decode cX11_isVoidTaking 49 = .ok (.getfield 52, 3) := by decide +kernel
theorem gdX11_isVoidTaking_52 : decode cX11_isVoidTaking 52 = .ok (.iload_n 2, 1) := by decide +kernel
theorem gdX11_isVoidTaking_53 : decode cX11_isVoidTaking 53 = .ok (.invokevirtual 436, 3) := by decide +kernel
theorem gdX11_isVoidTaking_56 : decode cX11_isVoidTaking 56 = .ok (.aload_n 0, 1) := by decide +kernel
theorem gdX11_isVoidTaking_57 : decode cX11_isVoidTaking 57 = .ok (.getfield 52, 3) := by decide +kernel
theorem gdX11_isVoidTaking_60 : decode cX11_isVoidTaking 60 = .ok (.iload_n 1, 1) := by decide +kernel
theorem gdX11_isVoidTaking_61 : decode cX11_isVoidTaking 61 = .ok (.invokevirtual 530, 3) := by decide +kernel
theorem gdX11_isVoidTaking_64 : decode cX11_isVoidTaking 64 = .ok (.if_icmp .gt 13, 3) := by decide +kernel
theorem gdX11_isVoidTaking_67 : decode cX11_isVoidTaking 67 = .ok (.aload_n 0, 1) := by decide +kernel
theorem gdX11_isVoidTaking_68 : decode cX11_isVoidTaking 68 = .ok (.iload_n 2, 1) := by decide +kernel
theorem gdX11_isVoidTaking_69 : decode cX11_isVoidTaking 69 = .ok (.invokevirtual 411, 3) := by decide +kernel
theorem gdX11_isVoidTaking_72 : decode cX11_isVoidTaking 72 = .ok (.ifCond .ne 5, 3) := by decide +kernel
theorem gdX11_isVoidTaking_45 : decode cX11_isVoidTaking 45 = .ok (.goto 32, 3) := by decide +kernel
theorem gdX11_isVoidTaking_0 : decode cX11_isVoidTaking 0 = .ok (.iconst 0, 1) := by decide +kernel
theorem gdX11_isVoidTaking_1 : decode cX11_isVoidTaking 1 = .ok (.istore_n 2, 1) := by decide +kernel
theorem gdX11_isVoid_41 : decode cX11_isVoid 41 = .ok (.ireturn, 1) := by decide +kernel
theorem gdX11_isVoid_60 : decode cX11_isVoid 60 = .ok (.ireturn, 1) := by decide +kernel
theorem gdX11_isVoid_0 : decode cX11_isVoid 0 = .ok (.aload_n 0, 1) := by decide +kernel
theorem gdX11_isVoid_1 : decode cX11_isVoid 1 = .ok (.getfield 52, 3) := by decide +kernel
theorem gdX11_isVoid_4 : decode cX11_isVoid 4 = .ok (.iload_n 1, 1) := by decide +kernel
theorem gdX11_isVoid_5 : decode cX11_isVoid 5 = .ok (.invokevirtual 250, 3) := by decide +kernel
theorem gdX11_isVoid_8 : decode cX11_isVoid 8 = .ok (.ifCond .ne 5, 3) := by decide +kernel
theorem gdX11_isVoid_13 : decode cX11_isVoid 13 = .ok (.aload_n 0, 1) := by decide +kernel
theorem gdX11_isVoid_14 : decode cX11_isVoid 14 = .ok (.getfield 52, 3) := by decide +kernel
theorem gdX11_isVoid_17 : decode cX11_isVoid 17 = .ok (.iload_n 1, 1) := by decide +kernel
theorem gdX11_isVoid_18 : decode cX11_isVoid 18 = .ok (.invokevirtual 302, 3) := by decide +kernel
theorem gdX11_isVoid_21 : decode cX11_isVoid 21 = .ok (.istore_n 2, 1) := by decide +kernel
theorem gdX11_isVoid_22 : decode cX11_isVoid 22 = .ok (.iload_n 2, 1) := by decide +kernel
theorem gdX11_isVoid_23 : decode cX11_isVoid 23 = .ok (.bipush 6, 2) := by decide +kernel
theorem gdX11_isVoid_25 : decode cX11_isVoid 25 = .ok (.if_icmp .ne 17, 3) := by decide +kernel
theorem gdX11_isVoid_42 : decode cX11_isVoid 42 = .ok (.iload_n 2, 1) := by decide +kernel
theorem gdX11_isVoid_43 : decode cX11_isVoid 43 = .ok (.iconst 3, 1) := by decide +kernel
theorem gdX11_isVoid_44 : decode cX11_isVoid 44 = .ok (.if_icmp .ne 17, 3) := by decide +kernel
theorem gdX11_isVoid_61 : decode cX11_isVoid 61 = .ok (.aload_n 0, 1) := by decide +kernel
theorem gdX11_isVoid_62 : decode cX11_isVoid 62 = .ok (.iconst 3, 1) := by decide +kernel
theorem gdX11_isVoid_63 : decode cX11_isVoid 63 = .ok (.invokevirtual 99, 3) := by decide +kernel
theorem gdX11_isVoid_66 : decode cX11_isVoid 66 = .ok (.ireturn, 1) := by decide +kernel
theorem gdX11_isVoid_47 : decode cX11_isVoid 47 = .ok (.aload_n 0, 1) := by decide +kernel
theorem gdX11_isVoid_48 : decode cX11_isVoid 48 = .ok (.iload_n 1, 1) := by decide +kernel
theorem gdX11_isVoid_49 : decode cX11_isVoid 49 = .ok (.invokevirtual 414, 3) := by decide +kernel
theorem gdX11_isVoid_52 : decode cX11_isVoid 52 = .ok (.ifCond .eq 7, 3) := by decide +kernel
theorem gdX11_isVoid_59 : decode cX11_isVoid 59 = .ok (.iconst 0, 1) := by decide +kernel
theorem gdX11_isVoid_55 : decode cX11_isVoid 55 = .ok (.iconst 1, 1) := by decide +kernel
theorem gdX11_isVoid_56 : decode cX11_isVoid 56 = .ok (.goto 4, 3) := by decide +kernel
theorem gdX11_isVoid_28 : decode cX11_isVoid 28 = .ok (.aload_n 0, 1) := by decide +kernel
theorem gdX11_isVoid_29 : decode cX11_isVoid 29 = .ok (.iload_n 1, 1) := by decide +kernel
theorem gdX11_isVoid_30 : decode cX11_isVoid 30 = .ok (.invokevirtual 411, 3) := by decide +kernel
theorem gdX11_isVoid_33 : decode cX11_isVoid 33 = .ok (.ifCond .eq 7, 3) := by decide +kernel
theorem gdX11_isVoid_40 : decode cX11_isVoid 40 = .ok (.iconst 0, 1) := by decide +kernel
theorem gdX11_isVoid_36 : decode cX11_isVoid 36 = .ok (.iconst 1, 1) := by decide +kernel
theorem gdX11_isVoid_37 : decode cX11_isVoid 37 = .ok (.goto 4, 3) := by decide +kernel
theorem gdX11_isVoid_11 : decode cX11_isVoid 11 = .ok (.iconst (-1), 1) := by decide +kernel
theorem gdX11_isVoid_12 : decode cX11_isVoid 12 = .ok (.ireturn, 1) := by decide +kernel
theorem gdX11_judge_33 : decode cX11_judge 33 = .ok (.iconst (-1), 1) := by decide +kernel
theorem gdX11_judge_34 : decode cX11_judge 34 = .ok (.ireturn, 1) := by decide +kernel
theorem gdX11_judge_0 : decode cX11_judge 0 = .ok (.aload_n 0, 1) := by decide +kernel
theorem gdX11_judge_1 : decode cX11_judge 1 = .ok (.getfield 52, 3) := by decide +kernel
theorem gdX11_judge_4 : decode cX11_judge 4 = .ok (.iload_n 1, 1) := by decide +kernel
theorem gdX11_judge_5 : decode cX11_judge 5 = .ok (.invokevirtual 250, 3) := by decide +kernel
theorem gdX11_judge_8 : decode cX11_judge 8 = .ok (.ifCond .eq 25, 3) := by decide +kernel
theorem gdX11_judge_11 : decode cX11_judge 11 = .ok (.aload_n 0, 1) := by decide +kernel
theorem gdX11_judge_12 : decode cX11_judge 12 = .ok (.getfield 12, 3) := by decide +kernel
theorem gdX11_judge_15 : decode cX11_judge 15 = .ok (.iload_n 2, 1) := by decide +kernel
theorem gdX11_judge_16 : decode cX11_judge 16 = .ok (.invokevirtual 95, 3) := by decide +kernel
theorem gdX11_judge_19 : decode cX11_judge 19 = .ok (.ifCond .eq 14, 3) := by decide +kernel
theorem gdX11_judge_22 : decode cX11_judge 22 = .ok (.aload_n 0, 1) := by decide +kernel
theorem gdX11_judge_23 : decode cX11_judge 23 = .ok (.getfield 12, 3) := by decide +kernel
theorem gdX11_judge_26 : decode cX11_judge 26 = .ok (.iload_n 3, 1) := by decide +kernel
theorem gdX11_judge_27 : decode cX11_judge 27 = .ok (.invokevirtual 95, 3) := by decide +kernel
theorem gdX11_judge_30 : decode cX11_judge 30 = .ok (.ifCond .ne 5, 3) := by decide +kernel
theorem gdX11_judge_35 : decode cX11_judge 35 = .ok (.aload_n 0, 1) := by decide +kernel
theorem gdX11_judge_36 : decode cX11_judge 36 = .ok (.getfield 52, 3) := by decide +kernel
theorem gdX11_judge_39 : decode cX11_judge 39 = .ok (.iload_n 1, 1) := by decide +kernel
theorem gdX11_judge_40 : decode cX11_judge 40 = .ok (.iconst 1, 1) := by decide +kernel
theorem gdX11_judge_41 : decode cX11_judge 41 = .ok (.invokevirtual 251, 3) := by decide +kernel
theorem gdX11_judge_44 : decode cX11_judge 44 = .ok (.ifCond .ne 9, 3) := by decide +kernel
theorem gdX11_judge_53 : decode cX11_judge 53 = .ok (.aload_n 0, 1) := by decide +kernel
theorem gdX11_judge_54 : decode cX11_judge 54 = .ok (.iload_n 2, 1) := by decide +kernel
theorem gdX11_judge_55 : decode cX11_judge 55 = .ok (.iload_n 3, 1) := by decide +kernel
theorem gdX11_judge_56 : decode cX11_judge 56 = .ok (.invokevirtual 459, 3) := by decide +kernel
theorem gdX11_judge_59 : decode cX11_judge 59 = .ok (.istore 4, 2) := by decide +kernel
theorem gdX11_judge_61 : decode cX11_judge 61 = .ok (.iload 4, 2) := by decide +kernel
theorem gdX11_judge_63 : decode cX11_judge 63 = .ok (.ifCond .eq 10, 3) := by decide +kernel
theorem gdX11_judge_73 : decode cX11_judge 73 = .ok (.aload_n 0, 1) := by decide +kernel
theorem gdX11_judge_74 : decode cX11_judge 74 = .ok (.aload_n 0, 1) := by decide +kernel
theorem gdX11_judge_75 : decode cX11_judge 75 = .ok (.iload_n 1, 1) := by decide +kernel
theorem gdX11_judge_76 : decode cX11_judge 76 = .ok (.iload_n 2, 1) := by decide +kernel
theorem gdX11_judge_77 : decode cX11_judge 77 = .ok (.iload_n 3, 1) := by decide +kernel
theorem gdX11_judge_78 : decode cX11_judge 78 = .ok (.invokevirtual 462, 3) := by decide +kernel
theorem gdX11_judge_81 : decode cX11_judge 81 = .ok (.invokevirtual 117, 3) := by decide +kernel
theorem gdX11_judge_84 : decode cX11_judge 84 = .ok (.ireturn, 1) := by decide +kernel
theorem gdX11_judge_66 : decode cX11_judge 66 = .ok (.aload_n 0, 1) := by decide +kernel
theorem gdX11_judge_67 : decode cX11_judge 67 = .ok (.iload 4, 2) := by decide +kernel
theorem gdX11_judge_69 : decode cX11_judge 69 = .ok (.invokevirtual 99, 3) := by decide +kernel
theorem gdX11_judge_72 : decode cX11_judge 72 = .ok (.ireturn, 1) := by decide +kernel
theorem gdX11_judge_47 : decode cX11_judge 47 = .ok (.aload_n 0, 1) := by decide +kernel
theorem gdX11_judge_48 : decode cX11_judge 48 = .ok (.iconst 3, 1) := by decide +kernel
theorem gdX11_judge_49 : decode cX11_judge 49 = .ok (.invokevirtual 99, 3) := by decide +kernel
theorem gdX11_judge_52 : decode cX11_judge 52 = .ok (.ireturn, 1) := by decide +kernel
theorem gdX11_later_16 : decode cX11_later 16 = .ok (.iconst (-1), 1) := by decide +kernel
theorem gdX11_later_17 : decode cX11_later 17 = .ok (.ireturn, 1) := by decide +kernel
theorem gdX11_later_0 : decode cX11_later 0 = .ok (.iload_n 1, 1) := by decide +kernel
theorem gdX11_later_1 : decode cX11_later 1 = .ok (.ifCond .lt 15, 3) := by decide +kernel
theorem gdX11_later_4 : decode cX11_later 4 = .ok (.iload_n 1, 1) := by decide +kernel
theorem gdX11_later_5 : decode cX11_later 5 = .ok (.sipush 999, 3) := by decide +kernel
theorem gdX11_later_8 : decode cX11_later 8 = .ok (.aload_n 0, 1) := by decide +kernel
theorem gdX11_later_9 : decode cX11_later 9 = .ok (.getfield 136, 3) := by decide +kernel
theorem gdX11_later_12 : decode cX11_later 12 = .ok (.isub, 1) := by decide +kernel
theorem gdX11_later_13 : decode cX11_later 13 = .ok (.if_icmp .le 5, 3) := by decide +kernel
theorem gdX11_later_18 : decode cX11_later 18 = .ok (.aload_n 0, 1) := by decide +kernel
theorem gdX11_later_19 : decode cX11_later 19 = .ok (.dup, 1) := by decide +kernel
theorem gdX11_later_20 : decode cX11_later 20 = .ok (.getfield 136, 3) := by decide +kernel
theorem gdX11_later_23 : decode cX11_later 23 = .ok (.iload_n 1, 1) := by decide +kernel
theorem gdX11_later_24 : decode cX11_later 24 = .ok (.iadd, 1) := by decide +kernel
theorem gdX11_later_25 : decode cX11_later 25 = .ok (.putfield 136, 3) := by decide +kernel
theorem gdX11_later_28 : decode cX11_later 28 = .ok (.aload_n 0, 1) := by decide +kernel
theorem gdX11_later_29 : decode cX11_later 29 = .ok (.getfield 136, 3) := by decide +kernel
theorem gdX11_later_32 : decode cX11_later 32 = .ok (.ireturn, 1) := by decide +kernel
theorem gdX8_exchange_0 : decode cX8_exchange 0 = .ok (.aload_n 0, 1) := by decide +kernel
theorem gdX8_exchange_1 : decode cX8_exchange 1 = .ok (.getfield 13, 3) := by decide +kernel
theorem gdX8_exchange_4 : decode cX8_exchange 4 = .ok (.iload_n 1, 1) := by decide +kernel
theorem gdX8_exchange_5 : decode cX8_exchange 5 = .ok (.bipush 40, 2) := by decide +kernel
theorem gdX8_exchange_7 : decode cX8_exchange 7 = .ok (.imul, 1) := by decide +kernel
theorem gdX8_exchange_8 : decode cX8_exchange 8 = .ok (.iload_n 2, 1) := by decide +kernel
theorem gdX8_exchange_9 : decode cX8_exchange 9 = .ok (.iadd, 1) := by decide +kernel
theorem gdX8_exchange_10 : decode cX8_exchange 10 = .ok (.iaload, 1) := by decide +kernel
theorem gdX8_exchange_11 : decode cX8_exchange 11 = .ok (.istore 4, 2) := by decide +kernel
theorem gdX8_exchange_13 : decode cX8_exchange 13 = .ok (.aload_n 0, 1) := by decide +kernel
theorem gdX8_exchange_14 : decode cX8_exchange 14 = .ok (.getfield 13, 3) := by decide +kernel
theorem gdX8_exchange_17 : decode cX8_exchange 17 = .ok (.iload_n 1, 1) := by decide +kernel
theorem gdX8_exchange_18 : decode cX8_exchange 18 = .ok (.bipush 40, 2) := by decide +kernel
theorem gdX8_exchange_20 : decode cX8_exchange 20 = .ok (.imul, 1) := by decide +kernel
theorem gdX8_exchange_21 : decode cX8_exchange 21 = .ok (.iload_n 2, 1) := by decide +kernel
theorem gdX8_exchange_22 : decode cX8_exchange 22 = .ok (.iadd, 1) := by decide +kernel
theorem gdX8_exchange_23 : decode cX8_exchange 23 = .ok (.iload_n 3, 1) := by decide +kernel
theorem gdX8_exchange_24 : decode cX8_exchange 24 = .ok (.iastore, 1) := by decide +kernel
theorem gdX8_exchange_25 : decode cX8_exchange 25 = .ok (.iload 4, 2) := by decide +kernel
theorem gdX8_exchange_27 : decode cX8_exchange 27 = .ok (.ireturn, 1) := by decide +kernel
theorem gdX11_lay_0 : decode cX11_lay 0 = .ok (.aload_n 0, 1) := by decide +kernel
theorem gdX11_lay_1 : decode cX11_lay 1 = .ok (.getfield 12, 3) := by decide +kernel
theorem gdX11_lay_4 : decode cX11_lay 4 = .ok (.iload_n 1, 1) := by decide +kernel
theorem gdX11_lay_5 : decode cX11_lay 5 = .ok (.invokevirtual 95, 3) := by decide +kernel
theorem gdX11_lay_8 : decode cX11_lay 8 = .ok (.ifCond .ne 5, 3) := by decide +kernel
theorem gdX11_lay_13 : decode cX11_lay 13 = .ok (.aload_n 0, 1) := by decide +kernel
theorem gdX11_lay_14 : decode cX11_lay 14 = .ok (.getfield 12, 3) := by decide +kernel
theorem gdX11_lay_17 : decode cX11_lay 17 = .ok (.iload_n 1, 1) := by decide +kernel
theorem gdX11_lay_18 : decode cX11_lay 18 = .ok (.invokevirtual 106, 3) := by decide +kernel
theorem gdX11_lay_21 : decode cX11_lay 21 = .ok (.ifCond .ne 9, 3) := by decide +kernel
theorem gdX11_lay_30 : decode cX11_lay 30 = .ok (.aload_n 0, 1) := by decide +kernel
theorem gdX11_lay_31 : decode cX11_lay 31 = .ok (.getfield 12, 3) := by decide +kernel
theorem gdX11_lay_34 : decode cX11_lay 34 = .ok (.iload_n 1, 1) := by decide +kernel
theorem gdX11_lay_35 : decode cX11_lay 35 = .ok (.iload_n 2, 1) := by decide +kernel
theorem gdX11_lay_36 : decode cX11_lay 36 = .ok (.invokevirtual 109, 3) := by decide +kernel
theorem gdX11_lay_39 : decode cX11_lay 39 = .ok (.ifCond .ne 9, 3) := by decide +kernel
theorem gdX11_lay_48 : decode cX11_lay 48 = .ok (.aload_n 0, 1) := by decide +kernel
theorem gdX11_lay_49 : decode cX11_lay 49 = .ok (.aload_n 0, 1) := by decide +kernel
theorem gdX11_lay_50 : decode cX11_lay 50 = .ok (.getfield 12, 3) := by decide +kernel
theorem gdX11_lay_53 : decode cX11_lay 53 = .ok (.iload_n 1, 1) := by decide +kernel
theorem gdX11_lay_54 : decode cX11_lay 54 = .ok (.iload_n 2, 1) := by decide +kernel
theorem gdX11_lay_55 : decode cX11_lay 55 = .ok (.iload_n 3, 1) := by decide +kernel
theorem gdX11_lay_56 : decode cX11_lay 56 = .ok (.invokevirtual 113, 3) := by decide +kernel
theorem gdX11_lay_59 : decode cX11_lay 59 = .ok (.invokevirtual 117, 3) := by decide +kernel
theorem gdX11_lay_62 : decode cX11_lay 62 = .ok (.ireturn, 1) := by decide +kernel
theorem gdX11_lay_42 : decode cX11_lay 42 = .ok (.aload_n 0, 1) := by decide +kernel
theorem gdX11_lay_43 : decode cX11_lay 43 = .ok (.iconst 2, 1) := by decide +kernel
theorem gdX11_lay_44 : decode cX11_lay 44 = .ok (.invokevirtual 99, 3) := by decide +kernel
theorem gdX11_lay_47 : decode cX11_lay 47 = .ok (.ireturn, 1) := by decide +kernel
theorem gdX11_lay_24 : decode cX11_lay 24 = .ok (.aload_n 0, 1) := by decide +kernel
theorem gdX11_lay_25 : decode cX11_lay 25 = .ok (.iconst 1, 1) := by decide +kernel
theorem gdX11_lay_26 : decode cX11_lay 26 = .ok (.invokevirtual 99, 3) := by decide +kernel
theorem gdX11_lay_29 : decode cX11_lay 29 = .ok (.ireturn, 1) := by decide +kernel
theorem gdX11_lay_11 : decode cX11_lay 11 = .ok (.iconst (-1), 1) := by decide +kernel
theorem gdX11_lay_12 : decode cX11_lay 12 = .ok (.ireturn, 1) := by decide +kernel
theorem gdX1_latestWorth_0 : decode cX1_latestWorth 0 = .ok (.aload_n 0, 1) := by decide +kernel
theorem gdX1_latestWorth_1 : decode cX1_latestWorth 1 = .ok (.getfield 27, 3) := by decide +kernel
theorem gdX1_latestWorth_4 : decode cX1_latestWorth 4 = .ok (.iload_n 1, 1) := by decide +kernel
theorem gdX1_latestWorth_5 : decode cX1_latestWorth 5 = .ok (.iaload, 1) := by decide +kernel
theorem gdX1_latestWorth_6 : decode cX1_latestWorth 6 = .ok (.ireturn, 1) := by decide +kernel
theorem gdX3_sortOf_0 : decode cX3_sortOf 0 = .ok (.aload_n 0, 1) := by decide +kernel
theorem gdX3_sortOf_1 : decode cX3_sortOf 1 = .ok (.getfield 11, 3) := by decide +kernel
theorem gdX3_sortOf_4 : decode cX3_sortOf 4 = .ok (.iload_n 1, 1) := by decide +kernel
theorem gdX3_sortOf_5 : decode cX3_sortOf 5 = .ok (.iaload, 1) := by decide +kernel
theorem gdX3_sortOf_6 : decode cX3_sortOf 6 = .ok (.ireturn, 1) := by decide +kernel
theorem gdX11_setPrices_89 : decode cX11_setPrices 89 = .ok (.return_, 1) := by decide +kernel
theorem gdX11_setPrices_72 : decode cX11_setPrices 72 = .ok (.aload_n 0, 1) := by decide +kernel
theorem gdX11_setPrices_73 : decode cX11_setPrices 73 = .ok (.getfield 66, 3) := by decide +kernel
theorem gdX11_setPrices_76 : decode cX11_setPrices 76 = .ok (.getfield 507, 3) := by decide +kernel
theorem gdX11_setPrices_79 : decode cX11_setPrices 79 = .ok (.iload_n 2, 1) := by decide +kernel
theorem gdX11_setPrices_80 : decode cX11_setPrices 80 = .ok (.iload 4, 2) := by decide +kernel
theorem gdX11_setPrices_82 : decode cX11_setPrices 82 = .ok (.iastore, 1) := by decide +kernel
theorem gdX11_setPrices_83 : decode cX11_setPrices 83 = .ok (.iinc 2 1, 3) := by decide +kernel
theorem gdX11_setPrices_86 : decode cX11_setPrices 86 = .ok (.goto (-84), 3) := by decide +kernel
theorem gdX11_setPrices_48 : decode cX11_setPrices 48 = .ok (.istore 4, 2) := by decide +kernel
theorem gdX11_setPrices_50 : decode cX11_setPrices 50 = .ok (.iload_n 3, 1) := by decide +kernel
theorem gdX11_setPrices_51 : decode cX11_setPrices 51 = .ok (.bipush (-9), 2) := by decide +kernel
theorem gdX11_setPrices_53 : decode cX11_setPrices 53 = .ok (.if_icmp .eq 19, 3) := by decide +kernel
theorem gdX11_setPrices_56 : decode cX11_setPrices 56 = .ok (.iload 4, 2) := by decide +kernel
theorem gdX11_setPrices_58 : decode cX11_setPrices 58 = .ok (.aload_n 0, 1) := by decide +kernel
theorem gdX11_setPrices_59 : decode cX11_setPrices 59 = .ok (.getfield 33, 3) := by decide +kernel
theorem gdX11_setPrices_62 : decode cX11_setPrices 62 = .ok (.iload_n 3, 1) := by decide +kernel
theorem gdX11_setPrices_63 : decode cX11_setPrices 63 = .ok (.invokevirtual 174, 3) := by decide +kernel
theorem gdX11_setPrices_66 : decode cX11_setPrices 66 = .ok (.bipush 100, 2) := by decide +kernel
theorem gdX11_setPrices_68 : decode cX11_setPrices 68 = .ok (.idiv, 1) := by decide +kernel
theorem gdX11_setPrices_69 : decode cX11_setPrices 69 = .ok (.iadd, 1) := by decide +kernel
theorem gdX11_setPrices_70 : decode cX11_setPrices 70 = .ok (.istore 4, 2) := by decide +kernel
theorem gdX11_setPrices_2 : decode cX11_setPrices 2 = .ok (.iload_n 2, 1) := by decide +kernel
theorem gdX11_setPrices_3 : decode cX11_setPrices 3 = .ok (.bipush 64, 2) := by decide +kernel
theorem gdX11_setPrices_5 : decode cX11_setPrices 5 = .ok (.if_icmp .ge 84, 3) := by decide +kernel
theorem gdX11_setPrices_8 : decode cX11_setPrices 8 = .ok (.aload_n 0, 1) := by decide +kernel
theorem gdX11_setPrices_9 : decode cX11_setPrices 9 = .ok (.getfield 33, 3) := by decide +kernel
theorem gdX11_setPrices_12 : decode cX11_setPrices 12 = .ok (.iload_n 2, 1) := by decide +kernel
theorem gdX11_setPrices_13 : decode cX11_setPrices 13 = .ok (.invokevirtual 143, 3) := by decide +kernel
theorem gdX11_setPrices_16 : decode cX11_setPrices 16 = .ok (.istore_n 3, 1) := by decide +kernel
theorem gdX11_setPrices_17 : decode cX11_setPrices 17 = .ok (.aload_n 0, 1) := by decide +kernel
theorem gdX11_setPrices_18 : decode cX11_setPrices 18 = .ok (.getfield 26, 3) := by decide +kernel
theorem gdX11_setPrices_21 : decode cX11_setPrices 21 = .ok (.iload_n 2, 1) := by decide +kernel
theorem gdX11_setPrices_22 : decode cX11_setPrices 22 = .ok (.invokevirtual 163, 3) := by decide +kernel
theorem gdX11_setPrices_25 : decode cX11_setPrices 25 = .ok (.ifCond .eq 7, 3) := by decide +kernel
theorem gdX11_setPrices_32 : decode cX11_setPrices 32 = .ok (.aload_n 0, 1) := by decide +kernel
theorem gdX11_setPrices_33 : decode cX11_setPrices 33 = .ok (.getfield 12, 3) := by decide +kernel
theorem gdX11_setPrices_36 : decode cX11_setPrices 36 = .ok (.iload_n 1, 1) := by decide +kernel
theorem gdX11_setPrices_37 : decode cX11_setPrices 37 = .ok (.aload_n 0, 1) := by decide +kernel
theorem gdX11_setPrices_38 : decode cX11_setPrices 38 = .ok (.getfield 26, 3) := by decide +kernel
theorem gdX11_setPrices_41 : decode cX11_setPrices 41 = .ok (.iload_n 2, 1) := by decide +kernel
theorem gdX11_setPrices_42 : decode cX11_setPrices 42 = .ok (.invokevirtual 501, 3) := by decide +kernel
theorem gdX11_setPrices_45 : decode cX11_setPrices 45 = .ok (.invokevirtual 504, 3) := by decide +kernel
theorem gdX11_setPrices_28 : decode cX11_setPrices 28 = .ok (.iconst 0, 1) := by decide +kernel
theorem gdX11_setPrices_29 : decode cX11_setPrices 29 = .ok (.goto 19, 3) := by decide +kernel
theorem gdX11_setPrices_0 : decode cX11_setPrices 0 = .ok (.iconst 0, 1) := by decide +kernel
theorem gdX11_setPrices_1 : decode cX11_setPrices 1 = .ok (.istore_n 2, 1) := by decide +kernel
theorem gdX3_beside_43 : decode cX3_beside 43 = .ok (.ireturn, 1) := by decide +kernel
theorem gdX3_beside_59 : decode cX3_beside 59 = .ok (.ireturn, 1) := by decide +kernel
theorem gdX3_beside_77 : decode cX3_beside 77 = .ok (.ireturn, 1) := by decide +kernel
theorem gdX3_beside_93 : decode cX3_beside 93 = .ok (.ireturn, 1) := by decide +kernel
theorem gdX3_beside_0 : decode cX3_beside 0 = .ok (.iload_n 1, 1) := by decide +kernel
theorem gdX3_beside_1 : decode cX3_beside 1 = .ok (.tableswitch 77 0 2 #[27, 43, 59], 27) := by decide +kernel
theorem gdX3_beside_28 : decode cX3_beside 28 = .ok (.iload_n 0, 1) := by decide +kernel
theorem gdX3_beside_29 : decode cX3_beside 29 = .ok (.bipush 8, 2) := by decide +kernel
theorem gdX3_beside_31 : decode cX3_beside 31 = .ok (.if_icmp .lt 10, 3) := by decide +kernel
theorem gdX3_beside_41 : decode cX3_beside 41 = .ok (.bipush (-9), 2) := by decide +kernel
theorem gdX3_beside_34 : decode cX3_beside 34 = .ok (.iload_n 0, 1) := by decide +kernel
theorem gdX3_beside_35 : decode cX3_beside 35 = .ok (.bipush 8, 2) := by decide +kernel
theorem gdX3_beside_37 : decode cX3_beside 37 = .ok (.isub, 1) := by decide +kernel
theorem gdX3_beside_38 : decode cX3_beside 38 = .ok (.goto 5, 3) := by decide +kernel
theorem gdX3_beside_44 : decode cX3_beside 44 = .ok (.iload_n 0, 1) := by decide +kernel
theorem gdX3_beside_45 : decode cX3_beside 45 = .ok (.bipush 8, 2) := by decide +kernel
theorem gdX3_beside_47 : decode cX3_beside 47 = .ok (.irem, 1) := by decide +kernel
theorem gdX3_beside_48 : decode cX3_beside 48 = .ok (.ifCond .le 9, 3) := by decide +kernel
theorem gdX3_beside_57 : decode cX3_beside 57 = .ok (.bipush (-9), 2) := by decide +kernel
theorem gdX3_beside_51 : decode cX3_beside 51 = .ok (.iload_n 0, 1) := by decide +kernel
theorem gdX3_beside_52 : decode cX3_beside 52 = .ok (.iconst 1, 1) := by decide +kernel
theorem gdX3_beside_53 : decode cX3_beside 53 = .ok (.isub, 1) := by decide +kernel
theorem gdX3_beside_54 : decode cX3_beside 54 = .ok (.goto 5, 3) := by decide +kernel
theorem gdX3_beside_60 : decode cX3_beside 60 = .ok (.iload_n 0, 1) := by decide +kernel
theorem gdX3_beside_61 : decode cX3_beside 61 = .ok (.bipush 8, 2) := by decide +kernel
theorem gdX3_beside_63 : decode cX3_beside 63 = .ok (.irem, 1) := by decide +kernel
theorem gdX3_beside_64 : decode cX3_beside 64 = .ok (.bipush 7, 2) := by decide +kernel
theorem gdX3_beside_66 : decode cX3_beside 66 = .ok (.if_icmp .ge 9, 3) := by decide +kernel
theorem gdX3_beside_75 : decode cX3_beside 75 = .ok (.bipush (-9), 2) := by decide +kernel
theorem gdX3_beside_69 : decode cX3_beside 69 = .ok (.iload_n 0, 1) := by decide +kernel
theorem gdX3_beside_70 : decode cX3_beside 70 = .ok (.iconst 1, 1) := by decide +kernel
theorem gdX3_beside_71 : decode cX3_beside 71 = .ok (.iadd, 1) := by decide +kernel
theorem gdX3_beside_72 : decode cX3_beside 72 = .ok (.goto 5, 3) := by decide +kernel
theorem gdX3_beside_78 : decode cX3_beside 78 = .ok (.iload_n 0, 1) := by decide +kernel
theorem gdX3_beside_79 : decode cX3_beside 79 = .ok (.bipush 56, 2) := by decide +kernel
theorem gdX3_beside_81 : decode cX3_beside 81 = .ok (.if_icmp .ge 10, 3) := by decide +kernel
theorem gdX3_beside_91 : decode cX3_beside 91 = .ok (.bipush (-9), 2) := by decide +kernel
theorem gdX3_beside_84 : decode cX3_beside 84 = .ok (.iload_n 0, 1) := by decide +kernel
theorem gdX3_beside_85 : decode cX3_beside 85 = .ok (.bipush 8, 2) := by decide +kernel
theorem gdX3_beside_87 : decode cX3_beside 87 = .ok (.iadd, 1) := by decide +kernel
theorem gdX3_beside_88 : decode cX3_beside 88 = .ok (.goto 5, 3) := by decide +kernel
theorem gdX3_slope_0 : decode cX3_slope 0 = .ok (.aload_n 0, 1) := by decide +kernel
theorem gdX3_slope_1 : decode cX3_slope 1 = .ok (.getfield 15, 3) := by decide +kernel
theorem gdX3_slope_4 : decode cX3_slope 4 = .ok (.iload_n 1, 1) := by decide +kernel
theorem gdX3_slope_5 : decode cX3_slope 5 = .ok (.iaload, 1) := by decide +kernel
theorem gdX3_slope_6 : decode cX3_slope 6 = .ok (.aload_n 0, 1) := by decide +kernel
theorem gdX3_slope_7 : decode cX3_slope 7 = .ok (.getfield 15, 3) := by decide +kernel
theorem gdX3_slope_10 : decode cX3_slope 10 = .ok (.iload_n 2, 1) := by decide +kernel
theorem gdX3_slope_11 : decode cX3_slope 11 = .ok (.iaload, 1) := by decide +kernel
theorem gdX3_slope_12 : decode cX3_slope 12 = .ok (.isub, 1) := by decide +kernel
theorem gdX3_slope_13 : decode cX3_slope 13 = .ok (.invokestatic 18, 3) := by decide +kernel
theorem gdX3_slope_16 : decode cX3_slope 16 = .ok (.ireturn, 1) := by decide +kernel
theorem gdX3_onward_34 : decode cX3_onward 34 = .ok (.bipush (-9), 2) := by decide +kernel
theorem gdX3_onward_36 : decode cX3_onward 36 = .ok (.ireturn, 1) := by decide +kernel
theorem gdX3_onward_0 : decode cX3_onward 0 = .ok (.iload_n 1, 1) := by decide +kernel
theorem gdX3_onward_1 : decode cX3_onward 1 = .ok (.iload_n 2, 1) := by decide +kernel
theorem gdX3_onward_2 : decode cX3_onward 2 = .ok (.invokestatic 32, 3) := by decide +kernel
theorem gdX3_onward_5 : decode cX3_onward 5 = .ok (.istore 4, 2) := by decide +kernel
theorem gdX3_onward_7 : decode cX3_onward 7 = .ok (.iload 4, 2) := by decide +kernel
theorem gdX3_onward_9 : decode cX3_onward 9 = .ok (.bipush (-9), 2) := by decide +kernel
theorem gdX3_onward_11 : decode cX3_onward 11 = .ok (.if_icmp .eq 23, 3) := by decide +kernel
theorem gdX3_onward_14 : decode cX3_onward 14 = .ok (.aload_n 0, 1) := by decide +kernel
theorem gdX3_onward_15 : decode cX3_onward 15 = .ok (.iload 4, 2) := by decide +kernel
theorem gdX3_onward_17 : decode cX3_onward 17 = .ok (.invokevirtual 36, 3) := by decide +kernel
theorem gdX3_onward_20 : decode cX3_onward 20 = .ok (.ifCond .ne 14, 3) := by decide +kernel
theorem gdX3_onward_23 : decode cX3_onward 23 = .ok (.aload_n 0, 1) := by decide +kernel
theorem gdX3_onward_24 : decode cX3_onward 24 = .ok (.iload_n 1, 1) := by decide +kernel
theorem gdX3_onward_25 : decode cX3_onward 25 = .ok (.iload 4, 2) := by decide +kernel
theorem gdX3_onward_27 : decode cX3_onward 27 = .ok (.invokevirtual 40, 3) := by decide +kernel
theorem gdX3_onward_30 : decode cX3_onward 30 = .ok (.iload_n 3, 1) := by decide +kernel
theorem gdX3_onward_31 : decode cX3_onward 31 = .ok (.if_icmp .le 6, 3) := by decide +kernel
theorem gdX3_onward_37 : decode cX3_onward 37 = .ok (.iload 4, 2) := by decide +kernel
theorem gdX3_onward_39 : decode cX3_onward 39 = .ok (.ireturn, 1) := by decide +kernel
theorem gdX10_rouseBeside_99 : decode cX10_rouseBeside 99 = .ok (.return_, 1) := by decide +kernel
theorem gdX10_rouseBeside_93 : decode cX10_rouseBeside 93 = .ok (.iinc 4 1, 3) := by decide +kernel
theorem gdX10_rouseBeside_96 : decode cX10_rouseBeside 96 = .ok (.goto (-93), 3) := by decide +kernel
theorem gdX10_rouseBeside_3 : decode cX10_rouseBeside 3 = .ok (.iload 4, 2) := by decide +kernel
theorem gdX10_rouseBeside_5 : decode cX10_rouseBeside 5 = .ok (.iconst 4, 1) := by decide +kernel
theorem gdX10_rouseBeside_6 : decode cX10_rouseBeside 6 = .ok (.if_icmp .ge 93, 3) := by decide +kernel
theorem gdX10_rouseBeside_9 : decode cX10_rouseBeside 9 = .ok (.aload_n 1, 1) := by decide +kernel
theorem gdX10_rouseBeside_10 : decode cX10_rouseBeside 10 = .ok (.iload_n 3, 1) := by decide +kernel
theorem gdX10_rouseBeside_11 : decode cX10_rouseBeside 11 = .ok (.iload 4, 2) := by decide +kernel
theorem gdX10_rouseBeside_13 : decode cX10_rouseBeside 13 = .ok (.iload_n 2, 1) := by decide +kernel
theorem gdX10_rouseBeside_14 : decode cX10_rouseBeside 14 = .ok (.invokevirtual 76, 3) := by decide +kernel
theorem gdX10_rouseBeside_17 : decode cX10_rouseBeside 17 = .ok (.istore 5, 2) := by decide +kernel
theorem gdX10_rouseBeside_19 : decode cX10_rouseBeside 19 = .ok (.iload 5, 2) := by decide +kernel
theorem gdX10_rouseBeside_21 : decode cX10_rouseBeside 21 = .ok (.bipush (-9), 2) := by decide +kernel
theorem gdX10_rouseBeside_23 : decode cX10_rouseBeside 23 = .ok (.if_icmp .eq 70, 3) := by decide +kernel
theorem gdX10_rouseBeside_26 : decode cX10_rouseBeside 26 = .ok (.iload 5, 2) := by decide +kernel
theorem gdX10_rouseBeside_28 : decode cX10_rouseBeside 28 = .ok (.aload_n 0, 1) := by decide +kernel
theorem gdX10_rouseBeside_29 : decode cX10_rouseBeside 29 = .ok (.getfield 47, 3) := by decide +kernel
theorem gdX10_rouseBeside_32 : decode cX10_rouseBeside 32 = .ok (.if_icmp .eq 61, 3) := by decide +kernel
theorem gdX10_rouseBeside_35 : decode cX10_rouseBeside 35 = .ok (.aload_n 0, 1) := by decide +kernel
theorem gdX10_rouseBeside_36 : decode cX10_rouseBeside 36 = .ok (.getfield 43, 3) := by decide +kernel
theorem gdX10_rouseBeside_39 : decode cX10_rouseBeside 39 = .ok (.iload 5, 2) := by decide +kernel
theorem gdX10_rouseBeside_41 : decode cX10_rouseBeside 41 = .ok (.invokestatic 80, 3) := by decide +kernel
theorem gdX10_rouseBeside_44 : decode cX10_rouseBeside 44 = .ok (.ifCond .eq 6, 3) := by decide +kernel
theorem gdX10_rouseBeside_50 : decode cX10_rouseBeside 50 = .ok (.aload_n 0, 1) := by decide +kernel
theorem gdX10_rouseBeside_51 : decode cX10_rouseBeside 51 = .ok (.getfield 26, 3) := by decide +kernel
theorem gdX10_rouseBeside_54 : decode cX10_rouseBeside 54 = .ok (.aload_n 0, 1) := by decide +kernel
theorem gdX10_rouseBeside_55 : decode cX10_rouseBeside 55 = .ok (.getfield 36, 3) := by decide +kernel
theorem gdX10_rouseBeside_58 : decode cX10_rouseBeside 58 = .ok (.aload_n 0, 1) := by decide +kernel
theorem gdX10_rouseBeside_59 : decode cX10_rouseBeside 59 = .ok (.getfield 40, 3) := by decide +kernel
theorem gdX10_rouseBeside_62 : decode cX10_rouseBeside 62 = .ok (.iadd, 1) := by decide +kernel
theorem gdX10_rouseBeside_63 : decode cX10_rouseBeside 63 = .ok (.bipush 64, 2) := by decide +kernel
theorem gdX10_rouseBeside_65 : decode cX10_rouseBeside 65 = .ok (.irem, 1) := by decide +kernel
theorem gdX10_rouseBeside_66 : decode cX10_rouseBeside 66 = .ok (.iload 5, 2) := by decide +kernel
theorem gdX10_rouseBeside_68 : decode cX10_rouseBeside 68 = .ok (.iastore, 1) := by decide +kernel
theorem gdX10_rouseBeside_69 : decode cX10_rouseBeside 69 = .ok (.aload_n 0, 1) := by decide +kernel
theorem gdX10_rouseBeside_70 : decode cX10_rouseBeside 70 = .ok (.dup, 1) := by decide +kernel
theorem gdX10_rouseBeside_71 : decode cX10_rouseBeside 71 = .ok (.getfield 40, 3) := by decide +kernel
theorem gdX10_rouseBeside_74 : decode cX10_rouseBeside 74 = .ok (.iconst 1, 1) := by decide +kernel
theorem gdX10_rouseBeside_75 : decode cX10_rouseBeside 75 = .ok (.iadd, 1) := by decide +kernel
theorem gdX10_rouseBeside_76 : decode cX10_rouseBeside 76 = .ok (.putfield 40, 3) := by decide +kernel
theorem gdX10_rouseBeside_79 : decode cX10_rouseBeside 79 = .ok (.aload_n 0, 1) := by decide +kernel
theorem gdX10_rouseBeside_80 : decode cX10_rouseBeside 80 = .ok (.dup, 1) := by decide +kernel
theorem gdX10_rouseBeside_81 : decode cX10_rouseBeside 81 = .ok (.getfield 43, 3) := by decide +kernel
theorem gdX10_rouseBeside_84 : decode cX10_rouseBeside 84 = .ok (.iload 5, 2) := by decide +kernel
theorem gdX10_rouseBeside_86 : decode cX10_rouseBeside 86 = .ok (.invokestatic 70, 3) := by decide +kernel
theorem gdX10_rouseBeside_89 : decode cX10_rouseBeside 89 = .ok (.lor, 1) := by decide +kernel
theorem gdX10_rouseBeside_90 : decode cX10_rouseBeside 90 = .ok (.putfield 43, 3) := by decide +kernel
theorem gdX10_rouseBeside_47 : decode cX10_rouseBeside 47 = .ok (.goto 46, 3) := by decide +kernel
theorem gdX10_rouseBeside_0 : decode cX10_rouseBeside 0 = .ok (.iconst 0, 1) := by decide +kernel
theorem gdX10_rouseBeside_1 : decode cX10_rouseBeside 1 = .ok (.istore 4, 2) := by decide +kernel
theorem gdX10_next_0 : decode cX10_next 0 = .ok (.aload_n 0, 1) := by decide +kernel
theorem gdX10_next_1 : decode cX10_next 1 = .ok (.getfield 26, 3) := by decide +kernel
theorem gdX10_next_4 : decode cX10_next 4 = .ok (.aload_n 0, 1) := by decide +kernel
theorem gdX10_next_5 : decode cX10_next 5 = .ok (.getfield 36, 3) := by decide +kernel
theorem gdX10_next_8 : decode cX10_next 8 = .ok (.iaload, 1) := by decide +kernel
theorem gdX10_next_9 : decode cX10_next 9 = .ok (.istore_n 1, 1) := by decide +kernel
theorem gdX10_next_10 : decode cX10_next 10 = .ok (.aload_n 0, 1) := by decide +kernel
theorem gdX10_next_11 : decode cX10_next 11 = .ok (.aload_n 0, 1) := by decide +kernel
theorem gdX10_next_12 : decode cX10_next 12 = .ok (.getfield 36, 3) := by decide +kernel
theorem gdX10_next_15 : decode cX10_next 15 = .ok (.iconst 1, 1) := by decide +kernel
theorem gdX10_next_16 : decode cX10_next 16 = .ok (.iadd, 1) := by decide +kernel
theorem gdX10_next_17 : decode cX10_next 17 = .ok (.bipush 64, 2) := by decide +kernel
theorem gdX10_next_19 : decode cX10_next 19 = .ok (.irem, 1) := by decide +kernel
theorem gdX10_next_20 : decode cX10_next 20 = .ok (.putfield 36, 3) := by decide +kernel
theorem gdX10_next_23 : decode cX10_next 23 = .ok (.aload_n 0, 1) := by decide +kernel
theorem gdX10_next_24 : decode cX10_next 24 = .ok (.dup, 1) := by decide +kernel
theorem gdX10_next_25 : decode cX10_next 25 = .ok (.getfield 40, 3) := by decide +kernel
theorem gdX10_next_28 : decode cX10_next 28 = .ok (.iconst 1, 1) := by decide +kernel
theorem gdX10_next_29 : decode cX10_next 29 = .ok (.isub, 1) := by decide +kernel
theorem gdX10_next_30 : decode cX10_next 30 = .ok (.putfield 40, 3) := by decide +kernel
theorem gdX10_next_33 : decode cX10_next 33 = .ok (.aload_n 0, 1) := by decide +kernel
theorem gdX10_next_34 : decode cX10_next 34 = .ok (.dup, 1) := by decide +kernel
theorem gdX10_next_35 : decode cX10_next 35 = .ok (.getfield 43, 3) := by decide +kernel
theorem gdX10_next_38 : decode cX10_next 38 = .ok (.iload_n 1, 1) := by decide +kernel
theorem gdX10_next_39 : decode cX10_next 39 = .ok (.invokestatic 70, 3) := by decide +kernel
theorem gdX10_next_42 : decode cX10_next 42 = .ok (.ldc2_w 74, 3) := by decide +kernel
theorem gdX10_next_45 : decode cX10_next 45 = .ok (.lxor, 1) := by decide +kernel
theorem gdX10_next_46 : decode cX10_next 46 = .ok (.land, 1) := by decide +kernel
theorem gdX10_next_47 : decode cX10_next 47 = .ok (.putfield 43, 3) := by decide +kernel
theorem gdX10_next_50 : decode cX10_next 50 = .ok (.iload_n 1, 1) := by decide +kernel
theorem gdX10_next_51 : decode cX10_next 51 = .ok (.ireturn, 1) := by decide +kernel
theorem gdX10_rest_33 : decode cX10_rest 33 = .ok (.ireturn, 1) := by decide +kernel
theorem gdX10_rest_0 : decode cX10_rest 0 = .ok (.iload_n 1, 1) := by decide +kernel
theorem gdX10_rest_1 : decode cX10_rest 1 = .ok (.aload_n 0, 1) := by decide +kernel
theorem gdX10_rest_2 : decode cX10_rest 2 = .ok (.getfield 47, 3) := by decide +kernel
theorem gdX10_rest_5 : decode cX10_rest 5 = .ok (.if_icmp .ne 7, 3) := by decide +kernel
theorem gdX10_rest_12 : decode cX10_rest 12 = .ok (.aload_n 0, 1) := by decide +kernel
theorem gdX10_rest_13 : decode cX10_rest 13 = .ok (.getfield 20, 3) := by decide +kernel
theorem gdX10_rest_16 : decode cX10_rest 16 = .ok (.iload_n 1, 1) := by decide +kernel
theorem gdX10_rest_17 : decode cX10_rest 17 = .ok (.iconst 4, 1) := by decide +kernel
theorem gdX10_rest_18 : decode cX10_rest 18 = .ok (.imul, 1) := by decide +kernel
theorem gdX10_rest_19 : decode cX10_rest 19 = .ok (.iload_n 2, 1) := by decide +kernel
theorem gdX10_rest_20 : decode cX10_rest 20 = .ok (.iadd, 1) := by decide +kernel
theorem gdX10_rest_21 : decode cX10_rest 21 = .ok (.iaload, 1) := by decide +kernel
theorem gdX10_rest_22 : decode cX10_rest 22 = .ok (.aload_n 0, 1) := by decide +kernel
theorem gdX10_rest_23 : decode cX10_rest 23 = .ok (.getfield 23, 3) := by decide +kernel
theorem gdX10_rest_26 : decode cX10_rest 26 = .ok (.iload_n 1, 1) := by decide +kernel
theorem gdX10_rest_27 : decode cX10_rest 27 = .ok (.iaload, 1) := by decide +kernel
theorem gdX10_rest_28 : decode cX10_rest 28 = .ok (.iconst 5, 1) := by decide +kernel
theorem gdX10_rest_29 : decode cX10_rest 29 = .ok (.iadd, 1) := by decide +kernel
theorem gdX10_rest_30 : decode cX10_rest 30 = .ok (.invokestatic 84, 3) := by decide +kernel
theorem gdX10_rest_8 : decode cX10_rest 8 = .ok (.iconst 0, 1) := by decide +kernel
theorem gdX10_rest_9 : decode cX10_rest 9 = .ok (.goto 24, 3) := by decide +kernel
theorem gdX10_improve_132 : decode cX10_improve 132 = .ok (.iload 4, 2) := by decide +kernel
theorem gdX10_improve_134 : decode cX10_improve 134 = .ok (.ireturn, 1) := by decide +kernel
theorem gdX10_improve_126 : decode cX10_improve 126 = .ok (.iinc 5 1, 3) := by decide +kernel
theorem gdX10_improve_129 : decode cX10_improve 129 = .ok (.goto (-123), 3) := by decide +kernel
theorem gdX10_improve_6 : decode cX10_improve 6 = .ok (.iload 5, 2) := by decide +kernel
theorem gdX10_improve_8 : decode cX10_improve 8 = .ok (.iconst 4, 1) := by decide +kernel
theorem gdX10_improve_9 : decode cX10_improve 9 = .ok (.if_icmp .ge 123, 3) := by decide +kernel
theorem gdX10_improve_12 : decode cX10_improve 12 = .ok (.aload_n 1, 1) := by decide +kernel
theorem gdX10_improve_13 : decode cX10_improve 13 = .ok (.iload_n 3, 1) := by decide +kernel
theorem gdX10_improve_14 : decode cX10_improve 14 = .ok (.iload 5, 2) := by decide +kernel
theorem gdX10_improve_16 : decode cX10_improve 16 = .ok (.iload_n 2, 1) := by decide +kernel
theorem gdX10_improve_17 : decode cX10_improve 17 = .ok (.invokevirtual 76, 3) := by decide +kernel
theorem gdX10_improve_20 : decode cX10_improve 20 = .ok (.istore 6, 2) := by decide +kernel
theorem gdX10_improve_22 : decode cX10_improve 22 = .ok (.iload 6, 2) := by decide +kernel
theorem gdX10_improve_24 : decode cX10_improve 24 = .ok (.bipush (-9), 2) := by decide +kernel
theorem gdX10_improve_26 : decode cX10_improve 26 = .ok (.if_icmp .eq 100, 3) := by decide +kernel
theorem gdX10_improve_29 : decode cX10_improve 29 = .ok (.aload_n 0, 1) := by decide +kernel
theorem gdX10_improve_30 : decode cX10_improve 30 = .ok (.iload 6, 2) := by decide +kernel
theorem gdX10_improve_32 : decode cX10_improve 32 = .ok (.iload 5, 2) := by decide +kernel
theorem gdX10_improve_34 : decode cX10_improve 34 = .ok (.invokevirtual 90, 3) := by decide +kernel
theorem gdX10_improve_37 : decode cX10_improve 37 = .ok (.ldc 29, 2) := by decide +kernel
theorem gdX10_improve_39 : decode cX10_improve 39 = .ok (.if_icmp .lt 6, 3) := by decide +kernel
theorem gdX10_improve_45 : decode cX10_improve 45 = .ok (.aload_n 0, 1) := by decide +kernel
theorem gdX10_improve_46 : decode cX10_improve 46 = .ok (.getfield 11, 3) := by decide +kernel
theorem gdX10_improve_49 : decode cX10_improve 49 = .ok (.iload 6, 2) := by decide +kernel
theorem gdX10_improve_51 : decode cX10_improve 51 = .ok (.iaload, 1) := by decide +kernel
theorem gdX10_improve_52 : decode cX10_improve 52 = .ok (.bipush 10, 2) := by decide +kernel
theorem gdX10_improve_54 : decode cX10_improve 54 = .ok (.aload_n 1, 1) := by decide +kernel
theorem gdX10_improve_55 : decode cX10_improve 55 = .ok (.iload_n 3, 1) := by decide +kernel
theorem gdX10_improve_56 : decode cX10_improve 56 = .ok (.iload 6, 2) := by decide +kernel
theorem gdX10_improve_58 : decode cX10_improve 58 = .ok (.invokevirtual 93, 3) := by decide +kernel
theorem gdX10_improve_61 : decode cX10_improve 61 = .ok (.imul, 1) := by decide +kernel
theorem gdX10_improve_62 : decode cX10_improve 62 = .ok (.iadd, 1) := by decide +kernel
theorem gdX10_improve_63 : decode cX10_improve 63 = .ok (.aload_n 0, 1) := by decide +kernel
theorem gdX10_improve_64 : decode cX10_improve 64 = .ok (.iload 6, 2) := by decide +kernel
theorem gdX10_improve_66 : decode cX10_improve 66 = .ok (.iload 5, 2) := by decide +kernel
theorem gdX10_improve_68 : decode cX10_improve 68 = .ok (.invokevirtual 90, 3) := by decide +kernel
theorem gdX10_improve_71 : decode cX10_improve 71 = .ok (.iadd, 1) := by decide +kernel
theorem gdX10_improve_72 : decode cX10_improve 72 = .ok (.istore 7, 2) := by decide +kernel
theorem gdX10_improve_74 : decode cX10_improve 74 = .ok (.iload 7, 2) := by decide +kernel
theorem gdX10_improve_76 : decode cX10_improve 76 = .ok (.aload_n 0, 1) := by decide +kernel
theorem gdX10_improve_77 : decode cX10_improve 77 = .ok (.getfield 20, 3) := by decide +kernel
theorem gdX10_improve_80 : decode cX10_improve 80 = .ok (.iload_n 3, 1) := by decide +kernel
theorem gdX10_improve_81 : decode cX10_improve 81 = .ok (.iconst 4, 1) := by decide +kernel
theorem gdX10_improve_82 : decode cX10_improve 82 = .ok (.imul, 1) := by decide +kernel
theorem gdX10_improve_83 : decode cX10_improve 83 = .ok (.iload 5, 2) := by decide +kernel
theorem gdX10_improve_85 : decode cX10_improve 85 = .ok (.iadd, 1) := by decide +kernel
theorem gdX10_improve_86 : decode cX10_improve 86 = .ok (.iaload, 1) := by decide +kernel
theorem gdX10_improve_87 : decode cX10_improve 87 = .ok (.if_icmp .lt 6, 3) := by decide +kernel
theorem gdX10_improve_93 : decode cX10_improve 93 = .ok (.aload_n 0, 1) := by decide +kernel
theorem gdX10_improve_94 : decode cX10_improve 94 = .ok (.getfield 20, 3) := by decide +kernel
theorem gdX10_improve_97 : decode cX10_improve 97 = .ok (.iload_n 3, 1) := by decide +kernel
theorem gdX10_improve_98 : decode cX10_improve 98 = .ok (.iconst 4, 1) := by decide +kernel
theorem gdX10_improve_99 : decode cX10_improve 99 = .ok (.imul, 1) := by decide +kernel
theorem gdX10_improve_100 : decode cX10_improve 100 = .ok (.iload 5, 2) := by decide +kernel
theorem gdX10_improve_102 : decode cX10_improve 102 = .ok (.iadd, 1) := by decide +kernel
theorem gdX10_improve_103 : decode cX10_improve 103 = .ok (.iload 7, 2) := by decide +kernel
theorem gdX10_improve_105 : decode cX10_improve 105 = .ok (.iastore, 1) := by decide +kernel
theorem gdX10_improve_106 : decode cX10_improve 106 = .ok (.aload_n 0, 1) := by decide +kernel
theorem gdX10_improve_107 : decode cX10_improve 107 = .ok (.getfield 23, 3) := by decide +kernel
theorem gdX10_improve_110 : decode cX10_improve 110 = .ok (.iload_n 3, 1) := by decide +kernel
theorem gdX10_improve_111 : decode cX10_improve 111 = .ok (.aload_n 0, 1) := by decide +kernel
theorem gdX10_improve_112 : decode cX10_improve 112 = .ok (.getfield 23, 3) := by decide +kernel
theorem gdX10_improve_115 : decode cX10_improve 115 = .ok (.iload_n 3, 1) := by decide +kernel
theorem gdX10_improve_116 : decode cX10_improve 116 = .ok (.iaload, 1) := by decide +kernel
theorem gdX10_improve_117 : decode cX10_improve 117 = .ok (.iload 7, 2) := by decide +kernel
theorem gdX10_improve_119 : decode cX10_improve 119 = .ok (.invokestatic 84, 3) := by decide +kernel
theorem gdX10_improve_122 : decode cX10_improve 122 = .ok (.iastore, 1) := by decide +kernel
theorem gdX10_improve_123 : decode cX10_improve 123 = .ok (.iconst 1, 1) := by decide +kernel
theorem gdX10_improve_124 : decode cX10_improve 124 = .ok (.istore 4, 2) := by decide +kernel
theorem gdX10_improve_90 : decode cX10_improve 90 = .ok (.goto 36, 3) := by decide +kernel
theorem gdX10_improve_42 : decode cX10_improve 42 = .ok (.goto 84, 3) := by decide +kernel
theorem gdX10_improve_0 : decode cX10_improve 0 = .ok (.iconst 0, 1) := by decide +kernel
theorem gdX10_improve_1 : decode cX10_improve 1 = .ok (.istore 4, 2) := by decide +kernel
theorem gdX10_improve_3 : decode cX10_improve 3 = .ok (.iconst 0, 1) := by decide +kernel
theorem gdX10_improve_4 : decode cX10_improve 4 = .ok (.istore 5, 2) := by decide +kernel
theorem gdX10_firstOfLeast_68 : decode cX10_firstOfLeast 68 = .ok (.iload 4, 2) := by decide +kernel
theorem gdX10_firstOfLeast_70 : decode cX10_firstOfLeast 70 = .ok (.ireturn, 1) := by decide +kernel
theorem gdX10_firstOfLeast_77 : decode cX10_firstOfLeast 77 = .ok (.bipush (-9), 2) := by decide +kernel
theorem gdX10_firstOfLeast_79 : decode cX10_firstOfLeast 79 = .ok (.ireturn, 1) := by decide +kernel
theorem gdX10_firstOfLeast_48 : decode cX10_firstOfLeast 48 = .ok (.istore 5, 2) := by decide +kernel
theorem gdX10_firstOfLeast_50 : decode cX10_firstOfLeast 50 = .ok (.aload_n 0, 1) := by decide +kernel
theorem gdX10_firstOfLeast_51 : decode cX10_firstOfLeast 51 = .ok (.getfield 20, 3) := by decide +kernel
theorem gdX10_firstOfLeast_54 : decode cX10_firstOfLeast 54 = .ok (.iload_n 1, 1) := by decide +kernel
theorem gdX10_firstOfLeast_55 : decode cX10_firstOfLeast 55 = .ok (.iconst 4, 1) := by decide +kernel
theorem gdX10_firstOfLeast_56 : decode cX10_firstOfLeast 56 = .ok (.imul, 1) := by decide +kernel
theorem gdX10_firstOfLeast_57 : decode cX10_firstOfLeast 57 = .ok (.iload 4, 2) := by decide +kernel
theorem gdX10_firstOfLeast_59 : decode cX10_firstOfLeast 59 = .ok (.iadd, 1) := by decide +kernel
theorem gdX10_firstOfLeast_60 : decode cX10_firstOfLeast 60 = .ok (.iaload, 1) := by decide +kernel
theorem gdX10_firstOfLeast_61 : decode cX10_firstOfLeast 61 = .ok (.iload 5, 2) := by decide +kernel
theorem gdX10_firstOfLeast_63 : decode cX10_firstOfLeast 63 = .ok (.iadd, 1) := by decide +kernel
theorem gdX10_firstOfLeast_64 : decode cX10_firstOfLeast 64 = .ok (.iload_n 3, 1) := by decide +kernel
theorem gdX10_firstOfLeast_65 : decode cX10_firstOfLeast 65 = .ok (.if_icmp .ne 6, 3) := by decide +kernel
theorem gdX10_firstOfLeast_71 : decode cX10_firstOfLeast 71 = .ok (.iinc 4 1, 3) := by decide +kernel
theorem gdX10_firstOfLeast_74 : decode cX10_firstOfLeast 74 = .ok (.goto (-49), 3) := by decide +kernel
theorem gdX10_firstOfLeast_43 : decode cX10_firstOfLeast 43 = .ok (.iconst 0, 1) := by decide +kernel
theorem gdX10_firstOfLeast_44 : decode cX10_firstOfLeast 44 = .ok (.goto 4, 3) := by decide +kernel
theorem gdX10_firstOfLeast_25 : decode cX10_firstOfLeast 25 = .ok (.iload 4, 2) := by decide +kernel
theorem gdX10_firstOfLeast_27 : decode cX10_firstOfLeast 27 = .ok (.iconst 4, 1) := by decide +kernel
theorem gdX10_firstOfLeast_28 : decode cX10_firstOfLeast 28 = .ok (.if_icmp .ge 49, 3) := by decide +kernel
theorem gdX10_firstOfLeast_31 : decode cX10_firstOfLeast 31 = .ok (.iload_n 2, 1) := by decide +kernel
theorem gdX10_firstOfLeast_32 : decode cX10_firstOfLeast 32 = .ok (.bipush (-9), 2) := by decide +kernel
theorem gdX10_firstOfLeast_34 : decode cX10_firstOfLeast 34 = .ok (.if_icmp .eq 9, 3) := by decide +kernel
theorem gdX10_firstOfLeast_37 : decode cX10_firstOfLeast 37 = .ok (.iload_n 2, 1) := by decide +kernel
theorem gdX10_firstOfLeast_38 : decode cX10_firstOfLeast 38 = .ok (.iload 4, 2) := by decide +kernel
theorem gdX10_firstOfLeast_40 : decode cX10_firstOfLeast 40 = .ok (.if_icmp .ne 7, 3) := by decide +kernel
theorem gdX10_firstOfLeast_47 : decode cX10_firstOfLeast 47 = .ok (.iconst 5, 1) := by decide +kernel
theorem gdX10_firstOfLeast_21 : decode cX10_firstOfLeast 21 = .ok (.istore_n 3, 1) := by decide +kernel
theorem gdX10_firstOfLeast_22 : decode cX10_firstOfLeast 22 = .ok (.iconst 0, 1) := by decide +kernel
theorem gdX10_firstOfLeast_23 : decode cX10_firstOfLeast 23 = .ok (.istore 4, 2) := by decide +kernel
theorem gdX10_firstOfLeast_0 : decode cX10_firstOfLeast 0 = .ok (.iload_n 2, 1) := by decide +kernel
theorem gdX10_firstOfLeast_1 : decode cX10_firstOfLeast 1 = .ok (.bipush (-9), 2) := by decide +kernel
theorem gdX10_firstOfLeast_3 : decode cX10_firstOfLeast 3 = .ok (.if_icmp .ne 12, 3) := by decide +kernel
theorem gdX10_firstOfLeast_15 : decode cX10_firstOfLeast 15 = .ok (.aload_n 0, 1) := by decide +kernel
theorem gdX10_firstOfLeast_16 : decode cX10_firstOfLeast 16 = .ok (.iload_n 1, 1) := by decide +kernel
theorem gdX10_firstOfLeast_17 : decode cX10_firstOfLeast 17 = .ok (.iload_n 2, 1) := by decide +kernel
theorem gdX10_firstOfLeast_18 : decode cX10_firstOfLeast 18 = .ok (.invokevirtual 90, 3) := by decide +kernel
theorem gdX10_firstOfLeast_6 : decode cX10_firstOfLeast 6 = .ok (.aload_n 0, 1) := by decide +kernel
theorem gdX10_firstOfLeast_7 : decode cX10_firstOfLeast 7 = .ok (.getfield 23, 3) := by decide +kernel
theorem gdX10_firstOfLeast_10 : decode cX10_firstOfLeast 10 = .ok (.iload_n 1, 1) := by decide +kernel
theorem gdX10_firstOfLeast_11 : decode cX10_firstOfLeast 11 = .ok (.iaload, 1) := by decide +kernel
theorem gdX10_firstOfLeast_12 : decode cX10_firstOfLeast 12 = .ok (.goto 9, 3) := by decide +kernel
theorem gdX10_trace_57 : decode cX10_trace 57 = .ok (.return_, 1) := by decide +kernel
theorem gdX10_trace_87 : decode cX10_trace 87 = .ok (.return_, 1) := by decide +kernel
theorem gdX10_trace_17 : decode cX10_trace 17 = .ok (.iload_n 2, 1) := by decide +kernel
theorem gdX10_trace_18 : decode cX10_trace 18 = .ok (.aload_n 0, 1) := by decide +kernel
theorem gdX10_trace_19 : decode cX10_trace 19 = .ok (.getfield 47, 3) := by decide +kernel
theorem gdX10_trace_22 : decode cX10_trace 22 = .ok (.if_icmp .eq 65, 3) := by decide +kernel
theorem gdX10_trace_25 : decode cX10_trace 25 = .ok (.aload_n 0, 1) := by decide +kernel
theorem gdX10_trace_26 : decode cX10_trace 26 = .ok (.getfield 96, 3) := by decide +kernel
theorem gdX10_trace_29 : decode cX10_trace 29 = .ok (.bipush 64, 2) := by decide +kernel
theorem gdX10_trace_31 : decode cX10_trace 31 = .ok (.if_icmp .ge 56, 3) := by decide +kernel
theorem gdX10_trace_34 : decode cX10_trace 34 = .ok (.aload_n 0, 1) := by decide +kernel
theorem gdX10_trace_35 : decode cX10_trace 35 = .ok (.iload_n 2, 1) := by decide +kernel
theorem gdX10_trace_36 : decode cX10_trace 36 = .ok (.iload_n 3, 1) := by decide +kernel
theorem gdX10_trace_37 : decode cX10_trace 37 = .ok (.invokevirtual 99, 3) := by decide +kernel
theorem gdX10_trace_40 : decode cX10_trace 40 = .ok (.istore_n 3, 1) := by decide +kernel
theorem gdX10_trace_41 : decode cX10_trace 41 = .ok (.iload_n 3, 1) := by decide +kernel
theorem gdX10_trace_42 : decode cX10_trace 42 = .ok (.bipush (-9), 2) := by decide +kernel
theorem gdX10_trace_44 : decode cX10_trace 44 = .ok (.if_icmp .eq 13, 3) := by decide +kernel
theorem gdX10_trace_47 : decode cX10_trace 47 = .ok (.iload_n 2, 1) := by decide +kernel
theorem gdX10_trace_48 : decode cX10_trace 48 = .ok (.iload_n 3, 1) := by decide +kernel
theorem gdX10_trace_49 : decode cX10_trace 49 = .ok (.invokestatic 102, 3) := by decide +kernel
theorem gdX10_trace_52 : decode cX10_trace 52 = .ok (.bipush (-9), 2) := by decide +kernel
theorem gdX10_trace_54 : decode cX10_trace 54 = .ok (.if_icmp .ne 4, 3) := by decide +kernel
theorem gdX10_trace_58 : decode cX10_trace 58 = .ok (.iload_n 2, 1) := by decide +kernel
theorem gdX10_trace_59 : decode cX10_trace 59 = .ok (.iload_n 3, 1) := by decide +kernel
theorem gdX10_trace_60 : decode cX10_trace 60 = .ok (.invokestatic 102, 3) := by decide +kernel
theorem gdX10_trace_63 : decode cX10_trace 63 = .ok (.istore_n 2, 1) := by decide +kernel
theorem gdX10_trace_64 : decode cX10_trace 64 = .ok (.aload_n 0, 1) := by decide +kernel
theorem gdX10_trace_65 : decode cX10_trace 65 = .ok (.getfield 17, 3) := by decide +kernel
theorem gdX10_trace_68 : decode cX10_trace 68 = .ok (.aload_n 0, 1) := by decide +kernel
theorem gdX10_trace_69 : decode cX10_trace 69 = .ok (.getfield 96, 3) := by decide +kernel
theorem gdX10_trace_72 : decode cX10_trace 72 = .ok (.iload_n 2, 1) := by decide +kernel
theorem gdX10_trace_73 : decode cX10_trace 73 = .ok (.iastore, 1) := by decide +kernel
theorem gdX10_trace_74 : decode cX10_trace 74 = .ok (.aload_n 0, 1) := by decide +kernel
theorem gdX10_trace_75 : decode cX10_trace 75 = .ok (.dup, 1) := by decide +kernel
theorem gdX10_trace_76 : decode cX10_trace 76 = .ok (.getfield 96, 3) := by decide +kernel
theorem gdX10_trace_79 : decode cX10_trace 79 = .ok (.iconst 1, 1) := by decide +kernel
theorem gdX10_trace_80 : decode cX10_trace 80 = .ok (.iadd, 1) := by decide +kernel
theorem gdX10_trace_81 : decode cX10_trace 81 = .ok (.putfield 96, 3) := by decide +kernel
theorem gdX10_trace_84 : decode cX10_trace 84 = .ok (.goto (-67), 3) := by decide +kernel
theorem gdX10_trace_0 : decode cX10_trace 0 = .ok (.iload_n 1, 1) := by decide +kernel
theorem gdX10_trace_1 : decode cX10_trace 1 = .ok (.istore_n 2, 1) := by decide +kernel
theorem gdX10_trace_2 : decode cX10_trace 2 = .ok (.bipush (-9), 2) := by decide +kernel
theorem gdX10_trace_4 : decode cX10_trace 4 = .ok (.istore_n 3, 1) := by decide +kernel
theorem gdX10_trace_5 : decode cX10_trace 5 = .ok (.aload_n 0, 1) := by decide +kernel
theorem gdX10_trace_6 : decode cX10_trace 6 = .ok (.getfield 17, 3) := by decide +kernel
theorem gdX10_trace_9 : decode cX10_trace 9 = .ok (.iconst 0, 1) := by decide +kernel
theorem gdX10_trace_10 : decode cX10_trace 10 = .ok (.iload_n 1, 1) := by decide +kernel
theorem gdX10_trace_11 : decode cX10_trace 11 = .ok (.iastore, 1) := by decide +kernel
theorem gdX10_trace_12 : decode cX10_trace 12 = .ok (.aload_n 0, 1) := by decide +kernel
theorem gdX10_trace_13 : decode cX10_trace 13 = .ok (.iconst 1, 1) := by decide +kernel
theorem gdX10_trace_14 : decode cX10_trace 14 = .ok (.putfield 96, 3) := by decide +kernel
theorem gdX10_find_95 : decode cX10_find 95 = .ok (.aload_n 0, 1) := by decide +kernel
theorem gdX10_find_96 : decode cX10_find 96 = .ok (.getfield 23, 3) := by decide +kernel
theorem gdX10_find_99 : decode cX10_find 99 = .ok (.iload_n 3, 1) := by decide +kernel
theorem gdX10_find_100 : decode cX10_find 100 = .ok (.iaload, 1) := by decide +kernel
theorem gdX10_find_101 : decode cX10_find 101 = .ok (.ldc 29, 2) := by decide +kernel
theorem gdX10_find_103 : decode cX10_find 103 = .ok (.if_icmp .lt 5, 3) := by decide +kernel
theorem gdX10_find_108 : decode cX10_find 108 = .ok (.aload_n 0, 1) := by decide +kernel
theorem gdX10_find_109 : decode cX10_find 109 = .ok (.aload_n 0, 1) := by decide +kernel
theorem gdX10_find_110 : decode cX10_find 110 = .ok (.getfield 11, 3) := by decide +kernel
theorem gdX10_find_113 : decode cX10_find 113 = .ok (.iload_n 3, 1) := by decide +kernel
theorem gdX10_find_114 : decode cX10_find 114 = .ok (.iaload, 1) := by decide +kernel
theorem gdX10_find_115 : decode cX10_find 115 = .ok (.aload_n 0, 1) := by decide +kernel
theorem gdX10_find_116 : decode cX10_find 116 = .ok (.getfield 23, 3) := by decide +kernel
theorem gdX10_find_119 : decode cX10_find 119 = .ok (.iload_n 3, 1) := by decide +kernel
theorem gdX10_find_120 : decode cX10_find 120 = .ok (.iaload, 1) := by decide +kernel
theorem gdX10_find_121 : decode cX10_find 121 = .ok (.iadd, 1) := by decide +kernel
theorem gdX10_find_122 : decode cX10_find 122 = .ok (.putfield 63, 3) := by decide +kernel
theorem gdX10_find_125 : decode cX10_find 125 = .ok (.aload_n 0, 1) := by decide +kernel
theorem gdX10_find_126 : decode cX10_find 126 = .ok (.iload_n 3, 1) := by decide +kernel
theorem gdX10_find_127 : decode cX10_find 127 = .ok (.invokevirtual 66, 3) := by decide +kernel
theorem gdX10_find_130 : decode cX10_find 130 = .ok (.iconst 1, 1) := by decide +kernel
theorem gdX10_find_131 : decode cX10_find 131 = .ok (.ireturn, 1) := by decide +kernel
theorem gdX10_find_106 : decode cX10_find 106 = .ok (.iconst 0, 1) := by decide +kernel
theorem gdX10_find_107 : decode cX10_find 107 = .ok (.ireturn, 1) := by decide +kernel
theorem gdX10_find_89 : decode cX10_find 89 = .ok (.iinc 5 1, 3) := by decide +kernel
theorem gdX10_find_92 : decode cX10_find 92 = .ok (.goto (-42), 3) := by decide +kernel
theorem gdX10_find_50 : decode cX10_find 50 = .ok (.iload 5, 2) := by decide +kernel
theorem gdX10_find_52 : decode cX10_find 52 = .ok (.ldc 54, 2) := by decide +kernel
theorem gdX10_find_54 : decode cX10_find 54 = .ok (.if_icmp .ge 41, 3) := by decide +kernel
theorem gdX10_find_57 : decode cX10_find 57 = .ok (.aload_n 0, 1) := by decide +kernel
theorem gdX10_find_58 : decode cX10_find 58 = .ok (.getfield 40, 3) := by decide +kernel
theorem gdX10_find_61 : decode cX10_find 61 = .ok (.ifCond .le 34, 3) := by decide +kernel
theorem gdX10_find_64 : decode cX10_find 64 = .ok (.aload_n 0, 1) := by decide +kernel
theorem gdX10_find_65 : decode cX10_find 65 = .ok (.invokevirtual 55, 3) := by decide +kernel
theorem gdX10_find_68 : decode cX10_find 68 = .ok (.istore 6, 2) := by decide +kernel
theorem gdX10_find_70 : decode cX10_find 70 = .ok (.aload_n 0, 1) := by decide +kernel
theorem gdX10_find_71 : decode cX10_find 71 = .ok (.aload_n 1, 1) := by decide +kernel
theorem gdX10_find_72 : decode cX10_find 72 = .ok (.iload_n 2, 1) := by decide +kernel
theorem gdX10_find_73 : decode cX10_find 73 = .ok (.iload 6, 2) := by decide +kernel
theorem gdX10_find_75 : decode cX10_find 75 = .ok (.invokevirtual 59, 3) := by decide +kernel
theorem gdX10_find_78 : decode cX10_find 78 = .ok (.ifCond .eq 11, 3) := by decide +kernel
theorem gdX10_find_81 : decode cX10_find 81 = .ok (.aload_n 0, 1) := by decide +kernel
theorem gdX10_find_82 : decode cX10_find 82 = .ok (.aload_n 1, 1) := by decide +kernel
theorem gdX10_find_83 : decode cX10_find 83 = .ok (.iload_n 2, 1) := by decide +kernel
theorem gdX10_find_84 : decode cX10_find 84 = .ok (.iload 6, 2) := by decide +kernel
theorem gdX10_find_86 : decode cX10_find 86 = .ok (.invokevirtual 50, 3) := by decide +kernel
theorem gdX10_find_0 : decode cX10_find 0 = .ok (.aload_n 0, 1) := by decide +kernel
theorem gdX10_find_1 : decode cX10_find 1 = .ok (.getfield 20, 3) := by decide +kernel
theorem gdX10_find_4 : decode cX10_find 4 = .ok (.ldc 29, 2) := by decide +kernel
theorem gdX10_find_6 : decode cX10_find 6 = .ok (.invokestatic 30, 3) := by decide +kernel
theorem gdX10_find_9 : decode cX10_find 9 = .ok (.aload_n 0, 1) := by decide +kernel
theorem gdX10_find_10 : decode cX10_find 10 = .ok (.getfield 23, 3) := by decide +kernel
theorem gdX10_find_13 : decode cX10_find 13 = .ok (.ldc 29, 2) := by decide +kernel
theorem gdX10_find_15 : decode cX10_find 15 = .ok (.invokestatic 30, 3) := by decide +kernel
theorem gdX10_find_18 : decode cX10_find 18 = .ok (.aload_n 0, 1) := by decide +kernel
theorem gdX10_find_19 : decode cX10_find 19 = .ok (.iconst 0, 1) := by decide +kernel
theorem gdX10_find_20 : decode cX10_find 20 = .ok (.putfield 36, 3) := by decide +kernel
theorem gdX10_find_23 : decode cX10_find 23 = .ok (.aload_n 0, 1) := by decide +kernel
theorem gdX10_find_24 : decode cX10_find 24 = .ok (.iconst 0, 1) := by decide +kernel
theorem gdX10_find_25 : decode cX10_find 25 = .ok (.putfield 40, 3) := by decide +kernel
theorem gdX10_find_28 : decode cX10_find 28 = .ok (.aload_n 0, 1) := by decide +kernel
theorem gdX10_find_29 : decode cX10_find 29 = .ok (.lconst 0, 1) := by decide +kernel
theorem gdX10_find_30 : decode cX10_find 30 = .ok (.putfield 43, 3) := by decide +kernel
theorem gdX10_find_33 : decode cX10_find 33 = .ok (.aload_n 0, 1) := by decide +kernel
theorem gdX10_find_34 : decode cX10_find 34 = .ok (.iload 4, 2) := by decide +kernel
theorem gdX10_find_36 : decode cX10_find 36 = .ok (.putfield 47, 3) := by decide +kernel
theorem gdX10_find_39 : decode cX10_find 39 = .ok (.aload_n 0, 1) := by decide +kernel
theorem gdX10_find_40 : decode cX10_find 40 = .ok (.aload_n 1, 1) := by decide +kernel
theorem gdX10_find_41 : decode cX10_find 41 = .ok (.iload_n 2, 1) := by decide +kernel
theorem gdX10_find_42 : decode cX10_find 42 = .ok (.iload 4, 2) := by decide +kernel
theorem gdX10_find_44 : decode cX10_find 44 = .ok (.invokevirtual 50, 3) := by decide +kernel
theorem gdX10_find_47 : decode cX10_find 47 = .ok (.iconst 0, 1) := by decide +kernel
theorem gdX10_find_48 : decode cX10_find 48 = .ok (.istore 5, 2) := by decide +kernel
theorem okm_X2_heards : okM yX2_heards cX2_heards 1 (some .int) 0 := ⟨w_1093, w_98, by decide +kernel, by decide +kernel, by decide +kernel⟩
theorem okw_X2_heards : okV yX2_heards := ⟨w_1091, w_1092⟩
theorem okm_X2_addHeard : okM yX2_addHeard cX2_addHeard 4 none 3 := ⟨w_1097, w_98, by decide +kernel, by decide +kernel, by decide +kernel⟩
theorem okw_X2_addHeard : okV yX2_addHeard := ⟨w_1095, w_1096⟩
theorem okm_X4_setHearing : okM yX4_setHearing cX4_setHearing 5 none 4 := ⟨w_1010, w_97, by decide +kernel, by decide +kernel, by decide +kernel⟩
theorem okw_X4_setHearing : okV yX4_setHearing := ⟨w_1008, w_1009⟩
theorem okm_X5_homeOf : okM yX5_homeOf cX5_homeOf 2 (some .int) 1 := ⟨w_990, w_95, by decide +kernel, by decide +kernel, by decide +kernel⟩
theorem okw_X5_homeOf : okV yX5_homeOf := ⟨w_988, w_989⟩
theorem okm_X4_partyOf : okM yX4_partyOf cX4_partyOf 2 (some .int) 1 := ⟨w_1030, w_97, by decide +kernel, by decide +kernel, by decide +kernel⟩
theorem okw_X4_partyOf : okV yX4_partyOf := ⟨w_1028, w_1029⟩
theorem okm_X3_steps : okM yX3_steps cX3_steps 2 (some .int) 2 := ⟨w_1037, w_93, by decide +kernel, by decide +kernel, by decide +kernel⟩
theorem okm_X4_hourOf : okM yX4_hourOf cX4_hourOf 2 (some .int) 1 := ⟨w_1041, w_97, by decide +kernel, by decide +kernel, by decide +kernel⟩
theorem okw_X4_hourOf : okV yX4_hourOf := ⟨w_1039, w_1040⟩
theorem okm_X5_canCome : okM yX5_canCome cX5_canCome 4 (some .boolean) 3 := ⟨w_1045, w_95, by decide +kernel, by decide +kernel, by decide +kernel⟩
theorem okw_X5_canCome : okV yX5_canCome := ⟨w_1043, w_1044⟩
theorem okm_X4_dayOf : okM yX4_dayOf cX4_dayOf 2 (some .int) 1 := ⟨w_1237, w_97, by decide +kernel, by decide +kernel, by decide +kernel⟩
theorem okw_X4_dayOf : okV yX4_dayOf := ⟨w_1235, w_1236⟩
theorem okm_X11_couldCome : okM yX11_couldCome cX11_couldCome 6 (some .int) 1 := ⟨w_1034, w_89, by decide +kernel, by decide +kernel, by decide +kernel⟩
theorem okw_X11_couldCome : okV yX11_couldCome := ⟨w_1033, w_11⟩
theorem okm_X4_hangsOn : okM yX4_hangsOn cX4_hangsOn 2 (some .int) 1 := ⟨w_1249, w_97, by decide +kernel, by decide +kernel, by decide +kernel⟩
theorem okw_X4_hangsOn : okV yX4_hangsOn := ⟨w_1247, w_1248⟩
theorem okm_X11_isVoidHearing : okM yX11_isVoidHearing cX11_isVoidHearing 3 (some .boolean) 1 := ⟨w_1233, w_89, by decide +kernel, by decide +kernel, by decide +kernel⟩
theorem okw_X11_isVoidHearing : okV yX11_isVoidHearing := ⟨w_1232, w_22⟩
theorem okm_X11_isVoidTaking : okM yX11_isVoidTaking cX11_isVoidTaking 3 (some .boolean) 1 := ⟨w_1245, w_89, by decide +kernel, by decide +kernel, by decide +kernel⟩
theorem okw_X11_isVoidTaking : okV yX11_isVoidTaking := ⟨w_1244, w_23⟩
theorem okm_X8_exchange : okM yX8_exchange cX8_exchange 5 (some .int) 3 := ⟨w_550, w_90, by decide +kernel, by decide +kernel, by decide +kernel⟩
theorem okw_X8_exchange : okV yX8_exchange := ⟨w_548, w_549⟩
theorem okm_X1_latestWorth : okM yX1_latestWorth cX1_latestWorth 2 (some .int) 1 := ⟨w_678, w_94, by decide +kernel, by decide +kernel, by decide +kernel⟩
theorem okw_X1_latestWorth : okV yX1_latestWorth := ⟨w_676, w_677⟩
theorem okm_X3_sortOf : okM yX3_sortOf cX3_sortOf 2 (some .int) 1 := ⟨w_807, w_93, by decide +kernel, by decide +kernel, by decide +kernel⟩
theorem okw_X3_sortOf : okV yX3_sortOf := ⟨w_805, w_806⟩
theorem okm_X3_beside : okM yX3_beside cX3_beside 2 (some .int) 2 := ⟨w_829, w_93, by decide +kernel, by decide +kernel, by decide +kernel⟩
theorem okm_X3_slope : okM yX3_slope cX3_slope 3 (some .int) 2 := ⟨w_834, w_93, by decide +kernel, by decide +kernel, by decide +kernel⟩
theorem okw_X3_slope : okV yX3_slope := ⟨w_832, w_833⟩
theorem okm_X3_onward : okM yX3_onward cX3_onward 5 (some .int) 3 := ⟨w_826, w_93, by decide +kernel, by decide +kernel, by decide +kernel⟩
theorem okw_X3_onward : okV yX3_onward := ⟨w_824, w_825⟩
theorem okm_X10_rest : okM yX10_rest cX10_rest 3 (some .int) 2 := ⟨w_857, w_99, by decide +kernel, by decide +kernel, by decide +kernel⟩
theorem okw_X10_rest : okV yX10_rest := ⟨w_856, w_8⟩
theorem okm_X10_firstOfLeast : okM yX10_firstOfLeast cX10_firstOfLeast 6 (some .int) 2 := ⟨w_867, w_99, by decide +kernel, by decide +kernel, by decide +kernel⟩
theorem okw_X10_firstOfLeast : okV yX10_firstOfLeast := ⟨w_866, w_10⟩
theorem okm_X10_trace : okM yX10_trace cX10_trace 4 none 1 := ⟨w_863, w_99, by decide +kernel, by decide +kernel, by decide +kernel⟩
theorem okw_X10_trace : okV yX10_trace := ⟨w_862, w_9⟩
theorem okm_X10_next : okM yX10_next cX10_next 2 (some .int) 0 := ⟨w_848, w_99, by decide +kernel, by decide +kernel, by decide +kernel⟩
theorem okw_X10_next : okV yX10_next := ⟨w_847, w_6⟩
theorem okm_X10_improve : okM yX10_improve cX10_improve 8 (some .boolean) 3 := ⟨w_853, w_99, by decide +kernel, by decide +kernel, by decide +kernel⟩
theorem okw_X10_improve : okV yX10_improve := ⟨w_852, w_7⟩
theorem okm_X10_rouseBeside : okM yX10_rouseBeside cX10_rouseBeside 6 none 3 := ⟨w_822, w_99, by decide +kernel, by decide +kernel, by decide +kernel⟩
theorem okw_X10_rouseBeside : okV yX10_rouseBeside := ⟨w_821, w_5⟩
set_option maxHeartbeats 4000000 in
set_option maxRecDepth 100000 in
theorem c_X2_heards (l : Launch) (g : GG) (ad : Nat → Nat) (o : OO) (v : Int) (h : s_X2_heards o = some v) : CI l g yX2_heards cX2_heards 1 (some .int) 0 0 (wC g ad o) [.ref (ad 46)] v (wC g ad o) := by
  refine met_I (by decide) (Nat.le_of_ble_eq_true rfl) ?_
  intro X E hQ
  show Go X 0 (wC g ad o) [(0, .ref (ad 46))] []
  unfold s_X2_heards at h
  refine g_aload_n E gdX2_heards_0 rfl 0 rfl ?_
  refine g_get (T := TX2) E fw_X2 46 (wC_46 g ad o) rfl 7 (by decide) w_308 rfl rfl gdX2_heards_1 ?_
  exact g_iret E hQ (Option.some.inj h) rfl gdX2_heards_4
set_option maxHeartbeats 4000000 in
set_option maxRecDepth 100000 in
theorem c_X2_addHeard (l : Launch) (g : GG) (ad : Nat → Nat) (o : OO) (x1 : Int) (x2 : Int) (x3 : Int) (v : OO) (h : s_X2_addHeard o x1 x2 x3 = some v) : CV l g yX2_addHeard cX2_addHeard 4 0 0 (wC g ad o) [.ref (ad 46), iv x1, iv x2, iv x3] (wC g ad v) := by
  refine met_V (by decide) (Nat.le_of_ble_eq_true rfl) ?_
  intro X E hQ
  show Go X 0 (wC g ad o) [(0, .ref (ad 46)), (1, iv x1), (2, iv x2), (3, iv x3)] []
  unfold s_X2_addHeard at h
  refine g_aload_n E gdX2_addHeard_0 rfl 0 rfl ?_
  refine g_get (T := TX2) E fw_X2 46 (wC_46 g ad o) rfl 3 (by decide) w_304 rfl rfl gdX2_addHeard_1 ?_
  refine g_aload_n E gdX2_addHeard_4 rfl 0 rfl ?_
  refine g_get (T := TX2) E fw_X2 46 (wC_46 g ad o) rfl 7 (by decide) w_308 rfl rfl gdX2_addHeard_5 ?_
  refine g_iload_n E gdX2_addHeard_8 rfl 1 rfl ?_
  obtain ⟨hi1, h⟩ := qIn_of h
  obtain ⟨o2, e_o2, h⟩ := qNm_of h
  refine g_iast (ws' := wC g ad o2) E 50 (wC_50 g ad o) (by decide) hi1 (by rw [e_o2]; exact wC_s50 g ad o _ _) gdX2_addHeard_9 ?_
  refine g_aload_n E gdX2_addHeard_10 rfl 0 rfl ?_
  refine g_get (T := TX2) E fw_X2 46 (wC_46 g ad o2) rfl 4 (by decide) w_305 rfl rfl gdX2_addHeard_11 ?_
  refine g_aload_n E gdX2_addHeard_14 rfl 0 rfl ?_
  refine g_get (T := TX2) E fw_X2 46 (wC_46 g ad o2) rfl 7 (by decide) w_308 rfl rfl gdX2_addHeard_15 ?_
  refine g_iload_n E gdX2_addHeard_18 rfl 2 rfl ?_
  obtain ⟨hi3, h⟩ := qIn_of h
  obtain ⟨o4, e_o4, h⟩ := qNm_of h
  refine g_iast (ws' := wC g ad o4) E 51 (wC_51 g ad o2) (by decide) hi3 (by rw [e_o4]; exact wC_s51 g ad o2 _ _) gdX2_addHeard_19 ?_
  refine g_aload_n E gdX2_addHeard_20 rfl 0 rfl ?_
  refine g_get (T := TX2) E fw_X2 46 (wC_46 g ad o4) rfl 5 (by decide) w_306 rfl rfl gdX2_addHeard_21 ?_
  refine g_aload_n E gdX2_addHeard_24 rfl 0 rfl ?_
  refine g_get (T := TX2) E fw_X2 46 (wC_46 g ad o4) rfl 7 (by decide) w_308 rfl rfl gdX2_addHeard_25 ?_
  refine g_iload_n E gdX2_addHeard_28 rfl 3 rfl ?_
  obtain ⟨hi5, h⟩ := qIn_of h
  obtain ⟨o6, e_o6, h⟩ := qNm_of h
  refine g_iast (ws' := wC g ad o6) E 52 (wC_52 g ad o4) (by decide) hi5 (by rw [e_o6]; exact wC_s52 g ad o4 _ _) gdX2_addHeard_29 ?_
  refine g_aload_n E gdX2_addHeard_30 rfl 0 rfl ?_
  refine g_dup E gdX2_addHeard_31 rfl ?_
  refine g_get (T := TX2) E fw_X2 46 (wC_46 g ad o6) rfl 7 (by decide) w_308 rfl rfl gdX2_addHeard_32 ?_
  refine g_iconst E gdX2_addHeard_35 ?_
  refine g_iadd E gdX2_addHeard_36 ?_
  obtain ⟨o7, e_o7, h⟩ := qNm_of h
  refine g_puti (T := TX2) (ws' := wC g ad o7) E fw_X2 tyX2 tyX2_ok nmX2 46 (wC_46 g ad o6) rfl 7 (by decide) w_308 rfl rfl (by decide +kernel) (Nat.le_of_ble_eq_true rfl) (by rw [e_o7]; exact wC_p46_7 g ad o6 _) gdX2_addHeard_37 ?_
  exact g_vret E hQ (by rw [← Option.some.inj h]) gdX2_addHeard_40
set_option maxHeartbeats 4000000 in
set_option maxRecDepth 100000 in
theorem c_X11_hear (l : Launch) (g : GG) (ad : Nat → Nat) (o : OO) (x1 : Int) (x2 : Int) (v : Int × OO) (h : s_X11_hear o x1 x2 = some v) : CI l g yX11_hear cX11_hear 4 (some .int) 1 23 (wC g ad o) [.ref (ad 0), iv x1, iv x2] v.1 (wC g ad v.2) := by
  refine met_I (by decide) (Nat.le_of_ble_eq_true rfl) ?_
  intro X E hQ
  show Go X 0 (wC g ad o) [(0, .ref (ad 0)), (1, iv x1), (2, iv x2)] []
  have j22 : ∀ (o : OO), b_X11_hear_22 o = some v → Go X 22 (wC g ad o) [] [] := by
    intro o h
    unfold b_X11_hear_22 at h
    refine g_iconst E gdX11_hear_22 ?_
    exact g_iret E hQ (by rw [← Option.some.inj h]) (by rw [← Option.some.inj h]) gdX11_hear_23
  unfold s_X11_hear at h
  refine g_aload_n E gdX11_hear_0 rfl 0 rfl ?_
  refine g_get (T := TX11) E fw_X11 0 (wC_0 g ad o) rfl 4 (by decide) w_462 rfl rfl gdX11_hear_1 ?_
  refine g_iload_n E gdX11_hear_4 rfl 1 rfl ?_
  obtain ⟨r1, hc2, h⟩ := qB_of h
  refine g_Vi (r := r1) (As := [iv x1]) (rest := []) (w := wC g ad o) E (c_X5_exists l g ad o x1 r1 hc2) okm_X5_exists okw_X5_exists w_735 rfl (wC_23 g ad o) rfl rfl (Nat.le_of_ble_eq_true rfl) ⟨Nat.le_of_ble_eq_true rfl, Nat.le_of_ble_eq_true rfl⟩ gdX11_hear_5 ?_
  refine g_if_eq E 22 gdX11_hear_8 (by decide) h (fun h => ?_) (fun h => ?_)
  ·
    refine g_sub E [] rfl ?_
    exact j22 o h
  ·
    refine g_aload_n E gdX11_hear_11 rfl 0 rfl ?_
    refine g_get (T := TX11) E fw_X11 0 (wC_0 g ad o) rfl 6 (by decide) w_464 rfl rfl gdX11_hear_12 ?_
    refine g_iload_n E gdX11_hear_15 rfl 2 rfl ?_
    obtain ⟨r3, hc4, h⟩ := qB_of h
    refine g_Vi (r := r3) (As := [iv x2]) (rest := []) (w := wC g ad o) E (c_X4_exists l g ad o x2 r3 hc4) okm_X4_exists okw_X4_exists w_882 rfl (wC_32 g ad o) rfl rfl (Nat.le_of_ble_eq_true rfl) ⟨Nat.le_of_ble_eq_true rfl, Nat.le_of_ble_eq_true rfl⟩ gdX11_hear_16 ?_
    refine g_if_ne E 24 gdX11_hear_19 (by decide) h (fun h => ?_) (fun h => ?_)
    ·
      refine g_aload_n E gdX11_hear_24 rfl 0 rfl ?_
      refine g_get (T := TX11) E fw_X11 0 (wC_0 g ad o) rfl 6 (by decide) w_464 rfl rfl gdX11_hear_25 ?_
      refine g_iload_n E gdX11_hear_28 rfl 2 rfl ?_
      refine g_iconst E gdX11_hear_29 ?_
      obtain ⟨r5, hc6, h⟩ := qB_of h
      refine g_Vi (r := r5) (As := [iv x2, iv 1]) (rest := []) (w := wC g ad o) E (c_X4_isOf l g ad o x2 1 r5 hc6) okm_X4_isOf okw_X4_isOf w_886 rfl (wC_32 g ad o) rfl rfl (Nat.le_of_ble_eq_true rfl) ⟨Nat.le_of_ble_eq_true rfl, Nat.le_of_ble_eq_true rfl⟩ gdX11_hear_30 ?_
      refine g_if_ne E 42 gdX11_hear_33 (by decide) h (fun h => ?_) (fun h => ?_)
      ·
        refine g_aload_n E gdX11_hear_42 rfl 0 rfl ?_
        refine g_get (T := TX11) E fw_X11 0 (wC_0 g ad o) rfl 7 (by decide) w_465 rfl rfl gdX11_hear_43 ?_
        refine g_iload_n E gdX11_hear_46 rfl 1 rfl ?_
        refine g_iload_n E gdX11_hear_47 rfl 2 rfl ?_
        obtain ⟨r7, hc8, h⟩ := qB_of h
        refine g_Vi (r := r7) (As := [iv x1, iv x2]) (rest := []) (w := wC g ad o) E (c_X2_heardOn l g ad o x1 x2 r7 hc8) okm_X2_heardOn okw_X2_heardOn w_1086 rfl (wC_46 g ad o) rfl rfl (Nat.le_of_ble_eq_true rfl) ⟨Nat.le_of_ble_eq_true rfl, Nat.le_of_ble_eq_true rfl⟩ gdX11_hear_48 ?_
        refine g_istore_n E [(3, iv r7), (0, .ref (ad 0)), (1, iv x1), (2, iv x2)] gdX11_hear_51 rfl (by decide) rfl ?_
        refine g_iload_n E gdX11_hear_52 rfl 0 rfl ?_
        refine g_bipush E gdX11_hear_53 (by decide) ?_
        refine g_icmp_eq E 60 gdX11_hear_55 (by decide) h (fun h => ?_) (fun h => ?_)
        ·
          refine g_aload_n E gdX11_hear_60 rfl 1 rfl ?_
          refine g_get (T := TX11) E fw_X11 0 (wC_0 g ad o) rfl 7 (by decide) w_465 rfl rfl gdX11_hear_61 ?_
          obtain ⟨r9, hc10, h⟩ := qB_of h
          refine g_Vi (r := r9) (As := []) (rest := []) (w := wC g ad o) E (c_X2_heards l g ad o r9 hc10) okm_X2_heards okw_X2_heards w_1090 rfl (wC_46 g ad o) rfl rfl (Nat.le_of_ble_eq_true rfl) ⟨Nat.le_of_ble_eq_true rfl, Nat.le_of_ble_eq_true rfl⟩ gdX11_hear_64 ?_
          refine g_bipush E gdX11_hear_67 (by decide) ?_
          refine g_icmp_lt E 75 gdX11_hear_69 (by decide) h (fun h => ?_) (fun h => ?_)
          ·
            refine g_aload_n E gdX11_hear_75 rfl 1 rfl ?_
            refine g_get (T := TX11) E fw_X11 0 (wC_0 g ad o) rfl 7 (by decide) w_465 rfl rfl gdX11_hear_76 ?_
            refine g_iload_n E gdX11_hear_79 rfl 2 rfl ?_
            refine g_iload_n E gdX11_hear_80 rfl 3 rfl ?_
            refine g_aload_n E gdX11_hear_81 rfl 1 rfl ?_
            refine g_get (T := TX11) E fw_X11 0 (wC_0 g ad o) rfl 13 (by decide) w_471 rfl rfl gdX11_hear_82 ?_
            obtain ⟨o13, hc12, h⟩ := qB_of h
            refine g_Vv (As := [iv x1, iv x2, iv (o.1 0 13)]) (rest := []) (w := wC g ad o13) E (c_X2_addHeard l g ad o x1 x2 (o.1 0 13) o13 hc12) okm_X2_addHeard okw_X2_addHeard w_1094 rfl (wC_46 g ad o) rfl rfl (Nat.le_of_ble_eq_true rfl) ⟨Nat.le_of_ble_eq_true rfl, Nat.le_of_ble_eq_true rfl⟩ gdX11_hear_85 ?_
            refine g_aload_n E gdX11_hear_88 rfl 1 rfl ?_
            refine g_get (T := TX11) E fw_X11 0 (wC_0 g ad o13) rfl 13 (by decide) w_471 rfl rfl gdX11_hear_89 ?_
            exact g_iret E hQ (by rw [← Option.some.inj h]) (by rw [← Option.some.inj h]) gdX11_hear_92
          ·
            refine g_bipush E gdX11_hear_72 (by decide) ?_
            exact g_iret E hQ (by rw [← Option.some.inj h]) (by rw [← Option.some.inj h]) gdX11_hear_74
        ·
          refine g_iload_n E gdX11_hear_58 rfl 0 rfl ?_
          exact g_iret E hQ (by rw [← Option.some.inj h]) (by rw [← Option.some.inj h]) gdX11_hear_59
      ·
        refine g_aload_n E gdX11_hear_36 rfl 0 rfl ?_
        refine g_iconst E gdX11_hear_37 ?_
        obtain ⟨r14, o16, hc15, h⟩ := qB2_of h
        refine g_Vi (r := r14) (As := [iv 3]) (rest := []) (w := wC g ad o16) E (c_X11_found l g ad o 3 (r14, o16) hc15) okm_X11_found okw_X11_found w_521 rfl (wC_0 g ad o) rfl rfl (Nat.le_of_ble_eq_true rfl) ⟨Nat.le_of_ble_eq_true rfl, Nat.le_of_ble_eq_true rfl⟩ gdX11_hear_38 ?_
        exact g_iret E hQ (by rw [← Option.some.inj h]) (by rw [← Option.some.inj h]) gdX11_hear_41
    ·
      refine g_sub E [] rfl ?_
      exact j22 o h
set_option maxHeartbeats 4000000 in
set_option maxRecDepth 100000 in
theorem c_X4_setHearing (l : Launch) (g : GG) (ad : Nat → Nat) (o : OO) (x1 : Int) (x2 : Int) (x3 : Int) (x4 : Int) (v : OO) (h : s_X4_setHearing o x1 x2 x3 x4 = some v) : CV l g yX4_setHearing cX4_setHearing 5 0 0 (wC g ad o) [.ref (ad 32), iv x1, iv x2, iv x3, iv x4] (wC g ad v) := by
  refine met_V (by decide) (Nat.le_of_ble_eq_true rfl) ?_
  intro X E hQ
  show Go X 0 (wC g ad o) [(0, .ref (ad 32)), (1, iv x1), (2, iv x2), (3, iv x3), (4, iv x4)] []
  unfold s_X4_setHearing at h
  refine g_aload_n E gdX4_setHearing_0 rfl 0 rfl ?_
  refine g_get (T := TX4) E fw_X4 32 (wC_32 g ad o) rfl 9 (by decide) w_260 rfl rfl gdX4_setHearing_1 ?_
  refine g_iload_n E gdX4_setHearing_4 rfl 1 rfl ?_
  refine g_iload_n E gdX4_setHearing_5 rfl 2 rfl ?_
  obtain ⟨hi1, h⟩ := qIn_of h
  obtain ⟨o2, e_o2, h⟩ := qNm_of h
  refine g_iast (ws' := wC g ad o2) E 42 (wC_42 g ad o) (by decide) hi1 (by rw [e_o2]; exact wC_s42 g ad o _ _) gdX4_setHearing_6 ?_
  refine g_aload_n E gdX4_setHearing_7 rfl 0 rfl ?_
  refine g_get (T := TX4) E fw_X4 32 (wC_32 g ad o2) rfl 11 (by decide) w_262 rfl rfl gdX4_setHearing_8 ?_
  refine g_iload_n E gdX4_setHearing_11 rfl 1 rfl ?_
  refine g_iload_n E gdX4_setHearing_12 rfl 3 rfl ?_
  obtain ⟨hi3, h⟩ := qIn_of h
  obtain ⟨o4, e_o4, h⟩ := qNm_of h
  refine g_iast (ws' := wC g ad o4) E 44 (wC_44 g ad o2) (by decide) hi3 (by rw [e_o4]; exact wC_s44 g ad o2 _ _) gdX4_setHearing_13 ?_
  refine g_aload_n E gdX4_setHearing_14 rfl 0 rfl ?_
  refine g_get (T := TX4) E fw_X4 32 (wC_32 g ad o4) rfl 10 (by decide) w_261 rfl rfl gdX4_setHearing_15 ?_
  refine g_iload_n E gdX4_setHearing_18 rfl 1 rfl ?_
  refine g_iload E gdX4_setHearing_19 4 rfl ?_
  obtain ⟨hi5, h⟩ := qIn_of h
  obtain ⟨o6, e_o6, h⟩ := qNm_of h
  refine g_iast (ws' := wC g ad o6) E 43 (wC_43 g ad o4) (by decide) hi5 (by rw [e_o6]; exact wC_s43 g ad o4 _ _) gdX4_setHearing_21 ?_
  exact g_vret E hQ (by rw [← Option.some.inj h]) gdX4_setHearing_22
set_option maxHeartbeats 4000000 in
set_option maxRecDepth 100000 in
theorem c_X11_hearing (l : Launch) (g : GG) (ad : Nat → Nat) (o : OO) (x1 : Int) (x2 : Int) (x3 : Int) (x4 : Int) (v : Int × OO) (h : s_X11_hearing o x1 x2 x3 x4 = some v) : CI l g yX11_hearing cX11_hearing 6 (some .int) 1 24 (wC g ad o) [.ref (ad 0), iv x1, iv x2, iv x3, iv x4] v.1 (wC g ad v.2) := by
  refine met_I (by decide) (Nat.le_of_ble_eq_true rfl) ?_
  intro X E hQ
  show Go X 0 (wC g ad o) [(0, .ref (ad 0)), (1, iv x1), (2, iv x2), (3, iv x3), (4, iv x4)] []
  have j36 : ∀ (o : OO), b_X11_hearing_36 o = some v → Go X 36 (wC g ad o) [] [] := by
    intro o h
    unfold b_X11_hearing_36 at h
    refine g_iconst E gdX11_hearing_36 ?_
    exact g_iret E hQ (by rw [← Option.some.inj h]) (by rw [← Option.some.inj h]) gdX11_hearing_37
  unfold s_X11_hearing at h
  refine g_aload_n E gdX11_hearing_0 rfl 0 rfl ?_
  refine g_get (T := TX11) E fw_X11 0 (wC_0 g ad o) rfl 6 (by decide) w_464 rfl rfl gdX11_hearing_1 ?_
  refine g_iload_n E gdX11_hearing_4 rfl 1 rfl ?_
  obtain ⟨r1, hc2, h⟩ := qB_of h
  refine g_Vi (r := r1) (As := [iv x1]) (rest := []) (w := wC g ad o) E (c_X4_exists l g ad o x1 r1 hc2) okm_X4_exists okw_X4_exists w_882 rfl (wC_32 g ad o) rfl rfl (Nat.le_of_ble_eq_true rfl) ⟨Nat.le_of_ble_eq_true rfl, Nat.le_of_ble_eq_true rfl⟩ gdX11_hearing_5 ?_
  refine g_if_eq E 36 gdX11_hearing_8 (by decide) h (fun h => ?_) (fun h => ?_)
  ·
    refine g_sub E [] rfl ?_
    exact j36 o h
  ·
    refine g_iload_n E gdX11_hearing_11 rfl 2 rfl ?_
    obtain ⟨r3, hc4, h⟩ := qB_of h
    refine g_Si (r := r3) (As := [iv x2]) (rest := []) (w := wC g ad o) E (c_X3_isCell l g (wC g ad o) x2 r3 hc4) okm_X3_isCell w_622 w_621 rfl rfl (Nat.le_of_ble_eq_true rfl) ⟨Nat.le_of_ble_eq_true rfl, Nat.le_of_ble_eq_true rfl⟩ gdX11_hearing_12 ?_
    refine g_if_eq E 36 gdX11_hearing_15 (by decide) h (fun h => ?_) (fun h => ?_)
    ·
      refine g_sub E [] rfl ?_
      exact j36 o h
    ·
      refine g_iload_n E gdX11_hearing_18 rfl 3 rfl ?_
      refine g_if_lt E 36 gdX11_hearing_19 (by decide) h (fun h => ?_) (fun h => ?_)
      ·
        refine g_sub E [] rfl ?_
        exact j36 o h
      ·
        refine g_iload_n E gdX11_hearing_22 rfl 3 rfl ?_
        refine g_bipush E gdX11_hearing_23 (by decide) ?_
        refine g_icmp_gt E 36 gdX11_hearing_25 (by decide) h (fun h => ?_) (fun h => ?_)
        ·
          refine g_sub E [] rfl ?_
          exact j36 o h
        ·
          refine g_iload E gdX11_hearing_28 4 rfl ?_
          obtain ⟨r5, hc6, h⟩ := qB_of h
          refine g_Si (r := r5) (As := [iv x4]) (rest := []) (w := wC g ad o) E (c_X11_isDay l g (wC g ad o) x4 r5 hc6) okm_X11_isDay w_685 w_684 rfl rfl (Nat.le_of_ble_eq_true rfl) ⟨Nat.le_of_ble_eq_true rfl, Nat.le_of_ble_eq_true rfl⟩ gdX11_hearing_30 ?_
          refine g_if_ne E 38 gdX11_hearing_33 (by decide) h (fun h => ?_) (fun h => ?_)
          ·
            refine g_aload_n E gdX11_hearing_38 rfl 0 rfl ?_
            refine g_get (T := TX11) E fw_X11 0 (wC_0 g ad o) rfl 6 (by decide) w_464 rfl rfl gdX11_hearing_39 ?_
            obtain ⟨r7, hc8, h⟩ := qB_of h
            refine g_Vi (r := r7) (As := []) (rest := []) (w := wC g ad o) E (c_X4_number l g ad o r7 hc8) okm_X4_number okw_X4_number w_790 rfl (wC_32 g ad o) rfl rfl (Nat.le_of_ble_eq_true rfl) ⟨Nat.le_of_ble_eq_true rfl, Nat.le_of_ble_eq_true rfl⟩ gdX11_hearing_42 ?_
            refine g_bipush E gdX11_hearing_45 (by decide) ?_
            refine g_icmp_lt E 53 gdX11_hearing_47 (by decide) h (fun h => ?_) (fun h => ?_)
            ·
              refine g_aload_n E gdX11_hearing_53 rfl 0 rfl ?_
              refine g_get (T := TX11) E fw_X11 0 (wC_0 g ad o) rfl 6 (by decide) w_464 rfl rfl gdX11_hearing_54 ?_
              refine g_iload_n E gdX11_hearing_57 rfl 1 rfl ?_
              refine g_iconst E gdX11_hearing_58 ?_
              obtain ⟨r9, hc10, h⟩ := qB_of h
              refine g_Vi (r := r9) (As := [iv x1, iv 1]) (rest := []) (w := wC g ad o) E (c_X4_isOf l g ad o x1 1 r9 hc10) okm_X4_isOf okw_X4_isOf w_886 rfl (wC_32 g ad o) rfl rfl (Nat.le_of_ble_eq_true rfl) ⟨Nat.le_of_ble_eq_true rfl, Nat.le_of_ble_eq_true rfl⟩ gdX11_hearing_59 ?_
              refine g_if_ne E 71 gdX11_hearing_62 (by decide) h (fun h => ?_) (fun h => ?_)
              ·
                refine g_iload E gdX11_hearing_71 4 rfl ?_
                refine g_aload_n E gdX11_hearing_73 rfl 0 rfl ?_
                refine g_get (T := TX11) E fw_X11 0 (wC_0 g ad o) rfl 13 (by decide) w_471 rfl rfl gdX11_hearing_74 ?_
                refine g_icmp_ge E 83 gdX11_hearing_77 (by decide) h (fun h => ?_) (fun h => ?_)
                ·
                  refine g_aload_n E gdX11_hearing_83 rfl 0 rfl ?_
                  refine g_get (T := TX11) E fw_X11 0 (wC_0 g ad o) rfl 6 (by decide) w_464 rfl rfl gdX11_hearing_84 ?_
                  refine g_bipush E gdX11_hearing_87 (by decide) ?_
                  refine g_aload_n E gdX11_hearing_89 rfl 0 rfl ?_
                  refine g_get (T := TX11) E fw_X11 0 (wC_0 g ad o) rfl 13 (by decide) w_471 rfl rfl gdX11_hearing_90 ?_
                  refine g_iload_n E gdX11_hearing_93 rfl 1 rfl ?_
                  obtain ⟨r11, o13, hc12, h⟩ := qB2_of h
                  refine g_Vi (r := r11) (As := [iv 6, iv (o.1 0 13), iv x1]) (rest := []) (w := wC g ad o13) E (c_X4_add l g ad o 6 (o.1 0 13) x1 (r11, o13) hc12) okm_X4_add okw_X4_add w_869 rfl (wC_32 g ad o) rfl rfl (Nat.le_of_ble_eq_true rfl) ⟨Nat.le_of_ble_eq_true rfl, Nat.le_of_ble_eq_true rfl⟩ gdX11_hearing_94 ?_
                  refine g_istore E [(5, iv r11), (0, .ref (ad 0)), (1, iv x1), (2, iv x2), (3, iv x3), (4, iv x4)] gdX11_hearing_97 (by decide) rfl ?_
                  refine g_aload_n E gdX11_hearing_99 rfl 1 rfl ?_
                  refine g_get (T := TX11) E fw_X11 0 (wC_0 g ad o13) rfl 6 (by decide) w_464 rfl rfl gdX11_hearing_100 ?_
                  refine g_iload E gdX11_hearing_103 0 rfl ?_
                  refine g_iload_n E gdX11_hearing_105 rfl 3 rfl ?_
                  refine g_iload_n E gdX11_hearing_106 rfl 4 rfl ?_
                  refine g_iload E gdX11_hearing_107 5 rfl ?_
                  obtain ⟨o16, hc15, h⟩ := qB_of h
                  refine g_Vv (As := [iv r11, iv x2, iv x3, iv x4]) (rest := []) (w := wC g ad o16) E (c_X4_setHearing l g ad o13 r11 x2 x3 x4 o16 hc15) okm_X4_setHearing okw_X4_setHearing w_1007 rfl (wC_32 g ad o13) rfl rfl (Nat.le_of_ble_eq_true rfl) ⟨Nat.le_of_ble_eq_true rfl, Nat.le_of_ble_eq_true rfl⟩ gdX11_hearing_109 ?_
                  refine g_iload E gdX11_hearing_112 0 rfl ?_
                  exact g_iret E hQ (by rw [← Option.some.inj h]) (by rw [← Option.some.inj h]) gdX11_hearing_114
                ·
                  refine g_bipush E gdX11_hearing_80 (by decide) ?_
                  exact g_iret E hQ (by rw [← Option.some.inj h]) (by rw [← Option.some.inj h]) gdX11_hearing_82
              ·
                refine g_aload_n E gdX11_hearing_65 rfl 0 rfl ?_
                refine g_iconst E gdX11_hearing_66 ?_
                obtain ⟨r17, o19, hc18, h⟩ := qB2_of h
                refine g_Vi (r := r17) (As := [iv 3]) (rest := []) (w := wC g ad o19) E (c_X11_found l g ad o 3 (r17, o19) hc18) okm_X11_found okw_X11_found w_521 rfl (wC_0 g ad o) rfl rfl (Nat.le_of_ble_eq_true rfl) ⟨Nat.le_of_ble_eq_true rfl, Nat.le_of_ble_eq_true rfl⟩ gdX11_hearing_67 ?_
                exact g_iret E hQ (by rw [← Option.some.inj h]) (by rw [← Option.some.inj h]) gdX11_hearing_70
            ·
              refine g_bipush E gdX11_hearing_50 (by decide) ?_
              exact g_iret E hQ (by rw [← Option.some.inj h]) (by rw [← Option.some.inj h]) gdX11_hearing_52
          ·
            refine g_sub E [] rfl ?_
            exact j36 o h
set_option maxHeartbeats 4000000 in
set_option maxRecDepth 100000 in
theorem c_X11_house (l : Launch) (g : GG) (ad : Nat → Nat) (o : OO) (x1 : Int) (x2 : Int) (v : Int × OO) (h : s_X11_house o x1 x2 = some v) : CI l g yX11_house cX11_house 3 (some .int) 1 22 (wC g ad o) [.ref (ad 0), iv x1, iv x2] v.1 (wC g ad v.2) := by
  refine met_I (by decide) (Nat.le_of_ble_eq_true rfl) ?_
  intro X E hQ
  show Go X 0 (wC g ad o) [(0, .ref (ad 0)), (1, iv x1), (2, iv x2)] []
  have j20 : ∀ (o : OO), b_X11_house_20 o = some v → Go X 20 (wC g ad o) [] [] := by
    intro o h
    unfold b_X11_house_20 at h
    refine g_iconst E gdX11_house_20 ?_
    exact g_iret E hQ (by rw [← Option.some.inj h]) (by rw [← Option.some.inj h]) gdX11_house_21
  unfold s_X11_house at h
  refine g_aload_n E gdX11_house_0 rfl 0 rfl ?_
  refine g_get (T := TX11) E fw_X11 0 (wC_0 g ad o) rfl 3 (by decide) w_461 rfl rfl gdX11_house_1 ?_
  refine g_iload_n E gdX11_house_4 rfl 1 rfl ?_
  obtain ⟨r1, hc2, h⟩ := qB_of h
  refine g_Vi (r := r1) (As := [iv x1]) (rest := []) (w := wC g ad o) E (c_X1_exists l g ad o x1 r1 hc2) okm_X1_exists okw_X1_exists w_667 rfl (wC_10 g ad o) rfl rfl (Nat.le_of_ble_eq_true rfl) ⟨Nat.le_of_ble_eq_true rfl, Nat.le_of_ble_eq_true rfl⟩ gdX11_house_5 ?_
  refine g_if_eq E 20 gdX11_house_8 (by decide) h (fun h => ?_) (fun h => ?_)
  ·
    refine g_sub E [] rfl ?_
    exact j20 o h
  ·
    refine g_iload_n E gdX11_house_11 rfl 2 rfl ?_
    refine g_if_lt E 20 gdX11_house_12 (by decide) h (fun h => ?_) (fun h => ?_)
    ·
      refine g_sub E [] rfl ?_
      exact j20 o h
    ·
      refine g_iload_n E gdX11_house_15 rfl 2 rfl ?_
      refine g_iconst E gdX11_house_16 ?_
      refine g_icmp_le E 22 gdX11_house_17 (by decide) h (fun h => ?_) (fun h => ?_)
      ·
        refine g_aload_n E gdX11_house_22 rfl 0 rfl ?_
        refine g_aload_n E gdX11_house_23 rfl 0 rfl ?_
        refine g_get (T := TX11) E fw_X11 0 (wC_0 g ad o) rfl 3 (by decide) w_461 rfl rfl gdX11_house_24 ?_
        refine g_iload_n E gdX11_house_27 rfl 1 rfl ?_
        refine g_iload_n E gdX11_house_28 rfl 2 rfl ?_
        obtain ⟨r3, hc4, h⟩ := qB_of h
        refine g_Vi (r := r3) (As := [iv x1, iv x2]) (rest := [.ref (ad 0)]) (w := wC g ad o) E (c_X1_trait l g ad o x1 x2 r3 hc4) okm_X1_trait okw_X1_trait w_695 rfl (wC_10 g ad o) rfl rfl (Nat.le_of_ble_eq_true rfl) ⟨Nat.le_of_ble_eq_true rfl, Nat.le_of_ble_eq_true rfl⟩ gdX11_house_29 ?_
        obtain ⟨r5, o7, hc6, h⟩ := qB2_of h
        refine g_Vi (r := r5) (As := [iv r3]) (rest := []) (w := wC g ad o7) E (c_X11_tell l g ad o r3 (r5, o7) hc6) okm_X11_tell okw_X11_tell w_551 rfl (wC_0 g ad o) rfl rfl (Nat.le_of_ble_eq_true rfl) ⟨Nat.le_of_ble_eq_true rfl, Nat.le_of_ble_eq_true rfl⟩ gdX11_house_32 ?_
        exact g_iret E hQ (by rw [← Option.some.inj h]) (by rw [← Option.some.inj h]) gdX11_house_35
      ·
        refine g_sub E [] rfl ?_
        exact j20 o h
set_option maxHeartbeats 4000000 in
set_option maxRecDepth 100000 in
theorem c_X4_dayOf (l : Launch) (g : GG) (ad : Nat → Nat) (o : OO) (x1 : Int) (v : Int) (h : s_X4_dayOf o x1 = some v) : CI l g yX4_dayOf cX4_dayOf 2 (some .int) 0 0 (wC g ad o) [.ref (ad 32), iv x1] v (wC g ad o) := by
  refine met_I (by decide) (Nat.le_of_ble_eq_true rfl) ?_
  intro X E hQ
  show Go X 0 (wC g ad o) [(0, .ref (ad 32)), (1, iv x1)] []
  unfold s_X4_dayOf at h
  refine g_aload_n E gdX4_dayOf_0 rfl 0 rfl ?_
  refine g_get (T := TX4) E fw_X4 32 (wC_32 g ad o) rfl 1 (by decide) w_252 rfl rfl gdX4_dayOf_1 ?_
  refine g_iload_n E gdX4_dayOf_4 rfl 1 rfl ?_
  obtain ⟨hi1, h⟩ := qIn_of h
  refine g_iald E 34 (wC_34 g ad o) (by decide) hi1 gdX4_dayOf_5 ?_
  obtain ⟨n2, e_n2, h⟩ := qNm_of h
  refine g_nmi e_n2 ?_
  exact g_iret E hQ (Option.some.inj h) rfl gdX4_dayOf_6
set_option maxHeartbeats 4000000 in
set_option maxRecDepth 100000 in
theorem c_X5_homeOf (l : Launch) (g : GG) (ad : Nat → Nat) (o : OO) (x1 : Int) (v : Int) (h : s_X5_homeOf o x1 = some v) : CI l g yX5_homeOf cX5_homeOf 2 (some .int) 0 0 (wC g ad o) [.ref (ad 23), iv x1] v (wC g ad o) := by
  refine met_I (by decide) (Nat.le_of_ble_eq_true rfl) ?_
  intro X E hQ
  show Go X 0 (wC g ad o) [(0, .ref (ad 23)), (1, iv x1)] []
  unfold s_X5_homeOf at h
  refine g_aload_n E gdX5_homeOf_0 rfl 0 rfl ?_
  refine g_get (T := TX5) E fw_X5 23 (wC_23 g ad o) rfl 0 (by decide) w_210 rfl rfl gdX5_homeOf_1 ?_
  refine g_iload_n E gdX5_homeOf_4 rfl 1 rfl ?_
  obtain ⟨hi1, h⟩ := qIn_of h
  refine g_iald E 24 (wC_24 g ad o) (by decide) hi1 gdX5_homeOf_5 ?_
  obtain ⟨n2, e_n2, h⟩ := qNm_of h
  refine g_nmi e_n2 ?_
  exact g_iret E hQ (Option.some.inj h) rfl gdX5_homeOf_6
set_option maxHeartbeats 4000000 in
set_option maxRecDepth 100000 in
theorem c_X4_partyOf (l : Launch) (g : GG) (ad : Nat → Nat) (o : OO) (x1 : Int) (v : Int) (h : s_X4_partyOf o x1 = some v) : CI l g yX4_partyOf cX4_partyOf 2 (some .int) 0 0 (wC g ad o) [.ref (ad 32), iv x1] v (wC g ad o) := by
  refine met_I (by decide) (Nat.le_of_ble_eq_true rfl) ?_
  intro X E hQ
  show Go X 0 (wC g ad o) [(0, .ref (ad 32)), (1, iv x1)] []
  unfold s_X4_partyOf at h
  refine g_aload_n E gdX4_partyOf_0 rfl 0 rfl ?_
  refine g_get (T := TX4) E fw_X4 32 (wC_32 g ad o) rfl 9 (by decide) w_260 rfl rfl gdX4_partyOf_1 ?_
  refine g_iload_n E gdX4_partyOf_4 rfl 1 rfl ?_
  obtain ⟨hi1, h⟩ := qIn_of h
  refine g_iald E 42 (wC_42 g ad o) (by decide) hi1 gdX4_partyOf_5 ?_
  obtain ⟨n2, e_n2, h⟩ := qNm_of h
  refine g_nmi e_n2 ?_
  exact g_iret E hQ (Option.some.inj h) rfl gdX4_partyOf_6
set_option maxHeartbeats 4000000 in
set_option maxRecDepth 100000 in
theorem c_X3_steps (l : Launch) (g : GG) (ws : va_W) (x0 : Int) (x1 : Int) (v : Int) (h : s_X3_steps x0 x1 = some v) : CI l g yX3_steps cX3_steps 2 (some .int) 1 21 ws [iv x0, iv x1] v ws := by
  refine met_I (by decide) (Nat.le_of_ble_eq_true rfl) ?_
  intro X E hQ
  show Go X 0 ws [(0, iv x0), (1, iv x1)] []
  unfold s_X3_steps at h
  refine g_iload_n E gdX3_steps_0 rfl 0 rfl ?_
  refine g_bipush E gdX3_steps_1 (by decide) ?_
  obtain ⟨hd1, h⟩ := qDv_of h
  refine g_irem E hd1 gdX3_steps_3 ?_
  refine g_iload_n E gdX3_steps_4 rfl 1 rfl ?_
  refine g_bipush E gdX3_steps_5 (by decide) ?_
  obtain ⟨hd2, h⟩ := qDv_of h
  refine g_irem E hd2 gdX3_steps_7 ?_
  refine g_isub E gdX3_steps_8 ?_
  obtain ⟨ha3, h⟩ := qR_of h
  refine g_mabs E ha3 w_835 w_836 w_91 w_837 (Nat.le_of_ble_eq_true rfl) (Nat.le_of_ble_eq_true rfl) gdX3_steps_9 ?_
  refine g_iload_n E gdX3_steps_12 rfl 0 rfl ?_
  refine g_bipush E gdX3_steps_13 (by decide) ?_
  obtain ⟨hd4, h⟩ := qDv_of h
  refine g_idiv E hd4 gdX3_steps_15 ?_
  refine g_iload_n E gdX3_steps_16 rfl 1 rfl ?_
  refine g_bipush E gdX3_steps_17 (by decide) ?_
  obtain ⟨hd5, h⟩ := qDv_of h
  refine g_idiv E hd5 gdX3_steps_19 ?_
  refine g_isub E gdX3_steps_20 ?_
  obtain ⟨ha6, h⟩ := qR_of h
  refine g_mabs E ha6 w_835 w_836 w_91 w_837 (Nat.le_of_ble_eq_true rfl) (Nat.le_of_ble_eq_true rfl) gdX3_steps_21 ?_
  refine g_iadd E gdX3_steps_24 ?_
  exact g_iret E hQ (Option.some.inj h) rfl gdX3_steps_25
set_option maxHeartbeats 4000000 in
set_option maxRecDepth 100000 in
theorem c_X4_hourOf (l : Launch) (g : GG) (ad : Nat → Nat) (o : OO) (x1 : Int) (v : Int) (h : s_X4_hourOf o x1 = some v) : CI l g yX4_hourOf cX4_hourOf 2 (some .int) 0 0 (wC g ad o) [.ref (ad 32), iv x1] v (wC g ad o) := by
  refine met_I (by decide) (Nat.le_of_ble_eq_true rfl) ?_
  intro X E hQ
  show Go X 0 (wC g ad o) [(0, .ref (ad 32)), (1, iv x1)] []
  unfold s_X4_hourOf at h
  refine g_aload_n E gdX4_hourOf_0 rfl 0 rfl ?_
  refine g_get (T := TX4) E fw_X4 32 (wC_32 g ad o) rfl 11 (by decide) w_262 rfl rfl gdX4_hourOf_1 ?_
  refine g_iload_n E gdX4_hourOf_4 rfl 1 rfl ?_
  obtain ⟨hi1, h⟩ := qIn_of h
  refine g_iald E 44 (wC_44 g ad o) (by decide) hi1 gdX4_hourOf_5 ?_
  obtain ⟨n2, e_n2, h⟩ := qNm_of h
  refine g_nmi e_n2 ?_
  exact g_iret E hQ (Option.some.inj h) rfl gdX4_hourOf_6
set_option maxHeartbeats 4000000 in
set_option maxRecDepth 100000 in
theorem c_X5_canCome (l : Launch) (g : GG) (ad : Nat → Nat) (o : OO) (x1 : Int) (x2 : Int) (x3 : Int) (v : Int) (h : s_X5_canCome o x1 x2 x3 = some v) : CI l g yX5_canCome cX5_canCome 4 (some .boolean) 0 0 (wC g ad o) [.ref (ad 23), iv x1, iv x2, iv x3] v (wC g ad o) := by
  refine met_I (by decide) (Nat.le_of_ble_eq_true rfl) ?_
  intro X E hQ
  show Go X 0 (wC g ad o) [(0, .ref (ad 23)), (1, iv x1), (2, iv x2), (3, iv x3)] []
  have j43 : ∀ (y0 : Int), b_X5_canCome_43 o y0 = some v → Go X 43 (wC g ad o) [] [iv y0] := by
    intro y0 h
    unfold b_X5_canCome_43 at h
    obtain ⟨hz, h⟩ := qZ_of h
    exact g_zret E hQ hz (Option.some.inj h) rfl gdX5_canCome_43
  have j38 : b_X5_canCome_38 o = some v → Go X 38 (wC g ad o) [] [] := by
    intro h
    unfold b_X5_canCome_38 at h
    refine g_iconst E gdX5_canCome_38 ?_
    refine g_goto E 43 gdX5_canCome_39 (by decide) ?_
    exact j43 1 h
  have j42 : b_X5_canCome_42 o = some v → Go X 42 (wC g ad o) [] [] := by
    intro h
    unfold b_X5_canCome_42 at h
    refine g_iconst E gdX5_canCome_42 ?_
    exact j43 0 h
  have j15 : ∀ (x1 : Int) (x3 : Int), b_X5_canCome_15 o x1 x3 = some v → Go X 15 (wC g ad o) [(0, .ref (ad 23)), (1, iv x1), (3, iv x3)] [] := by
    intro x1 x3 h
    unfold b_X5_canCome_15 at h
    refine g_aload_n E gdX5_canCome_15 rfl 0 rfl ?_
    refine g_get (T := TX5) E fw_X5 23 (wC_23 g ad o) rfl 1 (by decide) w_211 rfl rfl gdX5_canCome_16 ?_
    refine g_iload_n E gdX5_canCome_19 rfl 1 rfl ?_
    obtain ⟨hi1, h⟩ := qIn_of h
    refine g_iald E 25 (wC_25 g ad o) (by decide) hi1 gdX5_canCome_20 ?_
    obtain ⟨n2, e_n2, h⟩ := qNm_of h
    refine g_nmi e_n2 ?_
    refine g_bipush E gdX5_canCome_21 (by decide) ?_
    refine g_icmp_eq E 38 gdX5_canCome_23 (by decide) h (fun h => ?_) (fun h => ?_)
    ·
      refine g_sub E [] rfl ?_
      exact j38  h
    ·
      refine g_iload_n E gdX5_canCome_26 rfl 2 rfl ?_
      refine g_bipush E gdX5_canCome_27 (by decide) ?_
      refine g_icmp_lt E 38 gdX5_canCome_29 (by decide) h (fun h => ?_) (fun h => ?_)
      ·
        refine g_sub E [] rfl ?_
        exact j38  h
      ·
        refine g_iload_n E gdX5_canCome_32 rfl 2 rfl ?_
        refine g_bipush E gdX5_canCome_33 (by decide) ?_
        refine g_icmp_le E 42 gdX5_canCome_35 (by decide) h (fun h => ?_) (fun h => ?_)
        ·
          refine g_sub E [] rfl ?_
          exact j42  h
        ·
          refine g_sub E [] rfl ?_
          exact j38  h
  unfold s_X5_canCome at h
  refine g_aload_n E gdX5_canCome_0 rfl 0 rfl ?_
  refine g_get (T := TX5) E fw_X5 23 (wC_23 g ad o) rfl 2 (by decide) w_212 rfl rfl gdX5_canCome_1 ?_
  refine g_iload_n E gdX5_canCome_4 rfl 1 rfl ?_
  obtain ⟨hi3, h⟩ := qIn_of h
  refine g_zald E 26 (wC_26 g ad o) (by decide) hi3 gdX5_canCome_5 ?_
  obtain ⟨n4, e_n4, h⟩ := qNm_of h
  refine g_nmi e_n4 ?_
  refine g_if_ne E 15 gdX5_canCome_6 (by decide) h (fun h => ?_) (fun h => ?_)
  ·
    refine g_sub E [0, 1, 3] rfl ?_
    exact j15 x1 x3 h
  ·
    refine g_iload_n E gdX5_canCome_9 rfl 2 rfl ?_
    refine g_bipush E gdX5_canCome_10 (by decide) ?_
    refine g_icmp_gt E 42 gdX5_canCome_12 (by decide) h (fun h => ?_) (fun h => ?_)
    ·
      refine g_sub E [] rfl ?_
      exact j42  h
    ·
      refine g_sub E [0, 1, 3] rfl ?_
      exact j15 x1 x3 h
set_option maxHeartbeats 4000000 in
set_option maxRecDepth 100000 in
theorem c_X11_couldCome (l : Launch) (g : GG) (ad : Nat → Nat) (o : OO) (x1 : Int) (v : Int) (h : s_X11_couldCome o x1 = some v) : CI l g yX11_couldCome cX11_couldCome 6 (some .int) 2 42 (wC g ad o) [.ref (ad 0), iv x1] v (wC g ad o) := by
  refine met_I (by decide) (Nat.le_of_ble_eq_true rfl) ?_
  intro X E hQ
  show Go X 0 (wC g ad o) [(0, .ref (ad 0)), (1, iv x1)] []
  have j87 : ∀ (x2 : Int), b_X11_couldCome_87 o x2 = some v → Go X 87 (wC g ad o) [(2, iv x2)] [] := by
    intro x2 h
    unfold b_X11_couldCome_87 at h
    refine g_iload_n E gdX11_couldCome_87 rfl 0 rfl ?_
    exact g_iret E hQ (Option.some.inj h) rfl gdX11_couldCome_88
  have j81 : ∀ (x1 : Int) (x2 : Int) (x3 : Int) (v : (Int × Int) ⊕ ((Int))), b_X11_couldCome_81 o x1 x2 x3 = some v → (∀ (x2 : Int) (x3 : Int), v = .inl (x2, x3) → Go X 4 (wC g ad o) [(0, .ref (ad 0)), (1, iv x1), (2, iv x2), (3, iv x3)] []) → (∀ (x2 : Int), v = .inr (x2) → Go X 87 (wC g ad o) [(2, iv x2)] []) → Go X 81 (wC g ad o) [(0, .ref (ad 0)), (1, iv x1), (2, iv x2), (3, iv x3)] [] := by
    intro x1 x2 x3 v h k0 k1
    unfold b_X11_couldCome_81 at h
    refine g_iinc E [(3, iv (x3 + 1)), (0, .ref (ad 0)), (1, iv x1), (2, iv x2)] gdX11_couldCome_81 3 rfl (by decide) rfl ?_
    refine g_goto E 4 gdX11_couldCome_84 (by decide) ?_
    refine g_sub E [1, 2, 3, 0] rfl ?_
    exact k0 x2 (x3 + 1) (Option.some.inj h).symm
  have l4 : ∀ (x1 : Int) (r : (Int)) (s0 : Int × Int), loopW (fun s => l_X11_couldCome_4 o x1 s.1 s.2) s0 = some r → (∀ (x2 : Int), r = (x2) → Go X 87 (wC g ad o) [(2, iv x2)] []) → Go X 4 (wC g ad o) [(0, .ref (ad 0)), (1, iv x1), (2, iv s0.1), (3, iv s0.2)] [] := by
    intro x1 r s0 h k1
    refine loop_rule (Head := fun s0 => Go X 4 (wC g ad o) [(0, .ref (ad 0)), (1, iv x1), (2, iv s0.1), (3, iv s0.2)] []) h ?_
    intro s v h kk kx
    obtain ⟨x2, x3⟩ := s
    have h : l_X11_couldCome_4 o x1 x2 x3 = some v := h
    have k0 : ∀ (x2 : Int) (x3 : Int), v = .inl (x2, x3) → Go X 4 (wC g ad o) [(0, .ref (ad 0)), (1, iv x1), (2, iv x2), (3, iv x3)] [] := fun x2 x3 e => kk (x2, x3) e
    have k1 : ∀ (x2 : Int), v = .inr (x2) → Go X 87 (wC g ad o) [(2, iv x2)] [] := fun x2 e => k1 x2 (kx _ e).symm
    unfold l_X11_couldCome_4 at h
    refine g_iload_n E gdX11_couldCome_4 rfl 3 rfl ?_
    refine g_aload_n E gdX11_couldCome_5 rfl 0 rfl ?_
    refine g_get (T := TX11) E fw_X11 0 (wC_0 g ad o) rfl 4 (by decide) w_462 rfl rfl gdX11_couldCome_6 ?_
    obtain ⟨r1, hc2, h⟩ := qB_of h
    refine g_Vi (r := r1) (As := []) (rest := [iv x3]) (w := wC g ad o) E (c_X5_number l g ad o r1 hc2) okm_X5_number okw_X5_number w_703 rfl (wC_23 g ad o) rfl rfl (Nat.le_of_ble_eq_true rfl) ⟨Nat.le_of_ble_eq_true rfl, Nat.le_of_ble_eq_true rfl⟩ gdX11_couldCome_9 ?_
    refine g_icmp_ge E 87 gdX11_couldCome_12 (by decide) h (fun h => ?_) (fun h => ?_)
    ·
      refine g_sub E [2] rfl ?_
      exact k1 x2 (Option.some.inj h).symm
    ·
      refine g_aload_n E gdX11_couldCome_15 rfl 0 rfl ?_
      refine g_get (T := TX11) E fw_X11 0 (wC_0 g ad o) rfl 4 (by decide) w_462 rfl rfl gdX11_couldCome_16 ?_
      refine g_iload_n E gdX11_couldCome_19 rfl 3 rfl ?_
      obtain ⟨r3, hc4, h⟩ := qB_of h
      refine g_Vi (r := r3) (As := [iv x3]) (rest := []) (w := wC g ad o) E (c_X5_homeOf l g ad o x3 r3 hc4) okm_X5_homeOf okw_X5_homeOf w_987 rfl (wC_23 g ad o) rfl rfl (Nat.le_of_ble_eq_true rfl) ⟨Nat.le_of_ble_eq_true rfl, Nat.le_of_ble_eq_true rfl⟩ gdX11_couldCome_20 ?_
      refine g_istore E [(4, iv r3), (0, .ref (ad 0)), (1, iv x1), (2, iv x2), (3, iv x3)] gdX11_couldCome_23 (by decide) rfl ?_
      refine g_iload E gdX11_couldCome_25 0 rfl ?_
      refine g_bipush E gdX11_couldCome_27 (by decide) ?_
      refine g_icmp_ne E 35 gdX11_couldCome_29 (by decide) h (fun h => ?_) (fun h => ?_)
      ·
        refine g_aload_n E gdX11_couldCome_35 rfl 1 rfl ?_
        refine g_get (T := TX11) E fw_X11 0 (wC_0 g ad o) rfl 3 (by decide) w_461 rfl rfl gdX11_couldCome_36 ?_
        refine g_iload E gdX11_couldCome_39 0 rfl ?_
        obtain ⟨r5, hc6, h⟩ := qB_of h
        refine g_Vi (r := r5) (As := [iv r3]) (rest := []) (w := wC g ad o) E (c_X1_cellOfOne l g ad o r3 r5 hc6) okm_X1_cellOfOne okw_X1_cellOfOne w_941 rfl (wC_10 g ad o) rfl rfl (Nat.le_of_ble_eq_true rfl) ⟨Nat.le_of_ble_eq_true rfl, Nat.le_of_ble_eq_true rfl⟩ gdX11_couldCome_41 ?_
        refine g_aload_n E gdX11_couldCome_44 rfl 1 rfl ?_
        refine g_get (T := TX11) E fw_X11 0 (wC_0 g ad o) rfl 6 (by decide) w_464 rfl rfl gdX11_couldCome_45 ?_
        refine g_iload_n E gdX11_couldCome_48 rfl 2 rfl ?_
        obtain ⟨r7, hc8, h⟩ := qB_of h
        refine g_Vi (r := r7) (As := [iv x1]) (rest := [iv r5]) (w := wC g ad o) E (c_X4_partyOf l g ad o x1 r7 hc8) okm_X4_partyOf okw_X4_partyOf w_1027 rfl (wC_32 g ad o) rfl rfl (Nat.le_of_ble_eq_true rfl) ⟨Nat.le_of_ble_eq_true rfl, Nat.le_of_ble_eq_true rfl⟩ gdX11_couldCome_49 ?_
        obtain ⟨r9, hc10, h⟩ := qB_of h
        refine g_Si (r := r9) (As := [iv r5, iv r7]) (rest := []) (w := wC g ad o) E (c_X3_steps l g (wC g ad o) r5 r7 r9 hc10) okm_X3_steps w_1036 w_1035 rfl rfl (Nat.le_of_ble_eq_true rfl) ⟨Nat.le_of_ble_eq_true rfl, Nat.le_of_ble_eq_true rfl⟩ gdX11_couldCome_52 ?_
        refine g_istore E [(5, iv r9), (4, iv r3), (0, .ref (ad 0)), (1, iv x1), (2, iv x2), (3, iv x3)] gdX11_couldCome_55 (by decide) rfl ?_
        refine g_aload_n E gdX11_couldCome_57 rfl 2 rfl ?_
        refine g_get (T := TX11) E fw_X11 0 (wC_0 g ad o) rfl 4 (by decide) w_462 rfl rfl gdX11_couldCome_58 ?_
        refine g_iload_n E gdX11_couldCome_61 rfl 5 rfl ?_
        refine g_iload E gdX11_couldCome_62 0 rfl ?_
        refine g_aload_n E gdX11_couldCome_64 rfl 2 rfl ?_
        refine g_get (T := TX11) E fw_X11 0 (wC_0 g ad o) rfl 6 (by decide) w_464 rfl rfl gdX11_couldCome_65 ?_
        refine g_iload_n E gdX11_couldCome_68 rfl 3 rfl ?_
        obtain ⟨r11, hc12, h⟩ := qB_of h
        refine g_Vi (r := r11) (As := [iv x1]) (rest := [iv r9, iv x3, .ref (ad 23)]) (w := wC g ad o) E (c_X4_hourOf l g ad o x1 r11 hc12) okm_X4_hourOf okw_X4_hourOf w_1038 rfl (wC_32 g ad o) rfl rfl (Nat.le_of_ble_eq_true rfl) ⟨Nat.le_of_ble_eq_true rfl, Nat.le_of_ble_eq_true rfl⟩ gdX11_couldCome_69 ?_
        obtain ⟨r13, hc14, h⟩ := qB_of h
        refine g_Vi (r := r13) (As := [iv x3, iv r9, iv r11]) (rest := []) (w := wC g ad o) E (c_X5_canCome l g ad o x3 r9 r11 r13 hc14) okm_X5_canCome okw_X5_canCome w_1042 rfl (wC_23 g ad o) rfl rfl (Nat.le_of_ble_eq_true rfl) ⟨Nat.le_of_ble_eq_true rfl, Nat.le_of_ble_eq_true rfl⟩ gdX11_couldCome_72 ?_
        refine g_if_eq E 81 gdX11_couldCome_75 (by decide) h (fun h => ?_) (fun h => ?_)
        ·
          refine g_sub E [2, 3, 4, 5] rfl ?_
          exact j81 x1 x2 x3 v h k0 k1
        ·
          refine g_iinc E [(2, iv (x2 + 1)), (5, iv r9), (4, iv r3), (0, .ref (ad 0)), (1, iv x1), (3, iv x3)] gdX11_couldCome_78 4 rfl (by decide) rfl ?_
          refine g_sub E [3, 4, 0, 5] rfl ?_
          exact j81 x1 (x2 + 1) x3 v h k0 k1
      ·
        refine g_goto E 81 gdX11_couldCome_32 (by decide) ?_
        refine g_sub E [1, 2, 3, 4] rfl ?_
        exact j81 x1 x2 x3 v h k0 k1
  have j4 : ∀ (x1 : Int) (x2 : Int) (x3 : Int), e_X11_couldCome_4 o x1 x2 x3 = some v → Go X 4 (wC g ad o) [(0, .ref (ad 0)), (1, iv x1), (2, iv x2), (3, iv x3)] [] := by
    intro x1 x2 x3 h
    unfold e_X11_couldCome_4 at h
    obtain ⟨r, hr, h⟩ := qB_of h
    refine l4 x1 r _ hr ?_
    ·
      intro u0 e
      have e := e.symm
      subst e
      have h : b_X11_couldCome_87 o u0 = some v := h
      exact j87 u0 h
  unfold s_X11_couldCome at h
  refine g_iconst E gdX11_couldCome_0 ?_
  refine g_istore_n E [(2, iv 0), (0, .ref (ad 0)), (1, iv x1)] gdX11_couldCome_1 rfl (by decide) rfl ?_
  refine g_iconst E gdX11_couldCome_2 ?_
  refine g_istore_n E [(3, iv 0), (2, iv 0), (0, .ref (ad 0)), (1, iv x1)] gdX11_couldCome_3 rfl (by decide) rfl ?_
  refine g_sub E [2, 3, 1, 0] rfl ?_
  exact j4 x1 0 0 h
set_option maxHeartbeats 4000000 in
set_option maxRecDepth 100000 in
theorem c_X11_isVoidHearing (l : Launch) (g : GG) (ad : Nat → Nat) (o : OO) (x1 : Int) (v : Int) (h : s_X11_isVoidHearing o x1 = some v) : CI l g yX11_isVoidHearing cX11_isVoidHearing 3 (some .boolean) 3 67 (wC g ad o) [.ref (ad 0), iv x1] v (wC g ad o) := by
  refine met_I (by decide) (Nat.le_of_ble_eq_true rfl) ?_
  intro X E hQ
  show Go X 0 (wC g ad o) [(0, .ref (ad 0)), (1, iv x1)] []
  have j48 : ∀ (y0 : Int), b_X11_isVoidHearing_48 o y0 = some v → Go X 48 (wC g ad o) [] [iv y0] := by
    intro y0 h
    unfold b_X11_isVoidHearing_48 at h
    obtain ⟨hz, h⟩ := qZ_of h
    exact g_zret E hQ hz (Option.some.inj h) rfl gdX11_isVoidHearing_48
  unfold s_X11_isVoidHearing at h
  refine g_aload_n E gdX11_isVoidHearing_0 rfl 0 rfl ?_
  refine g_get (T := TX11) E fw_X11 0 (wC_0 g ad o) rfl 6 (by decide) w_464 rfl rfl gdX11_isVoidHearing_1 ?_
  refine g_iload_n E gdX11_isVoidHearing_4 rfl 1 rfl ?_
  obtain ⟨r1, hc2, h⟩ := qB_of h
  refine g_Vi (r := r1) (As := [iv x1]) (rest := []) (w := wC g ad o) E (c_X4_dayOf l g ad o x1 r1 hc2) okm_X4_dayOf okw_X4_dayOf w_1234 rfl (wC_32 g ad o) rfl rfl (Nat.le_of_ble_eq_true rfl) ⟨Nat.le_of_ble_eq_true rfl, Nat.le_of_ble_eq_true rfl⟩ gdX11_isVoidHearing_5 ?_
  refine g_istore_n E [(2, iv r1), (0, .ref (ad 0)), (1, iv x1)] gdX11_isVoidHearing_8 rfl (by decide) rfl ?_
  refine g_aload_n E gdX11_isVoidHearing_9 rfl 1 rfl ?_
  refine g_get (T := TX11) E fw_X11 0 (wC_0 g ad o) rfl 6 (by decide) w_464 rfl rfl gdX11_isVoidHearing_10 ?_
  refine g_iload_n E gdX11_isVoidHearing_13 rfl 2 rfl ?_
  obtain ⟨r3, hc4, h⟩ := qB_of h
  refine g_Vi (r := r3) (As := [iv x1]) (rest := []) (w := wC g ad o) E (c_X4_dateOf l g ad o x1 r3 hc4) okm_X4_dateOf okw_X4_dateOf w_1238 rfl (wC_32 g ad o) rfl rfl (Nat.le_of_ble_eq_true rfl) ⟨Nat.le_of_ble_eq_true rfl, Nat.le_of_ble_eq_true rfl⟩ gdX11_isVoidHearing_14 ?_
  refine g_iload_n E gdX11_isVoidHearing_17 rfl 0 rfl ?_
  refine g_isub E gdX11_isVoidHearing_18 ?_
  refine g_aload_n E gdX11_isVoidHearing_19 rfl 1 rfl ?_
  refine g_get (T := TX11) E fw_X11 0 (wC_0 g ad o) rfl 5 (by decide) w_463 rfl rfl gdX11_isVoidHearing_20 ?_
  refine g_bipush E gdX11_isVoidHearing_23 (by decide) ?_
  refine g_iload_n E gdX11_isVoidHearing_25 rfl 0 rfl ?_
  refine g_iload_n E gdX11_isVoidHearing_26 rfl 0 rfl ?_
  obtain ⟨r5, hc6, h⟩ := qB_of h
  refine g_Vi (r := r5) (As := [iv 7, iv r1, iv r1]) (rest := [iv (r3 - r1)]) (w := wC g ad o) E (c_X7_valueFor l g ad o 7 r1 r1 r5 hc6) okm_X7_valueFor okw_X7_valueFor w_771 rfl (wC_28 g ad o) rfl rfl (Nat.le_of_ble_eq_true rfl) ⟨Nat.le_of_ble_eq_true rfl, Nat.le_of_ble_eq_true rfl⟩ gdX11_isVoidHearing_27 ?_
  refine g_icmp_ge E 35 gdX11_isVoidHearing_30 (by decide) h (fun h => ?_) (fun h => ?_)
  ·
    refine g_aload_n E gdX11_isVoidHearing_35 rfl 1 rfl ?_
    refine g_iload_n E gdX11_isVoidHearing_36 rfl 2 rfl ?_
    obtain ⟨r7, hc8, h⟩ := qB_of h
    refine g_Vi (r := r7) (As := [iv x1]) (rest := []) (w := wC g ad o) E (c_X11_couldCome l g ad o x1 r7 hc8) okm_X11_couldCome okw_X11_couldCome w_1031 rfl (wC_0 g ad o) rfl rfl (Nat.le_of_ble_eq_true rfl) ⟨Nat.le_of_ble_eq_true rfl, Nat.le_of_ble_eq_true rfl⟩ gdX11_isVoidHearing_37 ?_
    refine g_if_ne E 47 gdX11_isVoidHearing_40 (by decide) h (fun h => ?_) (fun h => ?_)
    ·
      refine g_iconst E gdX11_isVoidHearing_47 ?_
      refine g_sub E [] rfl ?_
      exact j48 0 h
    ·
      refine g_iconst E gdX11_isVoidHearing_43 ?_
      refine g_goto E 48 gdX11_isVoidHearing_44 (by decide) ?_
      refine g_sub E [] rfl ?_
      exact j48 1 h
  ·
    refine g_iconst E gdX11_isVoidHearing_33 ?_
    obtain ⟨hz, h⟩ := qZ_of h
    exact g_zret E hQ hz (Option.some.inj h) rfl gdX11_isVoidHearing_34
set_option maxHeartbeats 4000000 in
set_option maxRecDepth 100000 in
theorem c_X4_hangsOn (l : Launch) (g : GG) (ad : Nat → Nat) (o : OO) (x1 : Int) (v : Int) (h : s_X4_hangsOn o x1 = some v) : CI l g yX4_hangsOn cX4_hangsOn 2 (some .int) 0 0 (wC g ad o) [.ref (ad 32), iv x1] v (wC g ad o) := by
  refine met_I (by decide) (Nat.le_of_ble_eq_true rfl) ?_
  intro X E hQ
  show Go X 0 (wC g ad o) [(0, .ref (ad 32)), (1, iv x1)] []
  unfold s_X4_hangsOn at h
  refine g_aload_n E gdX4_hangsOn_0 rfl 0 rfl ?_
  refine g_get (T := TX4) E fw_X4 32 (wC_32 g ad o) rfl 2 (by decide) w_253 rfl rfl gdX4_hangsOn_1 ?_
  refine g_iload_n E gdX4_hangsOn_4 rfl 1 rfl ?_
  obtain ⟨hi1, h⟩ := qIn_of h
  refine g_iald E 35 (wC_35 g ad o) (by decide) hi1 gdX4_hangsOn_5 ?_
  obtain ⟨n2, e_n2, h⟩ := qNm_of h
  refine g_nmi e_n2 ?_
  exact g_iret E hQ (Option.some.inj h) rfl gdX4_hangsOn_6
set_option maxHeartbeats 4000000 in
set_option maxRecDepth 100000 in
theorem c_X11_isVoidTaking (l : Launch) (g : GG) (ad : Nat → Nat) (o : OO) (x1 : Int) (v : Int) (h : s_X11_isVoidTaking o x1 = some v) : CI l g yX11_isVoidTaking cX11_isVoidTaking 3 (some .boolean) 4 89 (wC g ad o) [.ref (ad 0), iv x1] v (wC g ad o) := by
  refine met_I (by decide) (Nat.le_of_ble_eq_true rfl) ?_
  intro X E hQ
  show Go X 0 (wC g ad o) [(0, .ref (ad 0)), (1, iv x1)] []
  have j75 : b_X11_isVoidTaking_75 o = some v → Go X 75 (wC g ad o) [] [] := by
    intro h
    unfold b_X11_isVoidTaking_75 at h
    refine g_iconst E gdX11_isVoidTaking_75 ?_
    obtain ⟨hz, h⟩ := qZ_of h
    exact g_zret E hQ hz (Option.some.inj h) rfl gdX11_isVoidTaking_76
  have j83 : b_X11_isVoidTaking_83 o = some v → Go X 83 (wC g ad o) [] [] := by
    intro h
    unfold b_X11_isVoidTaking_83 at h
    refine g_iconst E gdX11_isVoidTaking_83 ?_
    obtain ⟨hz, h⟩ := qZ_of h
    exact g_zret E hQ hz (Option.some.inj h) rfl gdX11_isVoidTaking_84
  have j77 : ∀ (x1 : Int) (x2 : Int) (v : (Int) ⊕ ((Unit) ⊕ (Unit))), b_X11_isVoidTaking_77 o x1 x2 = some v → (∀ (x2 : Int), v = .inl x2 → Go X 2 (wC g ad o) [(0, .ref (ad 0)), (1, iv x1), (2, iv x2)] []) → (v = .inr (.inl ()) → Go X 75 (wC g ad o) [] []) → (v = .inr (.inr ()) → Go X 83 (wC g ad o) [] []) → Go X 77 (wC g ad o) [(0, .ref (ad 0)), (1, iv x1), (2, iv x2)] [] := by
    intro x1 x2 v h k0 k1 k2
    unfold b_X11_isVoidTaking_77 at h
    refine g_iinc E [(2, iv (x2 + 1)), (0, .ref (ad 0)), (1, iv x1)] gdX11_isVoidTaking_77 2 rfl (by decide) rfl ?_
    refine g_goto E 2 gdX11_isVoidTaking_80 (by decide) ?_
    refine g_sub E [1, 2, 0] rfl ?_
    exact k0 (x2 + 1) (Option.some.inj h).symm
  have l2 : ∀ (x1 : Int) (r : (Unit) ⊕ (Unit)) (s0 : Int), loopW (fun s => l_X11_isVoidTaking_2 o x1 s) s0 = some r → (r = (.inl ()) → Go X 75 (wC g ad o) [] []) → (r = (.inr ()) → Go X 83 (wC g ad o) [] []) → Go X 2 (wC g ad o) [(0, .ref (ad 0)), (1, iv x1), (2, iv s0)] [] := by
    intro x1 r s0 h k1 k2
    refine loop_rule (Head := fun s0 => Go X 2 (wC g ad o) [(0, .ref (ad 0)), (1, iv x1), (2, iv s0)] []) h ?_
    intro s v h kk kx
    obtain ⟨x2, hs⟩ : ∃ q, q = s := ⟨_, rfl⟩
    subst hs
    have h : l_X11_isVoidTaking_2 o x1 x2 = some v := h
    have k0 : ∀ (x2 : Int), v = .inl x2 → Go X 2 (wC g ad o) [(0, .ref (ad 0)), (1, iv x1), (2, iv x2)] [] := fun x2 e => kk x2 e
    have k1 : v = .inr (.inl ()) → Go X 75 (wC g ad o) [] [] := fun e => k1 (kx _ e).symm
    have k2 : v = .inr (.inr ()) → Go X 83 (wC g ad o) [] [] := fun e => k2 (kx _ e).symm
    unfold l_X11_isVoidTaking_2 at h
    refine g_iload_n E gdX11_isVoidTaking_2 rfl 2 rfl ?_
    refine g_aload_n E gdX11_isVoidTaking_3 rfl 0 rfl ?_
    refine g_get (T := TX11) E fw_X11 0 (wC_0 g ad o) rfl 6 (by decide) w_464 rfl rfl gdX11_isVoidTaking_4 ?_
    obtain ⟨r1, hc2, h⟩ := qB_of h
    refine g_Vi (r := r1) (As := []) (rest := [iv x2]) (w := wC g ad o) E (c_X4_number l g ad o r1 hc2) okm_X4_number okw_X4_number w_790 rfl (wC_32 g ad o) rfl rfl (Nat.le_of_ble_eq_true rfl) ⟨Nat.le_of_ble_eq_true rfl, Nat.le_of_ble_eq_true rfl⟩ gdX11_isVoidTaking_7 ?_
    refine g_icmp_ge E 83 gdX11_isVoidTaking_10 (by decide) h (fun h => ?_) (fun h => ?_)
    ·
      refine g_sub E [] rfl ?_
      exact k2  (Option.some.inj h).symm
    ·
      refine g_aload_n E gdX11_isVoidTaking_13 rfl 0 rfl ?_
      refine g_get (T := TX11) E fw_X11 0 (wC_0 g ad o) rfl 6 (by decide) w_464 rfl rfl gdX11_isVoidTaking_14 ?_
      refine g_iload_n E gdX11_isVoidTaking_17 rfl 2 rfl ?_
      obtain ⟨r3, hc4, h⟩ := qB_of h
      refine g_Vi (r := r3) (As := [iv x2]) (rest := []) (w := wC g ad o) E (c_X4_kindOf l g ad o x2 r3 hc4) okm_X4_kindOf okw_X4_kindOf w_979 rfl (wC_32 g ad o) rfl rfl (Nat.le_of_ble_eq_true rfl) ⟨Nat.le_of_ble_eq_true rfl, Nat.le_of_ble_eq_true rfl⟩ gdX11_isVoidTaking_18 ?_
      refine g_bipush E gdX11_isVoidTaking_21 (by decide) ?_
      refine g_icmp_ne E 77 gdX11_isVoidTaking_23 (by decide) h (fun h => ?_) (fun h => ?_)
      ·
        exact j77 x1 x2 v h k0 k1 k2
      ·
        refine g_aload_n E gdX11_isVoidTaking_26 rfl 0 rfl ?_
        refine g_get (T := TX11) E fw_X11 0 (wC_0 g ad o) rfl 6 (by decide) w_464 rfl rfl gdX11_isVoidTaking_27 ?_
        refine g_iload_n E gdX11_isVoidTaking_30 rfl 2 rfl ?_
        obtain ⟨r5, hc6, h⟩ := qB_of h
        refine g_Vi (r := r5) (As := [iv x2]) (rest := []) (w := wC g ad o) E (c_X4_hangsOn l g ad o x2 r5 hc6) okm_X4_hangsOn okw_X4_hangsOn w_1246 rfl (wC_32 g ad o) rfl rfl (Nat.le_of_ble_eq_true rfl) ⟨Nat.le_of_ble_eq_true rfl, Nat.le_of_ble_eq_true rfl⟩ gdX11_isVoidTaking_31 ?_
        refine g_aload_n E gdX11_isVoidTaking_34 rfl 0 rfl ?_
        refine g_get (T := TX11) E fw_X11 0 (wC_0 g ad o) rfl 6 (by decide) w_464 rfl rfl gdX11_isVoidTaking_35 ?_
        refine g_iload_n E gdX11_isVoidTaking_38 rfl 1 rfl ?_
        obtain ⟨r7, hc8, h⟩ := qB_of h
        refine g_Vi (r := r7) (As := [iv x1]) (rest := [iv r5]) (w := wC g ad o) E (c_X4_hangsOn l g ad o x1 r7 hc8) okm_X4_hangsOn okw_X4_hangsOn w_1246 rfl (wC_32 g ad o) rfl rfl (Nat.le_of_ble_eq_true rfl) ⟨Nat.le_of_ble_eq_true rfl, Nat.le_of_ble_eq_true rfl⟩ gdX11_isVoidTaking_39 ?_
        refine g_icmp_eq E 48 gdX11_isVoidTaking_42 (by decide) h (fun h => ?_) (fun h => ?_)
        ·
          refine g_aload_n E gdX11_isVoidTaking_48 rfl 0 rfl ?_
          refine g_get (T := TX11) E fw_X11 0 (wC_0 g ad o) rfl 6 (by decide) w_464 rfl rfl gdX11_isVoidTaking_49 ?_
          refine g_iload_n E gdX11_isVoidTaking_52 rfl 2 rfl ?_
          obtain ⟨r9, hc10, h⟩ := qB_of h
          refine g_Vi (r := r9) (As := [iv x2]) (rest := []) (w := wC g ad o) E (c_X4_dateOf l g ad o x2 r9 hc10) okm_X4_dateOf okw_X4_dateOf w_1238 rfl (wC_32 g ad o) rfl rfl (Nat.le_of_ble_eq_true rfl) ⟨Nat.le_of_ble_eq_true rfl, Nat.le_of_ble_eq_true rfl⟩ gdX11_isVoidTaking_53 ?_
          refine g_aload_n E gdX11_isVoidTaking_56 rfl 0 rfl ?_
          refine g_get (T := TX11) E fw_X11 0 (wC_0 g ad o) rfl 6 (by decide) w_464 rfl rfl gdX11_isVoidTaking_57 ?_
          refine g_iload_n E gdX11_isVoidTaking_60 rfl 1 rfl ?_
          obtain ⟨r11, hc12, h⟩ := qB_of h
          refine g_Vi (r := r11) (As := [iv x1]) (rest := [iv r9]) (w := wC g ad o) E (c_X4_dayOf l g ad o x1 r11 hc12) okm_X4_dayOf okw_X4_dayOf w_1234 rfl (wC_32 g ad o) rfl rfl (Nat.le_of_ble_eq_true rfl) ⟨Nat.le_of_ble_eq_true rfl, Nat.le_of_ble_eq_true rfl⟩ gdX11_isVoidTaking_61 ?_
          refine g_icmp_gt E 77 gdX11_isVoidTaking_64 (by decide) h (fun h => ?_) (fun h => ?_)
          ·
            exact j77 x1 x2 v h k0 k1 k2
          ·
            refine g_aload_n E gdX11_isVoidTaking_67 rfl 0 rfl ?_
            refine g_iload_n E gdX11_isVoidTaking_68 rfl 2 rfl ?_
            obtain ⟨r13, hc14, h⟩ := qB_of h
            refine g_Vi (r := r13) (As := [iv x2]) (rest := []) (w := wC g ad o) E (c_X11_isVoidHearing l g ad o x2 r13 hc14) okm_X11_isVoidHearing okw_X11_isVoidHearing w_1230 rfl (wC_0 g ad o) rfl rfl (Nat.le_of_ble_eq_true rfl) ⟨Nat.le_of_ble_eq_true rfl, Nat.le_of_ble_eq_true rfl⟩ gdX11_isVoidTaking_69 ?_
            refine g_if_ne E 77 gdX11_isVoidTaking_72 (by decide) h (fun h => ?_) (fun h => ?_)
            ·
              exact j77 x1 x2 v h k0 k1 k2
            ·
              refine g_sub E [] rfl ?_
              exact k1  (Option.some.inj h).symm
        ·
          refine g_goto E 77 gdX11_isVoidTaking_45 (by decide) ?_
          exact j77 x1 x2 v h k0 k1 k2
  have j2 : ∀ (x1 : Int) (x2 : Int), e_X11_isVoidTaking_2 o x1 x2 = some v → Go X 2 (wC g ad o) [(0, .ref (ad 0)), (1, iv x1), (2, iv x2)] [] := by
    intro x1 x2 h
    unfold e_X11_isVoidTaking_2 at h
    obtain ⟨r, hr, h⟩ := qB_of h
    refine l2 x1 r _ hr ?_ ?_
    ·
      intro e
      subst e
      have h : b_X11_isVoidTaking_75 o = some v := h
      exact j75  h
    ·
      intro e
      subst e
      have h : b_X11_isVoidTaking_83 o = some v := h
      exact j83  h
  unfold s_X11_isVoidTaking at h
  refine g_iconst E gdX11_isVoidTaking_0 ?_
  refine g_istore_n E [(2, iv 0), (0, .ref (ad 0)), (1, iv x1)] gdX11_isVoidTaking_1 rfl (by decide) rfl ?_
  refine g_sub E [1, 2, 0] rfl ?_
  exact j2 x1 0 h
set_option maxHeartbeats 4000000 in
set_option maxRecDepth 100000 in
theorem c_X11_isVoid (l : Launch) (g : GG) (ad : Nat → Nat) (o : OO) (x1 : Int) (v : Int × OO) (h : s_X11_isVoid o x1 = some v) : CI l g yX11_isVoid cX11_isVoid 3 (some .int) 5 111 (wC g ad o) [.ref (ad 0), iv x1] v.1 (wC g ad v.2) := by
  refine met_I (by decide) (Nat.le_of_ble_eq_true rfl) ?_
  intro X E hQ
  show Go X 0 (wC g ad o) [(0, .ref (ad 0)), (1, iv x1)] []
  have j41 : ∀ (o : OO) (y0 : Int), b_X11_isVoid_41 o y0 = some v → Go X 41 (wC g ad o) [] [iv y0] := by
    intro o y0 h
    unfold b_X11_isVoid_41 at h
    exact g_iret E hQ (by rw [← Option.some.inj h]) (by rw [← Option.some.inj h]) gdX11_isVoid_41
  have j60 : ∀ (o : OO) (y0 : Int), b_X11_isVoid_60 o y0 = some v → Go X 60 (wC g ad o) [] [iv y0] := by
    intro o y0 h
    unfold b_X11_isVoid_60 at h
    exact g_iret E hQ (by rw [← Option.some.inj h]) (by rw [← Option.some.inj h]) gdX11_isVoid_60
  unfold s_X11_isVoid at h
  refine g_aload_n E gdX11_isVoid_0 rfl 0 rfl ?_
  refine g_get (T := TX11) E fw_X11 0 (wC_0 g ad o) rfl 6 (by decide) w_464 rfl rfl gdX11_isVoid_1 ?_
  refine g_iload_n E gdX11_isVoid_4 rfl 1 rfl ?_
  obtain ⟨r1, hc2, h⟩ := qB_of h
  refine g_Vi (r := r1) (As := [iv x1]) (rest := []) (w := wC g ad o) E (c_X4_exists l g ad o x1 r1 hc2) okm_X4_exists okw_X4_exists w_882 rfl (wC_32 g ad o) rfl rfl (Nat.le_of_ble_eq_true rfl) ⟨Nat.le_of_ble_eq_true rfl, Nat.le_of_ble_eq_true rfl⟩ gdX11_isVoid_5 ?_
  refine g_if_ne E 13 gdX11_isVoid_8 (by decide) h (fun h => ?_) (fun h => ?_)
  ·
    refine g_aload_n E gdX11_isVoid_13 rfl 0 rfl ?_
    refine g_get (T := TX11) E fw_X11 0 (wC_0 g ad o) rfl 6 (by decide) w_464 rfl rfl gdX11_isVoid_14 ?_
    refine g_iload_n E gdX11_isVoid_17 rfl 1 rfl ?_
    obtain ⟨r3, hc4, h⟩ := qB_of h
    refine g_Vi (r := r3) (As := [iv x1]) (rest := []) (w := wC g ad o) E (c_X4_kindOf l g ad o x1 r3 hc4) okm_X4_kindOf okw_X4_kindOf w_979 rfl (wC_32 g ad o) rfl rfl (Nat.le_of_ble_eq_true rfl) ⟨Nat.le_of_ble_eq_true rfl, Nat.le_of_ble_eq_true rfl⟩ gdX11_isVoid_18 ?_
    refine g_istore_n E [(2, iv r3), (0, .ref (ad 0)), (1, iv x1)] gdX11_isVoid_21 rfl (by decide) rfl ?_
    refine g_iload_n E gdX11_isVoid_22 rfl 0 rfl ?_
    refine g_bipush E gdX11_isVoid_23 (by decide) ?_
    refine g_icmp_ne E 42 gdX11_isVoid_25 (by decide) h (fun h => ?_) (fun h => ?_)
    ·
      refine g_iload_n E gdX11_isVoid_42 rfl 0 rfl ?_
      refine g_iconst E gdX11_isVoid_43 ?_
      refine g_icmp_ne E 61 gdX11_isVoid_44 (by decide) h (fun h => ?_) (fun h => ?_)
      ·
        refine g_aload_n E gdX11_isVoid_61 rfl 1 rfl ?_
        refine g_iconst E gdX11_isVoid_62 ?_
        obtain ⟨r5, o7, hc6, h⟩ := qB2_of h
        refine g_Vi (r := r5) (As := [iv 3]) (rest := []) (w := wC g ad o7) E (c_X11_found l g ad o 3 (r5, o7) hc6) okm_X11_found okw_X11_found w_521 rfl (wC_0 g ad o) rfl rfl (Nat.le_of_ble_eq_true rfl) ⟨Nat.le_of_ble_eq_true rfl, Nat.le_of_ble_eq_true rfl⟩ gdX11_isVoid_63 ?_
        exact g_iret E hQ (by rw [← Option.some.inj h]) (by rw [← Option.some.inj h]) gdX11_isVoid_66
      ·
        refine g_aload_n E gdX11_isVoid_47 rfl 1 rfl ?_
        refine g_iload_n E gdX11_isVoid_48 rfl 2 rfl ?_
        obtain ⟨r8, hc9, h⟩ := qB_of h
        refine g_Vi (r := r8) (As := [iv x1]) (rest := []) (w := wC g ad o) E (c_X11_isVoidTaking l g ad o x1 r8 hc9) okm_X11_isVoidTaking okw_X11_isVoidTaking w_1242 rfl (wC_0 g ad o) rfl rfl (Nat.le_of_ble_eq_true rfl) ⟨Nat.le_of_ble_eq_true rfl, Nat.le_of_ble_eq_true rfl⟩ gdX11_isVoid_49 ?_
        refine g_if_eq E 59 gdX11_isVoid_52 (by decide) h (fun h => ?_) (fun h => ?_)
        ·
          refine g_iconst E gdX11_isVoid_59 ?_
          refine g_sub E [] rfl ?_
          exact j60 o 0 h
        ·
          refine g_iconst E gdX11_isVoid_55 ?_
          refine g_goto E 60 gdX11_isVoid_56 (by decide) ?_
          refine g_sub E [] rfl ?_
          exact j60 o 1 h
    ·
      refine g_aload_n E gdX11_isVoid_28 rfl 1 rfl ?_
      refine g_iload_n E gdX11_isVoid_29 rfl 2 rfl ?_
      obtain ⟨r10, hc11, h⟩ := qB_of h
      refine g_Vi (r := r10) (As := [iv x1]) (rest := []) (w := wC g ad o) E (c_X11_isVoidHearing l g ad o x1 r10 hc11) okm_X11_isVoidHearing okw_X11_isVoidHearing w_1230 rfl (wC_0 g ad o) rfl rfl (Nat.le_of_ble_eq_true rfl) ⟨Nat.le_of_ble_eq_true rfl, Nat.le_of_ble_eq_true rfl⟩ gdX11_isVoid_30 ?_
      refine g_if_eq E 40 gdX11_isVoid_33 (by decide) h (fun h => ?_) (fun h => ?_)
      ·
        refine g_iconst E gdX11_isVoid_40 ?_
        refine g_sub E [] rfl ?_
        exact j41 o 0 h
      ·
        refine g_iconst E gdX11_isVoid_36 ?_
        refine g_goto E 41 gdX11_isVoid_37 (by decide) ?_
        refine g_sub E [] rfl ?_
        exact j41 o 1 h
  ·
    refine g_iconst E gdX11_isVoid_11 ?_
    exact g_iret E hQ (by rw [← Option.some.inj h]) (by rw [← Option.some.inj h]) gdX11_isVoid_12
set_option maxHeartbeats 4000000 in
set_option maxRecDepth 100000 in
theorem c_X11_judge (l : Launch) (g : GG) (ad : Nat → Nat) (o : OO) (x1 : Int) (x2 : Int) (x3 : Int) (v : Int × OO) (h : s_X11_judge o x1 x2 x3 = some v) : CI l g yX11_judge cX11_judge 5 (some .int) 5 125 (wC g ad o) [.ref (ad 0), iv x1, iv x2, iv x3] v.1 (wC g ad v.2) := by
  refine met_I (by decide) (Nat.le_of_ble_eq_true rfl) ?_
  intro X E hQ
  show Go X 0 (wC g ad o) [(0, .ref (ad 0)), (1, iv x1), (2, iv x2), (3, iv x3)] []
  have j33 : ∀ (o : OO), b_X11_judge_33 o = some v → Go X 33 (wC g ad o) [] [] := by
    intro o h
    unfold b_X11_judge_33 at h
    refine g_iconst E gdX11_judge_33 ?_
    exact g_iret E hQ (by rw [← Option.some.inj h]) (by rw [← Option.some.inj h]) gdX11_judge_34
  unfold s_X11_judge at h
  refine g_aload_n E gdX11_judge_0 rfl 0 rfl ?_
  refine g_get (T := TX11) E fw_X11 0 (wC_0 g ad o) rfl 6 (by decide) w_464 rfl rfl gdX11_judge_1 ?_
  refine g_iload_n E gdX11_judge_4 rfl 1 rfl ?_
  obtain ⟨r1, hc2, h⟩ := qB_of h
  refine g_Vi (r := r1) (As := [iv x1]) (rest := []) (w := wC g ad o) E (c_X4_exists l g ad o x1 r1 hc2) okm_X4_exists okw_X4_exists w_882 rfl (wC_32 g ad o) rfl rfl (Nat.le_of_ble_eq_true rfl) ⟨Nat.le_of_ble_eq_true rfl, Nat.le_of_ble_eq_true rfl⟩ gdX11_judge_5 ?_
  refine g_if_eq E 33 gdX11_judge_8 (by decide) h (fun h => ?_) (fun h => ?_)
  ·
    refine g_sub E [] rfl ?_
    exact j33 o h
  ·
    refine g_aload_n E gdX11_judge_11 rfl 0 rfl ?_
    refine g_get (T := TX11) E fw_X11 0 (wC_0 g ad o) rfl 0 (by decide) w_458 rfl rfl gdX11_judge_12 ?_
    refine g_iload_n E gdX11_judge_15 rfl 2 rfl ?_
    obtain ⟨r3, hc4, h⟩ := qB_of h
    refine g_Vi (r := r3) (As := [iv x2]) (rest := []) (w := wC g ad o) E (c_X8_exists l g ad o x2 r3 hc4) okm_X8_exists okw_X8_exists w_517 rfl (wC_1 g ad o) rfl rfl (Nat.le_of_ble_eq_true rfl) ⟨Nat.le_of_ble_eq_true rfl, Nat.le_of_ble_eq_true rfl⟩ gdX11_judge_16 ?_
    refine g_if_eq E 33 gdX11_judge_19 (by decide) h (fun h => ?_) (fun h => ?_)
    ·
      refine g_sub E [] rfl ?_
      exact j33 o h
    ·
      refine g_aload_n E gdX11_judge_22 rfl 0 rfl ?_
      refine g_get (T := TX11) E fw_X11 0 (wC_0 g ad o) rfl 0 (by decide) w_458 rfl rfl gdX11_judge_23 ?_
      refine g_iload_n E gdX11_judge_26 rfl 3 rfl ?_
      obtain ⟨r5, hc6, h⟩ := qB_of h
      refine g_Vi (r := r5) (As := [iv x3]) (rest := []) (w := wC g ad o) E (c_X8_exists l g ad o x3 r5 hc6) okm_X8_exists okw_X8_exists w_517 rfl (wC_1 g ad o) rfl rfl (Nat.le_of_ble_eq_true rfl) ⟨Nat.le_of_ble_eq_true rfl, Nat.le_of_ble_eq_true rfl⟩ gdX11_judge_27 ?_
      refine g_if_ne E 35 gdX11_judge_30 (by decide) h (fun h => ?_) (fun h => ?_)
      ·
        refine g_aload_n E gdX11_judge_35 rfl 0 rfl ?_
        refine g_get (T := TX11) E fw_X11 0 (wC_0 g ad o) rfl 6 (by decide) w_464 rfl rfl gdX11_judge_36 ?_
        refine g_iload_n E gdX11_judge_39 rfl 1 rfl ?_
        refine g_iconst E gdX11_judge_40 ?_
        obtain ⟨r7, hc8, h⟩ := qB_of h
        refine g_Vi (r := r7) (As := [iv x1, iv 1]) (rest := []) (w := wC g ad o) E (c_X4_isOf l g ad o x1 1 r7 hc8) okm_X4_isOf okw_X4_isOf w_886 rfl (wC_32 g ad o) rfl rfl (Nat.le_of_ble_eq_true rfl) ⟨Nat.le_of_ble_eq_true rfl, Nat.le_of_ble_eq_true rfl⟩ gdX11_judge_41 ?_
        refine g_if_ne E 53 gdX11_judge_44 (by decide) h (fun h => ?_) (fun h => ?_)
        ·
          refine g_aload_n E gdX11_judge_53 rfl 0 rfl ?_
          refine g_iload_n E gdX11_judge_54 rfl 2 rfl ?_
          refine g_iload_n E gdX11_judge_55 rfl 3 rfl ?_
          obtain ⟨r9, hc10, h⟩ := qB_of h
          refine g_Vi (r := r9) (As := [iv x2, iv x3]) (rest := []) (w := wC g ad o) E (c_X11_weighingFault l g ad o x2 x3 r9 hc10) okm_X11_weighingFault okw_X11_weighingFault w_1373 rfl (wC_0 g ad o) rfl rfl (Nat.le_of_ble_eq_true rfl) ⟨Nat.le_of_ble_eq_true rfl, Nat.le_of_ble_eq_true rfl⟩ gdX11_judge_56 ?_
          refine g_istore E [(4, iv r9), (0, .ref (ad 0)), (1, iv x1), (2, iv x2), (3, iv x3)] gdX11_judge_59 (by decide) rfl ?_
          refine g_iload E gdX11_judge_61 0 rfl ?_
          refine g_if_eq E 73 gdX11_judge_63 (by decide) h (fun h => ?_) (fun h => ?_)
          ·
            refine g_aload_n E gdX11_judge_73 rfl 1 rfl ?_
            refine g_aload_n E gdX11_judge_74 rfl 1 rfl ?_
            refine g_iload_n E gdX11_judge_75 rfl 2 rfl ?_
            refine g_iload_n E gdX11_judge_76 rfl 3 rfl ?_
            refine g_iload_n E gdX11_judge_77 rfl 4 rfl ?_
            obtain ⟨r11, hc12, h⟩ := qB_of h
            refine g_Vi (r := r11) (As := [iv x1, iv x2, iv x3]) (rest := [.ref (ad 0)]) (w := wC g ad o) E (c_X11_weigh l g ad o x1 x2 x3 r11 hc12) okm_X11_weigh okw_X11_weigh w_1377 rfl (wC_0 g ad o) rfl rfl (Nat.le_of_ble_eq_true rfl) ⟨Nat.le_of_ble_eq_true rfl, Nat.le_of_ble_eq_true rfl⟩ gdX11_judge_78 ?_
            obtain ⟨r13, o15, hc14, h⟩ := qB2_of h
            refine g_Vi (r := r13) (As := [iv r11]) (rest := []) (w := wC g ad o15) E (c_X11_tell l g ad o r11 (r13, o15) hc14) okm_X11_tell okw_X11_tell w_551 rfl (wC_0 g ad o) rfl rfl (Nat.le_of_ble_eq_true rfl) ⟨Nat.le_of_ble_eq_true rfl, Nat.le_of_ble_eq_true rfl⟩ gdX11_judge_81 ?_
            exact g_iret E hQ (by rw [← Option.some.inj h]) (by rw [← Option.some.inj h]) gdX11_judge_84
          ·
            refine g_aload_n E gdX11_judge_66 rfl 1 rfl ?_
            refine g_iload E gdX11_judge_67 0 rfl ?_
            obtain ⟨r16, o18, hc17, h⟩ := qB2_of h
            refine g_Vi (r := r16) (As := [iv r9]) (rest := []) (w := wC g ad o18) E (c_X11_found l g ad o r9 (r16, o18) hc17) okm_X11_found okw_X11_found w_521 rfl (wC_0 g ad o) rfl rfl (Nat.le_of_ble_eq_true rfl) ⟨Nat.le_of_ble_eq_true rfl, Nat.le_of_ble_eq_true rfl⟩ gdX11_judge_69 ?_
            exact g_iret E hQ (by rw [← Option.some.inj h]) (by rw [← Option.some.inj h]) gdX11_judge_72
        ·
          refine g_aload_n E gdX11_judge_47 rfl 0 rfl ?_
          refine g_iconst E gdX11_judge_48 ?_
          obtain ⟨r19, o21, hc20, h⟩ := qB2_of h
          refine g_Vi (r := r19) (As := [iv 3]) (rest := []) (w := wC g ad o21) E (c_X11_found l g ad o 3 (r19, o21) hc20) okm_X11_found okw_X11_found w_521 rfl (wC_0 g ad o) rfl rfl (Nat.le_of_ble_eq_true rfl) ⟨Nat.le_of_ble_eq_true rfl, Nat.le_of_ble_eq_true rfl⟩ gdX11_judge_49 ?_
          exact g_iret E hQ (by rw [← Option.some.inj h]) (by rw [← Option.some.inj h]) gdX11_judge_52
      ·
        refine g_sub E [] rfl ?_
        exact j33 o h
set_option maxHeartbeats 4000000 in
set_option maxRecDepth 100000 in
theorem c_X11_later (l : Launch) (g : GG) (ad : Nat → Nat) (o : OO) (x1 : Int) (v : Int × OO) (h : s_X11_later o x1 = some v) : CI l g yX11_later cX11_later 2 (some .int) 0 0 (wC g ad o) [.ref (ad 0), iv x1] v.1 (wC g ad v.2) := by
  refine met_I (by decide) (Nat.le_of_ble_eq_true rfl) ?_
  intro X E hQ
  show Go X 0 (wC g ad o) [(0, .ref (ad 0)), (1, iv x1)] []
  have j16 : ∀ (o : OO), b_X11_later_16 o = some v → Go X 16 (wC g ad o) [] [] := by
    intro o h
    unfold b_X11_later_16 at h
    refine g_iconst E gdX11_later_16 ?_
    exact g_iret E hQ (by rw [← Option.some.inj h]) (by rw [← Option.some.inj h]) gdX11_later_17
  unfold s_X11_later at h
  refine g_iload_n E gdX11_later_0 rfl 1 rfl ?_
  refine g_if_lt E 16 gdX11_later_1 (by decide) h (fun h => ?_) (fun h => ?_)
  ·
    refine g_sub E [] rfl ?_
    exact j16 o h
  ·
    refine g_iload_n E gdX11_later_4 rfl 1 rfl ?_
    refine g_sipush E gdX11_later_5 (by decide) ?_
    refine g_aload_n E gdX11_later_8 rfl 0 rfl ?_
    refine g_get (T := TX11) E fw_X11 0 (wC_0 g ad o) rfl 13 (by decide) w_471 rfl rfl gdX11_later_9 ?_
    refine g_isub E gdX11_later_12 ?_
    refine g_icmp_le E 18 gdX11_later_13 (by decide) h (fun h => ?_) (fun h => ?_)
    ·
      refine g_aload_n E gdX11_later_18 rfl 0 rfl ?_
      refine g_dup E gdX11_later_19 rfl ?_
      refine g_get (T := TX11) E fw_X11 0 (wC_0 g ad o) rfl 13 (by decide) w_471 rfl rfl gdX11_later_20 ?_
      refine g_iload_n E gdX11_later_23 rfl 1 rfl ?_
      refine g_iadd E gdX11_later_24 ?_
      obtain ⟨o1, e_o1, h⟩ := qNm_of h
      refine g_puti (T := TX11) (ws' := wC g ad o1) E fw_X11 tyX11 tyX11_ok nmX11 0 (wC_0 g ad o) rfl 13 (by decide) w_471 rfl rfl (by decide +kernel) (Nat.le_of_ble_eq_true rfl) (by rw [e_o1]; exact wC_p0_13 g ad o _) gdX11_later_25 ?_
      refine g_aload_n E gdX11_later_28 rfl 0 rfl ?_
      refine g_get (T := TX11) E fw_X11 0 (wC_0 g ad o1) rfl 13 (by decide) w_471 rfl rfl gdX11_later_29 ?_
      exact g_iret E hQ (by rw [← Option.some.inj h]) (by rw [← Option.some.inj h]) gdX11_later_32
    ·
      refine g_sub E [] rfl ?_
      exact j16 o h
set_option maxHeartbeats 4000000 in
set_option maxRecDepth 100000 in
theorem c_X8_holds__1 (l : Launch) (g : GG) (ad : Nat → Nat) (o : OO) (x1 : Int) (x2 : Int) (v : Int) (h : s_X8_holds__1 o x1 x2 = some v) : CI l g yX8_holds cX8_holds 3 (some .boolean) 0 0 (wC g ad o) [.ref (ad 1), iv x1, iv x2] v (wC g ad o) := by
  refine met_I (by decide) (Nat.le_of_ble_eq_true rfl) ?_
  intro X E hQ
  show Go X 0 (wC g ad o) [(0, .ref (ad 1)), (1, iv x1), (2, iv x2)] []
  have j19 : ∀ (y0 : Int), b_X8_holds__1_19 o y0 = some v → Go X 19 (wC g ad o) [] [iv y0] := by
    intro y0 h
    unfold b_X8_holds__1_19 at h
    obtain ⟨hz, h⟩ := qZ_of h
    exact g_zret E hQ hz (Option.some.inj h) rfl gdX8_holds_19
  have j18 : b_X8_holds__1_18 o = some v → Go X 18 (wC g ad o) [] [] := by
    intro h
    unfold b_X8_holds__1_18 at h
    refine g_iconst E gdX8_holds_18 ?_
    exact j19 0 h
  unfold s_X8_holds__1 at h
  refine g_iload_n E gdX8_holds_0 rfl 2 rfl ?_
  refine g_if_lt E 18 gdX8_holds_1 (by decide) h (fun h => ?_) (fun h => ?_)
  ·
    refine g_sub E [] rfl ?_
    exact j18  h
  ·
    refine g_iload_n E gdX8_holds_4 rfl 2 rfl ?_
    refine g_aload_n E gdX8_holds_5 rfl 0 rfl ?_
    refine g_get (T := TX8) E fw_X8 1 (wC_1 g ad o) rfl 2 (by decide) w_128 rfl rfl gdX8_holds_6 ?_
    refine g_iload_n E gdX8_holds_9 rfl 1 rfl ?_
    obtain ⟨hi1, h⟩ := qIn_of h
    refine g_iald E 2 (wC_2 g ad o) (by decide) hi1 gdX8_holds_10 ?_
    obtain ⟨n2, e_n2, h⟩ := qNm_of h
    refine g_nmi e_n2 ?_
    refine g_icmp_ge E 18 gdX8_holds_11 (by decide) h (fun h => ?_) (fun h => ?_)
    ·
      refine g_sub E [] rfl ?_
      exact j18  h
    ·
      refine g_iconst E gdX8_holds_14 ?_
      refine g_goto E 19 gdX8_holds_15 (by decide) ?_
      refine g_sub E [] rfl ?_
      exact j19 1 h
set_option maxHeartbeats 4000000 in
set_option maxRecDepth 100000 in
theorem c_X8_exchange (l : Launch) (g : GG) (ad : Nat → Nat) (o : OO) (x1 : Int) (x2 : Int) (x3 : Int) (v : Int × OO) (h : s_X8_exchange o x1 x2 x3 = some v) : CI l g yX8_exchange cX8_exchange 5 (some .int) 0 0 (wC g ad o) [.ref (ad 1), iv x1, iv x2, iv x3] v.1 (wC g ad v.2) := by
  refine met_I (by decide) (Nat.le_of_ble_eq_true rfl) ?_
  intro X E hQ
  show Go X 0 (wC g ad o) [(0, .ref (ad 1)), (1, iv x1), (2, iv x2), (3, iv x3)] []
  unfold s_X8_exchange at h
  refine g_aload_n E gdX8_exchange_0 rfl 0 rfl ?_
  refine g_get (T := TX8) E fw_X8 1 (wC_1 g ad o) rfl 3 (by decide) w_129 rfl rfl gdX8_exchange_1 ?_
  refine g_iload_n E gdX8_exchange_4 rfl 1 rfl ?_
  refine g_bipush E gdX8_exchange_5 (by decide) ?_
  refine g_imul E gdX8_exchange_7 ?_
  refine g_iload_n E gdX8_exchange_8 rfl 2 rfl ?_
  refine g_iadd E gdX8_exchange_9 ?_
  obtain ⟨hi1, h⟩ := qIn_of h
  refine g_iald E 3 (wC_3 g ad o) (by decide) hi1 gdX8_exchange_10 ?_
  obtain ⟨n2, e_n2, h⟩ := qNm_of h
  refine g_nmi e_n2 ?_
  refine g_istore E [(4, iv n2), (0, .ref (ad 1)), (1, iv x1), (2, iv x2), (3, iv x3)] gdX8_exchange_11 (by decide) rfl ?_
  refine g_aload_n E gdX8_exchange_13 rfl 1 rfl ?_
  refine g_get (T := TX8) E fw_X8 1 (wC_1 g ad o) rfl 3 (by decide) w_129 rfl rfl gdX8_exchange_14 ?_
  refine g_iload_n E gdX8_exchange_17 rfl 2 rfl ?_
  refine g_bipush E gdX8_exchange_18 (by decide) ?_
  refine g_imul E gdX8_exchange_20 ?_
  refine g_iload_n E gdX8_exchange_21 rfl 3 rfl ?_
  refine g_iadd E gdX8_exchange_22 ?_
  refine g_iload_n E gdX8_exchange_23 rfl 4 rfl ?_
  obtain ⟨hi3, h⟩ := qIn_of h
  obtain ⟨o4, e_o4, h⟩ := qNm_of h
  refine g_iast (ws' := wC g ad o4) E 3 (wC_3 g ad o) (by decide) hi3 (by rw [e_o4]; exact wC_s3 g ad o _ _) gdX8_exchange_24 ?_
  refine g_iload E gdX8_exchange_25 0 rfl ?_
  exact g_iret E hQ (by rw [← Option.some.inj h]) (by rw [← Option.some.inj h]) gdX8_exchange_27
set_option maxHeartbeats 4000000 in
set_option maxRecDepth 100000 in
theorem c_X11_lay (l : Launch) (g : GG) (ad : Nat → Nat) (o : OO) (x1 : Int) (x2 : Int) (x3 : Int) (v : Int × OO) (h : s_X11_lay o x1 x2 x3 = some v) : CI l g yX11_lay cX11_lay 4 (some .int) 1 24 (wC g ad o) [.ref (ad 0), iv x1, iv x2, iv x3] v.1 (wC g ad v.2) := by
  refine met_I (by decide) (Nat.le_of_ble_eq_true rfl) ?_
  intro X E hQ
  show Go X 0 (wC g ad o) [(0, .ref (ad 0)), (1, iv x1), (2, iv x2), (3, iv x3)] []
  unfold s_X11_lay at h
  refine g_aload_n E gdX11_lay_0 rfl 0 rfl ?_
  refine g_get (T := TX11) E fw_X11 0 (wC_0 g ad o) rfl 0 (by decide) w_458 rfl rfl gdX11_lay_1 ?_
  refine g_iload_n E gdX11_lay_4 rfl 1 rfl ?_
  obtain ⟨r1, hc2, h⟩ := qB_of h
  refine g_Vi (r := r1) (As := [iv x1]) (rest := []) (w := wC g ad o) E (c_X8_exists l g ad o x1 r1 hc2) okm_X8_exists okw_X8_exists w_517 rfl (wC_1 g ad o) rfl rfl (Nat.le_of_ble_eq_true rfl) ⟨Nat.le_of_ble_eq_true rfl, Nat.le_of_ble_eq_true rfl⟩ gdX11_lay_5 ?_
  refine g_if_ne E 13 gdX11_lay_8 (by decide) h (fun h => ?_) (fun h => ?_)
  ·
    refine g_aload_n E gdX11_lay_13 rfl 0 rfl ?_
    refine g_get (T := TX11) E fw_X11 0 (wC_0 g ad o) rfl 0 (by decide) w_458 rfl rfl gdX11_lay_14 ?_
    refine g_iload_n E gdX11_lay_17 rfl 1 rfl ?_
    obtain ⟨r3, hc4, h⟩ := qB_of h
    refine g_Vi (r := r3) (As := [iv x1]) (rest := []) (w := wC g ad o) E (c_X8_isThere l g ad o x1 r3 hc4) okm_X8_isThere okw_X8_isThere w_539 rfl (wC_1 g ad o) rfl rfl (Nat.le_of_ble_eq_true rfl) ⟨Nat.le_of_ble_eq_true rfl, Nat.le_of_ble_eq_true rfl⟩ gdX11_lay_18 ?_
    refine g_if_ne E 30 gdX11_lay_21 (by decide) h (fun h => ?_) (fun h => ?_)
    ·
      refine g_aload_n E gdX11_lay_30 rfl 0 rfl ?_
      refine g_get (T := TX11) E fw_X11 0 (wC_0 g ad o) rfl 0 (by decide) w_458 rfl rfl gdX11_lay_31 ?_
      refine g_iload_n E gdX11_lay_34 rfl 1 rfl ?_
      refine g_iload_n E gdX11_lay_35 rfl 2 rfl ?_
      obtain ⟨r5, hc6, h⟩ := qB_of h
      refine g_Vi (r := r5) (As := [iv x1, iv x2]) (rest := []) (w := wC g ad o) E (c_X8_holds__1 l g ad o x1 x2 r5 hc6) okm_X8_holds okw_X8_holds w_543 rfl (wC_1 g ad o) rfl rfl (Nat.le_of_ble_eq_true rfl) ⟨Nat.le_of_ble_eq_true rfl, Nat.le_of_ble_eq_true rfl⟩ gdX11_lay_36 ?_
      refine g_if_ne E 48 gdX11_lay_39 (by decide) h (fun h => ?_) (fun h => ?_)
      ·
        refine g_aload_n E gdX11_lay_48 rfl 0 rfl ?_
        refine g_aload_n E gdX11_lay_49 rfl 0 rfl ?_
        refine g_get (T := TX11) E fw_X11 0 (wC_0 g ad o) rfl 0 (by decide) w_458 rfl rfl gdX11_lay_50 ?_
        refine g_iload_n E gdX11_lay_53 rfl 1 rfl ?_
        refine g_iload_n E gdX11_lay_54 rfl 2 rfl ?_
        refine g_iload_n E gdX11_lay_55 rfl 3 rfl ?_
        obtain ⟨r7, o9, hc8, h⟩ := qB2_of h
        refine g_Vi (r := r7) (As := [iv x1, iv x2, iv x3]) (rest := [.ref (ad 0)]) (w := wC g ad o9) E (c_X8_exchange l g ad o x1 x2 x3 (r7, o9) hc8) okm_X8_exchange okw_X8_exchange w_547 rfl (wC_1 g ad o) rfl rfl (Nat.le_of_ble_eq_true rfl) ⟨Nat.le_of_ble_eq_true rfl, Nat.le_of_ble_eq_true rfl⟩ gdX11_lay_56 ?_
        obtain ⟨r10, o12, hc11, h⟩ := qB2_of h
        refine g_Vi (r := r10) (As := [iv r7]) (rest := []) (w := wC g ad o12) E (c_X11_tell l g ad o9 r7 (r10, o12) hc11) okm_X11_tell okw_X11_tell w_551 rfl (wC_0 g ad o9) rfl rfl (Nat.le_of_ble_eq_true rfl) ⟨Nat.le_of_ble_eq_true rfl, Nat.le_of_ble_eq_true rfl⟩ gdX11_lay_59 ?_
        exact g_iret E hQ (by rw [← Option.some.inj h]) (by rw [← Option.some.inj h]) gdX11_lay_62
      ·
        refine g_aload_n E gdX11_lay_42 rfl 0 rfl ?_
        refine g_iconst E gdX11_lay_43 ?_
        obtain ⟨r13, o15, hc14, h⟩ := qB2_of h
        refine g_Vi (r := r13) (As := [iv 2]) (rest := []) (w := wC g ad o15) E (c_X11_found l g ad o 2 (r13, o15) hc14) okm_X11_found okw_X11_found w_521 rfl (wC_0 g ad o) rfl rfl (Nat.le_of_ble_eq_true rfl) ⟨Nat.le_of_ble_eq_true rfl, Nat.le_of_ble_eq_true rfl⟩ gdX11_lay_44 ?_
        exact g_iret E hQ (by rw [← Option.some.inj h]) (by rw [← Option.some.inj h]) gdX11_lay_47
    ·
      refine g_aload_n E gdX11_lay_24 rfl 0 rfl ?_
      refine g_iconst E gdX11_lay_25 ?_
      obtain ⟨r16, o18, hc17, h⟩ := qB2_of h
      refine g_Vi (r := r16) (As := [iv 1]) (rest := []) (w := wC g ad o18) E (c_X11_found l g ad o 1 (r16, o18) hc17) okm_X11_found okw_X11_found w_521 rfl (wC_0 g ad o) rfl rfl (Nat.le_of_ble_eq_true rfl) ⟨Nat.le_of_ble_eq_true rfl, Nat.le_of_ble_eq_true rfl⟩ gdX11_lay_26 ?_
      exact g_iret E hQ (by rw [← Option.some.inj h]) (by rw [← Option.some.inj h]) gdX11_lay_29
  ·
    refine g_iconst E gdX11_lay_11 ?_
    exact g_iret E hQ (by rw [← Option.some.inj h]) (by rw [← Option.some.inj h]) gdX11_lay_12
set_option maxHeartbeats 4000000 in
set_option maxRecDepth 100000 in
theorem c_X1_latestWorth (l : Launch) (g : GG) (ad : Nat → Nat) (o : OO) (x1 : Int) (v : Int) (h : s_X1_latestWorth o x1 = some v) : CI l g yX1_latestWorth cX1_latestWorth 2 (some .int) 0 0 (wC g ad o) [.ref (ad 10), iv x1] v (wC g ad o) := by
  refine met_I (by decide) (Nat.le_of_ble_eq_true rfl) ?_
  intro X E hQ
  show Go X 0 (wC g ad o) [(0, .ref (ad 10)), (1, iv x1)] []
  unfold s_X1_latestWorth at h
  refine g_aload_n E gdX1_latestWorth_0 rfl 0 rfl ?_
  refine g_get (T := TX1) E fw_X1 10 (wC_10 g ad o) rfl 5 (by decide) w_165 rfl rfl gdX1_latestWorth_1 ?_
  refine g_iload_n E gdX1_latestWorth_4 rfl 1 rfl ?_
  obtain ⟨hi1, h⟩ := qIn_of h
  refine g_iald E 16 (wC_16 g ad o) (by decide) hi1 gdX1_latestWorth_5 ?_
  obtain ⟨n2, e_n2, h⟩ := qNm_of h
  refine g_nmi e_n2 ?_
  exact g_iret E hQ (Option.some.inj h) rfl gdX1_latestWorth_6
set_option maxHeartbeats 4000000 in
set_option maxRecDepth 100000 in
theorem c_X3_sortOf (l : Launch) (g : GG) (ad : Nat → Nat) (o : OO) (x1 : Int) (v : Int) (h : s_X3_sortOf o x1 = some v) : CI l g yX3_sortOf cX3_sortOf 2 (some .int) 0 0 (wC g ad o) [.ref (ad 7), iv x1] v (wC g ad o) := by
  refine met_I (by decide) (Nat.le_of_ble_eq_true rfl) ?_
  intro X E hQ
  show Go X 0 (wC g ad o) [(0, .ref (ad 7)), (1, iv x1)] []
  unfold s_X3_sortOf at h
  refine g_aload_n E gdX3_sortOf_0 rfl 0 rfl ?_
  refine g_get (T := TX3) E fw_X3 7 (wC_7 g ad o) rfl 0 (by decide) w_146 rfl rfl gdX3_sortOf_1 ?_
  refine g_iload_n E gdX3_sortOf_4 rfl 1 rfl ?_
  obtain ⟨hi1, h⟩ := qIn_of h
  refine g_iald E 8 (wC_8 g ad o) (by decide) hi1 gdX3_sortOf_5 ?_
  obtain ⟨n2, e_n2, h⟩ := qNm_of h
  refine g_nmi e_n2 ?_
  exact g_iret E hQ (Option.some.inj h) rfl gdX3_sortOf_6
set_option maxHeartbeats 4000000 in
set_option maxRecDepth 100000 in
theorem c_X11_setPrices (l : Launch) (g : GG) (ad : Nat → Nat) (o : OO) (x1 : Int) (v : OO) (h : s_X11_setPrices o x1 = some v) : CV l g yX11_setPrices cX11_setPrices 5 1 22 (wC g ad o) [.ref (ad 0), iv x1] (wC g ad v) := by
  refine met_V (by decide) (Nat.le_of_ble_eq_true rfl) ?_
  intro X E hQ
  show Go X 0 (wC g ad o) [(0, .ref (ad 0)), (1, iv x1)] []
  have j89 : ∀ (o : OO), b_X11_setPrices_89 o = some v → Go X 89 (wC g ad o) [] [] := by
    intro o h
    unfold b_X11_setPrices_89 at h
    exact g_vret E hQ (by rw [← Option.some.inj h]) gdX11_setPrices_89
  have j72 : ∀ (o : OO) (x1 : Int) (x2 : Int) (x4 : Int) (v : (OO × Int) ⊕ ((OO))), b_X11_setPrices_72 o x1 x2 x4 = some v → (∀ (o : OO) (x2 : Int), v = .inl (o, x2) → Go X 2 (wC g ad o) [(0, .ref (ad 0)), (1, iv x1), (2, iv x2)] []) → (∀ (o : OO), v = .inr (o) → Go X 89 (wC g ad o) [] []) → Go X 72 (wC g ad o) [(0, .ref (ad 0)), (1, iv x1), (2, iv x2), (4, iv x4)] [] := by
    intro o x1 x2 x4 v h k0 k1
    unfold b_X11_setPrices_72 at h
    refine g_aload_n E gdX11_setPrices_72 rfl 0 rfl ?_
    refine g_get (T := TX11) E fw_X11 0 (wC_0 g ad o) rfl 8 (by decide) w_466 rfl rfl gdX11_setPrices_73 ?_
    refine g_get (T := TX10) E fw_X10 53 (wC_53 g ad o) rfl 0 (by decide) w_333 rfl rfl gdX11_setPrices_76 ?_
    refine g_iload_n E gdX11_setPrices_79 rfl 2 rfl ?_
    refine g_iload E gdX11_setPrices_80 3 rfl ?_
    obtain ⟨hi1, h⟩ := qIn_of h
    obtain ⟨o2, e_o2, h⟩ := qNm_of h
    refine g_iast (ws' := wC g ad o2) E 54 (wC_54 g ad o) (by decide) hi1 (by rw [e_o2]; exact wC_s54 g ad o _ _) gdX11_setPrices_82 ?_
    refine g_iinc E [(2, iv (x2 + 1)), (0, .ref (ad 0)), (1, iv x1), (4, iv x4)] gdX11_setPrices_83 2 rfl (by decide) rfl ?_
    refine g_goto E 2 gdX11_setPrices_86 (by decide) ?_
    refine g_sub E [1, 2, 0] rfl ?_
    exact k0 o2 (x2 + 1) (Option.some.inj h).symm
  have j48 : ∀ (o : OO) (x1 : Int) (x2 : Int) (x3 : Int) (y0 : Int) (v : (OO × Int) ⊕ ((OO))), b_X11_setPrices_48 o x1 x2 x3 y0 = some v → (∀ (o : OO) (x2 : Int), v = .inl (o, x2) → Go X 2 (wC g ad o) [(0, .ref (ad 0)), (1, iv x1), (2, iv x2)] []) → (∀ (o : OO), v = .inr (o) → Go X 89 (wC g ad o) [] []) → Go X 48 (wC g ad o) [(0, .ref (ad 0)), (1, iv x1), (2, iv x2), (3, iv x3)] [iv y0] := by
    intro o x1 x2 x3 y0 v h k0 k1
    unfold b_X11_setPrices_48 at h
    refine g_istore E [(4, iv y0), (0, .ref (ad 0)), (1, iv x1), (2, iv x2), (3, iv x3)] gdX11_setPrices_48 (by decide) rfl ?_
    refine g_iload_n E gdX11_setPrices_50 rfl 4 rfl ?_
    refine g_bipush E gdX11_setPrices_51 (by decide) ?_
    refine g_icmp_eq E 72 gdX11_setPrices_53 (by decide) h (fun h => ?_) (fun h => ?_)
    ·
      refine g_sub E [1, 2, 3, 0] rfl ?_
      exact j72 o x1 x2 y0 v h k0 k1
    ·
      refine g_iload E gdX11_setPrices_56 0 rfl ?_
      refine g_aload_n E gdX11_setPrices_58 rfl 1 rfl ?_
      refine g_get (T := TX11) E fw_X11 0 (wC_0 g ad o) rfl 3 (by decide) w_461 rfl rfl gdX11_setPrices_59 ?_
      refine g_iload_n E gdX11_setPrices_62 rfl 4 rfl ?_
      obtain ⟨r3, hc4, h⟩ := qB_of h
      refine g_Vi (r := r3) (As := [iv x3]) (rest := [iv y0]) (w := wC g ad o) E (c_X1_latestWorth l g ad o x3 r3 hc4) okm_X1_latestWorth okw_X1_latestWorth w_675 rfl (wC_10 g ad o) rfl rfl (Nat.le_of_ble_eq_true rfl) ⟨Nat.le_of_ble_eq_true rfl, Nat.le_of_ble_eq_true rfl⟩ gdX11_setPrices_63 ?_
      refine g_bipush E gdX11_setPrices_66 (by decide) ?_
      obtain ⟨hd5, h⟩ := qDv_of h
      refine g_idiv E hd5 gdX11_setPrices_68 ?_
      refine g_iadd E gdX11_setPrices_69 ?_
      obtain ⟨n6, e_n6, h⟩ := qNm_of h
      refine g_nmi e_n6 ?_
      refine g_istore E [(4, iv n6), (0, .ref (ad 0)), (1, iv x1), (2, iv x2), (3, iv x3)] gdX11_setPrices_70 (by decide) rfl ?_
      refine g_sub E [1, 2, 3, 0] rfl ?_
      exact j72 o x1 x2 n6 v h k0 k1
  have l2 : ∀ (x1 : Int) (r : (OO)) (s0 : OO × Int), loopW (fun s => l_X11_setPrices_2 x1 s.1 s.2) s0 = some r → (∀ (o : OO), r = (o) → Go X 89 (wC g ad o) [] []) → Go X 2 (wC g ad s0.1) [(0, .ref (ad 0)), (1, iv x1), (2, iv s0.2)] [] := by
    intro x1 r s0 h k1
    refine loop_rule (Head := fun s0 => Go X 2 (wC g ad s0.1) [(0, .ref (ad 0)), (1, iv x1), (2, iv s0.2)] []) h ?_
    intro s v h kk kx
    obtain ⟨o, x2⟩ := s
    have h : l_X11_setPrices_2 x1 o x2 = some v := h
    have k0 : ∀ (o : OO) (x2 : Int), v = .inl (o, x2) → Go X 2 (wC g ad o) [(0, .ref (ad 0)), (1, iv x1), (2, iv x2)] [] := fun o x2 e => kk (o, x2) e
    have k1 : ∀ (o : OO), v = .inr (o) → Go X 89 (wC g ad o) [] [] := fun o e => k1 o (kx _ e).symm
    unfold l_X11_setPrices_2 at h
    refine g_iload_n E gdX11_setPrices_2 rfl 2 rfl ?_
    refine g_bipush E gdX11_setPrices_3 (by decide) ?_
    refine g_icmp_ge E 89 gdX11_setPrices_5 (by decide) h (fun h => ?_) (fun h => ?_)
    ·
      refine g_sub E [] rfl ?_
      exact k1 o (Option.some.inj h).symm
    ·
      refine g_aload_n E gdX11_setPrices_8 rfl 0 rfl ?_
      refine g_get (T := TX11) E fw_X11 0 (wC_0 g ad o) rfl 3 (by decide) w_461 rfl rfl gdX11_setPrices_9 ?_
      refine g_iload_n E gdX11_setPrices_12 rfl 2 rfl ?_
      obtain ⟨r7, hc8, h⟩ := qB_of h
      refine g_Vi (r := r7) (As := [iv x2]) (rest := []) (w := wC g ad o) E (c_X1_standingOn l g ad o x2 r7 hc8) okm_X1_standingOn okw_X1_standingOn w_624 rfl (wC_10 g ad o) rfl rfl (Nat.le_of_ble_eq_true rfl) ⟨Nat.le_of_ble_eq_true rfl, Nat.le_of_ble_eq_true rfl⟩ gdX11_setPrices_13 ?_
      refine g_istore_n E [(3, iv r7), (0, .ref (ad 0)), (1, iv x1), (2, iv x2)] gdX11_setPrices_16 rfl (by decide) rfl ?_
      refine g_aload_n E gdX11_setPrices_17 rfl 1 rfl ?_
      refine g_get (T := TX11) E fw_X11 0 (wC_0 g ad o) rfl 2 (by decide) w_460 rfl rfl gdX11_setPrices_18 ?_
      refine g_iload_n E gdX11_setPrices_21 rfl 3 rfl ?_
      obtain ⟨r9, hc10, h⟩ := qB_of h
      refine g_Vi (r := r9) (As := [iv x2]) (rest := []) (w := wC g ad o) E (c_X3_isWater l g ad o x2 r9 hc10) okm_X3_isWater okw_X3_isWater w_651 rfl (wC_7 g ad o) rfl rfl (Nat.le_of_ble_eq_true rfl) ⟨Nat.le_of_ble_eq_true rfl, Nat.le_of_ble_eq_true rfl⟩ gdX11_setPrices_22 ?_
      refine g_if_eq E 32 gdX11_setPrices_25 (by decide) h (fun h => ?_) (fun h => ?_)
      ·
        refine g_aload_n E gdX11_setPrices_32 rfl 1 rfl ?_
        refine g_get (T := TX11) E fw_X11 0 (wC_0 g ad o) rfl 0 (by decide) w_458 rfl rfl gdX11_setPrices_33 ?_
        refine g_iload_n E gdX11_setPrices_36 rfl 2 rfl ?_
        refine g_aload_n E gdX11_setPrices_37 rfl 1 rfl ?_
        refine g_get (T := TX11) E fw_X11 0 (wC_0 g ad o) rfl 2 (by decide) w_460 rfl rfl gdX11_setPrices_38 ?_
        refine g_iload_n E gdX11_setPrices_41 rfl 3 rfl ?_
        obtain ⟨r11, hc12, h⟩ := qB_of h
        refine g_Vi (r := r11) (As := [iv x2]) (rest := [iv x1, .ref (ad 1)]) (w := wC g ad o) E (c_X3_sortOf l g ad o x2 r11 hc12) okm_X3_sortOf okw_X3_sortOf w_804 rfl (wC_7 g ad o) rfl rfl (Nat.le_of_ble_eq_true rfl) ⟨Nat.le_of_ble_eq_true rfl, Nat.le_of_ble_eq_true rfl⟩ gdX11_setPrices_42 ?_
        obtain ⟨r13, hc14, h⟩ := qB_of h
        refine g_Vi (r := r13) (As := [iv x1, iv r11]) (rest := []) (w := wC g ad o) E (c_X8_at l g ad o x1 r11 r13 hc14) okm_X8_at okw_X8_at w_808 rfl (wC_1 g ad o) rfl rfl (Nat.le_of_ble_eq_true rfl) ⟨Nat.le_of_ble_eq_true rfl, Nat.le_of_ble_eq_true rfl⟩ gdX11_setPrices_45 ?_
        refine g_sub E [1, 2, 3, 0] rfl ?_
        exact j48 o x1 x2 r7 r13 v h k0 k1
      ·
        refine g_iconst E gdX11_setPrices_28 ?_
        refine g_goto E 48 gdX11_setPrices_29 (by decide) ?_
        refine g_sub E [1, 2, 3, 0] rfl ?_
        exact j48 o x1 x2 r7 0 v h k0 k1
  have j2 : ∀ (o : OO) (x1 : Int) (x2 : Int), e_X11_setPrices_2 o x1 x2 = some v → Go X 2 (wC g ad o) [(0, .ref (ad 0)), (1, iv x1), (2, iv x2)] [] := by
    intro o x1 x2 h
    unfold e_X11_setPrices_2 at h
    obtain ⟨r, hr, h⟩ := qB_of h
    refine l2 x1 r _ hr ?_
    ·
      intro u0 e
      have e := e.symm
      subst e
      have h : b_X11_setPrices_89 u0 = some v := h
      exact j89 u0 h
  unfold s_X11_setPrices at h
  refine g_iconst E gdX11_setPrices_0 ?_
  refine g_istore_n E [(2, iv 0), (0, .ref (ad 0)), (1, iv x1)] gdX11_setPrices_1 rfl (by decide) rfl ?_
  refine g_sub E [1, 2, 0] rfl ?_
  exact j2 o x1 0 h
set_option maxHeartbeats 4000000 in
set_option maxRecDepth 100000 in
theorem c_J7_fill_53178__56 (l : Launch) (g : GG) (ad : Nat → Nat) (o : OO) (x1 : Int) (v : OO) (h : s_J7_fill_53178__56 o x1 = some v) : CV l g yJ7_fill_53178 cJ7_fill_53178 4 0 0 (wC g ad o) [.ref (ad 56), iv x1] (wC g ad v) := by
  refine met_V (by decide) (Nat.le_of_ble_eq_true rfl) ?_
  intro X E hQ
  show Go X 0 (wC g ad o) [(0, .ref (ad 56)), (1, iv x1)] []
  have j20 : ∀ (o : OO), b_J7_fill_53178__56_20 o = some v → Go X 20 (wC g ad o) [] [] := by
    intro o h
    unfold b_J7_fill_53178__56_20 at h
    exact g_vret E hQ (by rw [← Option.some.inj h]) gdJ7_fill_53178_20
  have l5 : ∀ (x1 : Int) (x3 : Int) (r : (OO)) (s0 : OO × Int), loopW (fun s => l_J7_fill_53178__56_5 x1 x3 s.1 s.2) s0 = some r → (∀ (o : OO), r = (o) → Go X 20 (wC g ad o) [] []) → Go X 5 (wC g ad s0.1) [(0, .ref (ad 56)), (1, iv x1), (2, iv s0.2), (3, iv x3)] [] := by
    intro x1 x3 r s0 h k1
    refine loop_rule (Head := fun s0 => Go X 5 (wC g ad s0.1) [(0, .ref (ad 56)), (1, iv x1), (2, iv s0.2), (3, iv x3)] []) h ?_
    intro s v h kk kx
    obtain ⟨o, x2⟩ := s
    have h : l_J7_fill_53178__56_5 x1 x3 o x2 = some v := h
    have k0 : ∀ (o : OO) (x2 : Int), v = .inl (o, x2) → Go X 5 (wC g ad o) [(0, .ref (ad 56)), (1, iv x1), (2, iv x2), (3, iv x3)] [] := fun o x2 e => kk (o, x2) e
    have k1 : ∀ (o : OO), v = .inr (o) → Go X 20 (wC g ad o) [] [] := fun o e => k1 o (kx _ e).symm
    unfold l_J7_fill_53178__56_5 at h
    refine g_iload_n E gdJ7_fill_53178_5 rfl 2 rfl ?_
    refine g_iload_n E gdJ7_fill_53178_6 rfl 3 rfl ?_
    refine g_icmp_ge E 20 gdJ7_fill_53178_7 (by decide) h (fun h => ?_) (fun h => ?_)
    ·
      refine g_sub E [] rfl ?_
      exact k1 o (Option.some.inj h).symm
    ·
      refine g_aload_n E gdJ7_fill_53178_10 rfl 0 rfl ?_
      refine g_iload_n E gdJ7_fill_53178_11 rfl 2 rfl ?_
      refine g_iload_n E gdJ7_fill_53178_12 rfl 1 rfl ?_
      obtain ⟨hi1, h⟩ := qIn_of h
      obtain ⟨o2, e_o2, h⟩ := qNm_of h
      refine g_iast (ws' := wC g ad o2) E 56 (wC_56 g ad o) (by decide) hi1 (by rw [e_o2]; exact wC_s56 g ad o _ _) gdJ7_fill_53178_13 ?_
      refine g_iinc E [(2, iv (x2 + 1)), (0, .ref (ad 56)), (1, iv x1), (3, iv x3)] gdJ7_fill_53178_14 2 rfl (by decide) rfl ?_
      refine g_goto E 5 gdJ7_fill_53178_17 (by decide) ?_
      refine g_sub E [1, 2, 0, 3] rfl ?_
      exact k0 o2 (x2 + 1) (Option.some.inj h).symm
  have j5 : ∀ (o : OO) (x1 : Int) (x2 : Int) (x3 : Int), e_J7_fill_53178__56_5 o x1 x2 x3 = some v → Go X 5 (wC g ad o) [(0, .ref (ad 56)), (1, iv x1), (2, iv x2), (3, iv x3)] [] := by
    intro o x1 x2 x3 h
    unfold e_J7_fill_53178__56_5 at h
    obtain ⟨r, hr, h⟩ := qB_of h
    refine l5 x1 x3 r _ hr ?_
    ·
      intro u0 e
      have e := e.symm
      subst e
      have h : b_J7_fill_53178__56_20 u0 = some v := h
      exact j20 u0 h
  unfold s_J7_fill_53178__56 at h
  refine g_iconst E gdJ7_fill_53178_0 ?_
  refine g_istore_n E [(2, iv 0), (0, .ref (ad 56)), (1, iv x1)] gdJ7_fill_53178_1 rfl (by decide) rfl ?_
  refine g_aload_n E gdJ7_fill_53178_2 rfl 1 rfl ?_
  refine g_alen (N := 256) E 56 (wC_56 g ad o) gdJ7_fill_53178_3 ?_
  refine g_istore_n E [(3, iv 256), (2, iv 0), (0, .ref (ad 56)), (1, iv x1)] gdJ7_fill_53178_4 rfl (by decide) rfl ?_
  refine g_sub E [2, 3, 1, 0] rfl ?_
  exact j5 o x1 0 256 h
set_option maxHeartbeats 4000000 in
set_option maxRecDepth 100000 in
theorem c_J7_fill_53178__57 (l : Launch) (g : GG) (ad : Nat → Nat) (o : OO) (x1 : Int) (v : OO) (h : s_J7_fill_53178__57 o x1 = some v) : CV l g yJ7_fill_53178 cJ7_fill_53178 4 0 0 (wC g ad o) [.ref (ad 57), iv x1] (wC g ad v) := by
  refine met_V (by decide) (Nat.le_of_ble_eq_true rfl) ?_
  intro X E hQ
  show Go X 0 (wC g ad o) [(0, .ref (ad 57)), (1, iv x1)] []
  have j20 : ∀ (o : OO), b_J7_fill_53178__57_20 o = some v → Go X 20 (wC g ad o) [] [] := by
    intro o h
    unfold b_J7_fill_53178__57_20 at h
    exact g_vret E hQ (by rw [← Option.some.inj h]) gdJ7_fill_53178_20
  have l5 : ∀ (x1 : Int) (x3 : Int) (r : (OO)) (s0 : OO × Int), loopW (fun s => l_J7_fill_53178__57_5 x1 x3 s.1 s.2) s0 = some r → (∀ (o : OO), r = (o) → Go X 20 (wC g ad o) [] []) → Go X 5 (wC g ad s0.1) [(0, .ref (ad 57)), (1, iv x1), (2, iv s0.2), (3, iv x3)] [] := by
    intro x1 x3 r s0 h k1
    refine loop_rule (Head := fun s0 => Go X 5 (wC g ad s0.1) [(0, .ref (ad 57)), (1, iv x1), (2, iv s0.2), (3, iv x3)] []) h ?_
    intro s v h kk kx
    obtain ⟨o, x2⟩ := s
    have h : l_J7_fill_53178__57_5 x1 x3 o x2 = some v := h
    have k0 : ∀ (o : OO) (x2 : Int), v = .inl (o, x2) → Go X 5 (wC g ad o) [(0, .ref (ad 57)), (1, iv x1), (2, iv x2), (3, iv x3)] [] := fun o x2 e => kk (o, x2) e
    have k1 : ∀ (o : OO), v = .inr (o) → Go X 20 (wC g ad o) [] [] := fun o e => k1 o (kx _ e).symm
    unfold l_J7_fill_53178__57_5 at h
    refine g_iload_n E gdJ7_fill_53178_5 rfl 2 rfl ?_
    refine g_iload_n E gdJ7_fill_53178_6 rfl 3 rfl ?_
    refine g_icmp_ge E 20 gdJ7_fill_53178_7 (by decide) h (fun h => ?_) (fun h => ?_)
    ·
      refine g_sub E [] rfl ?_
      exact k1 o (Option.some.inj h).symm
    ·
      refine g_aload_n E gdJ7_fill_53178_10 rfl 0 rfl ?_
      refine g_iload_n E gdJ7_fill_53178_11 rfl 2 rfl ?_
      refine g_iload_n E gdJ7_fill_53178_12 rfl 1 rfl ?_
      obtain ⟨hi1, h⟩ := qIn_of h
      obtain ⟨o2, e_o2, h⟩ := qNm_of h
      refine g_iast (ws' := wC g ad o2) E 57 (wC_57 g ad o) (by decide) hi1 (by rw [e_o2]; exact wC_s57 g ad o _ _) gdJ7_fill_53178_13 ?_
      refine g_iinc E [(2, iv (x2 + 1)), (0, .ref (ad 57)), (1, iv x1), (3, iv x3)] gdJ7_fill_53178_14 2 rfl (by decide) rfl ?_
      refine g_goto E 5 gdJ7_fill_53178_17 (by decide) ?_
      refine g_sub E [1, 2, 0, 3] rfl ?_
      exact k0 o2 (x2 + 1) (Option.some.inj h).symm
  have j5 : ∀ (o : OO) (x1 : Int) (x2 : Int) (x3 : Int), e_J7_fill_53178__57_5 o x1 x2 x3 = some v → Go X 5 (wC g ad o) [(0, .ref (ad 57)), (1, iv x1), (2, iv x2), (3, iv x3)] [] := by
    intro o x1 x2 x3 h
    unfold e_J7_fill_53178__57_5 at h
    obtain ⟨r, hr, h⟩ := qB_of h
    refine l5 x1 x3 r _ hr ?_
    ·
      intro u0 e
      have e := e.symm
      subst e
      have h : b_J7_fill_53178__57_20 u0 = some v := h
      exact j20 u0 h
  unfold s_J7_fill_53178__57 at h
  refine g_iconst E gdJ7_fill_53178_0 ?_
  refine g_istore_n E [(2, iv 0), (0, .ref (ad 57)), (1, iv x1)] gdJ7_fill_53178_1 rfl (by decide) rfl ?_
  refine g_aload_n E gdJ7_fill_53178_2 rfl 1 rfl ?_
  refine g_alen (N := 64) E 57 (wC_57 g ad o) gdJ7_fill_53178_3 ?_
  refine g_istore_n E [(3, iv 64), (2, iv 0), (0, .ref (ad 57)), (1, iv x1)] gdJ7_fill_53178_4 rfl (by decide) rfl ?_
  refine g_sub E [2, 3, 1, 0] rfl ?_
  exact j5 o x1 0 64 h
set_option maxHeartbeats 4000000 in
set_option maxRecDepth 100000 in
theorem c_X3_beside (l : Launch) (g : GG) (ws : va_W) (x0 : Int) (x1 : Int) (v : Int) (h : s_X3_beside x0 x1 = some v) : CI l g yX3_beside cX3_beside 2 (some .int) 0 0 ws [iv x0, iv x1] v ws := by
  refine met_I (by decide) (Nat.le_of_ble_eq_true rfl) ?_
  intro X E hQ
  show Go X 0 ws [(0, iv x0), (1, iv x1)] []
  have j43 : ∀ (y0 : Int), b_X3_beside_43 y0 = some v → Go X 43 ws [] [iv y0] := by
    intro y0 h
    unfold b_X3_beside_43 at h
    exact g_iret E hQ (Option.some.inj h) rfl gdX3_beside_43
  have j59 : ∀ (y0 : Int), b_X3_beside_59 y0 = some v → Go X 59 ws [] [iv y0] := by
    intro y0 h
    unfold b_X3_beside_59 at h
    exact g_iret E hQ (Option.some.inj h) rfl gdX3_beside_59
  have j77 : ∀ (y0 : Int), b_X3_beside_77 y0 = some v → Go X 77 ws [] [iv y0] := by
    intro y0 h
    unfold b_X3_beside_77 at h
    exact g_iret E hQ (Option.some.inj h) rfl gdX3_beside_77
  have j93 : ∀ (y0 : Int), b_X3_beside_93 y0 = some v → Go X 93 ws [] [iv y0] := by
    intro y0 h
    unfold b_X3_beside_93 at h
    exact g_iret E hQ (Option.some.inj h) rfl gdX3_beside_93
  unfold s_X3_beside at h
  refine g_iload_n E gdX3_beside_0 rfl 1 rfl ?_
  obtain ⟨h1, -, ⟨hx, h⟩ | ⟨hx0, h⟩⟩ := qEq_of h
  ·
    refine g_tabIn (kx := 0) (off := 27) E 28 gdX3_beside_1 hx (by decide) (by decide) (by decide) (by decide) (by decide) ?_
    refine g_iload_n E gdX3_beside_28 rfl 0 rfl ?_
    refine g_bipush E gdX3_beside_29 (by decide) ?_
    refine g_icmp_lt E 41 gdX3_beside_31 (by decide) h (fun h => ?_) (fun h => ?_)
    ·
      refine g_bipush E gdX3_beside_41 (by decide) ?_
      refine g_sub E [] rfl ?_
      exact j43 (-9) h
    ·
      refine g_iload_n E gdX3_beside_34 rfl 0 rfl ?_
      refine g_bipush E gdX3_beside_35 (by decide) ?_
      refine g_isub E gdX3_beside_37 ?_
      refine g_goto E 43 gdX3_beside_38 (by decide) ?_
      refine g_sub E [] rfl ?_
      exact j43 (x0 - 8) h
  ·
    obtain ⟨h1, -, ⟨hx, h⟩ | ⟨hx1, h⟩⟩ := qEq_of h
    ·
      refine g_tabIn (kx := 1) (off := 43) E 44 gdX3_beside_1 hx (by decide) (by decide) (by decide) (by decide) (by decide) ?_
      refine g_iload_n E gdX3_beside_44 rfl 0 rfl ?_
      refine g_bipush E gdX3_beside_45 (by decide) ?_
      obtain ⟨hd1, h⟩ := qDv_of h
      refine g_irem E hd1 gdX3_beside_47 ?_
      refine g_if_le E 57 gdX3_beside_48 (by decide) h (fun h => ?_) (fun h => ?_)
      ·
        refine g_bipush E gdX3_beside_57 (by decide) ?_
        refine g_sub E [] rfl ?_
        exact j59 (-9) h
      ·
        refine g_iload_n E gdX3_beside_51 rfl 0 rfl ?_
        refine g_iconst E gdX3_beside_52 ?_
        refine g_isub E gdX3_beside_53 ?_
        refine g_goto E 59 gdX3_beside_54 (by decide) ?_
        refine g_sub E [] rfl ?_
        exact j59 (x0 - 1) h
    ·
      obtain ⟨h1, -, ⟨hx, h⟩ | ⟨hx2, h⟩⟩ := qEq_of h
      ·
        refine g_tabIn (kx := 2) (off := 59) E 60 gdX3_beside_1 hx (by decide) (by decide) (by decide) (by decide) (by decide) ?_
        refine g_iload_n E gdX3_beside_60 rfl 0 rfl ?_
        refine g_bipush E gdX3_beside_61 (by decide) ?_
        obtain ⟨hd2, h⟩ := qDv_of h
        refine g_irem E hd2 gdX3_beside_63 ?_
        refine g_bipush E gdX3_beside_64 (by decide) ?_
        refine g_icmp_ge E 75 gdX3_beside_66 (by decide) h (fun h => ?_) (fun h => ?_)
        ·
          refine g_bipush E gdX3_beside_75 (by decide) ?_
          refine g_sub E [] rfl ?_
          exact j77 (-9) h
        ·
          refine g_iload_n E gdX3_beside_69 rfl 0 rfl ?_
          refine g_iconst E gdX3_beside_70 ?_
          refine g_iadd E gdX3_beside_71 ?_
          refine g_goto E 77 gdX3_beside_72 (by decide) ?_
          refine g_sub E [] rfl ?_
          exact j77 (x0 + 1) h
      ·
        refine g_tabOut E 78 gdX3_beside_1 h1 (by omega) (by decide) ?_
        refine g_iload_n E gdX3_beside_78 rfl 0 rfl ?_
        refine g_bipush E gdX3_beside_79 (by decide) ?_
        refine g_icmp_ge E 91 gdX3_beside_81 (by decide) h (fun h => ?_) (fun h => ?_)
        ·
          refine g_bipush E gdX3_beside_91 (by decide) ?_
          refine g_sub E [] rfl ?_
          exact j93 (-9) h
        ·
          refine g_iload_n E gdX3_beside_84 rfl 0 rfl ?_
          refine g_bipush E gdX3_beside_85 (by decide) ?_
          refine g_iadd E gdX3_beside_87 ?_
          refine g_goto E 93 gdX3_beside_88 (by decide) ?_
          refine g_sub E [] rfl ?_
          exact j93 (x0 + 8) h
set_option maxHeartbeats 4000000 in
set_option maxRecDepth 100000 in
theorem c_X3_slope (l : Launch) (g : GG) (ad : Nat → Nat) (o : OO) (x1 : Int) (x2 : Int) (v : Int) (h : s_X3_slope o x1 x2 = some v) : CI l g yX3_slope cX3_slope 3 (some .int) 1 21 (wC g ad o) [.ref (ad 7), iv x1, iv x2] v (wC g ad o) := by
  refine met_I (by decide) (Nat.le_of_ble_eq_true rfl) ?_
  intro X E hQ
  show Go X 0 (wC g ad o) [(0, .ref (ad 7)), (1, iv x1), (2, iv x2)] []
  unfold s_X3_slope at h
  refine g_aload_n E gdX3_slope_0 rfl 0 rfl ?_
  refine g_get (T := TX3) E fw_X3 7 (wC_7 g ad o) rfl 1 (by decide) w_147 rfl rfl gdX3_slope_1 ?_
  refine g_iload_n E gdX3_slope_4 rfl 1 rfl ?_
  obtain ⟨hi1, h⟩ := qIn_of h
  refine g_iald E 9 (wC_9 g ad o) (by decide) hi1 gdX3_slope_5 ?_
  obtain ⟨n2, e_n2, h⟩ := qNm_of h
  refine g_nmi e_n2 ?_
  refine g_aload_n E gdX3_slope_6 rfl 0 rfl ?_
  refine g_get (T := TX3) E fw_X3 7 (wC_7 g ad o) rfl 1 (by decide) w_147 rfl rfl gdX3_slope_7 ?_
  refine g_iload_n E gdX3_slope_10 rfl 2 rfl ?_
  obtain ⟨hi3, h⟩ := qIn_of h
  refine g_iald E 9 (wC_9 g ad o) (by decide) hi3 gdX3_slope_11 ?_
  obtain ⟨n4, e_n4, h⟩ := qNm_of h
  refine g_nmi e_n4 ?_
  refine g_isub E gdX3_slope_12 ?_
  obtain ⟨ha5, h⟩ := qR_of h
  refine g_mabs E ha5 w_835 w_836 w_91 w_837 (Nat.le_of_ble_eq_true rfl) (Nat.le_of_ble_eq_true rfl) gdX3_slope_13 ?_
  exact g_iret E hQ (Option.some.inj h) rfl gdX3_slope_16
set_option maxHeartbeats 4000000 in
set_option maxRecDepth 100000 in
theorem c_X3_onward (l : Launch) (g : GG) (ad : Nat → Nat) (o : OO) (x1 : Int) (x2 : Int) (x3 : Int) (v : Int) (h : s_X3_onward o x1 x2 x3 = some v) : CI l g yX3_onward cX3_onward 5 (some .int) 2 43 (wC g ad o) [.ref (ad 7), iv x1, iv x2, iv x3] v (wC g ad o) := by
  refine met_I (by decide) (Nat.le_of_ble_eq_true rfl) ?_
  intro X E hQ
  show Go X 0 (wC g ad o) [(0, .ref (ad 7)), (1, iv x1), (2, iv x2), (3, iv x3)] []
  have j34 : b_X3_onward_34 o = some v → Go X 34 (wC g ad o) [] [] := by
    intro h
    unfold b_X3_onward_34 at h
    refine g_bipush E gdX3_onward_34 (by decide) ?_
    exact g_iret E hQ (Option.some.inj h) rfl gdX3_onward_36
  unfold s_X3_onward at h
  refine g_iload_n E gdX3_onward_0 rfl 1 rfl ?_
  refine g_iload_n E gdX3_onward_1 rfl 2 rfl ?_
  obtain ⟨r1, hc2, h⟩ := qB_of h
  refine g_Si (r := r1) (As := [iv x1, iv x2]) (rest := []) (w := wC g ad o) E (c_X3_beside l g (wC g ad o) x1 x2 r1 hc2) okm_X3_beside w_828 w_827 rfl rfl (Nat.le_of_ble_eq_true rfl) ⟨Nat.le_of_ble_eq_true rfl, Nat.le_of_ble_eq_true rfl⟩ gdX3_onward_2 ?_
  refine g_istore E [(4, iv r1), (0, .ref (ad 7)), (1, iv x1), (2, iv x2), (3, iv x3)] gdX3_onward_5 (by decide) rfl ?_
  refine g_iload E gdX3_onward_7 0 rfl ?_
  refine g_bipush E gdX3_onward_9 (by decide) ?_
  refine g_icmp_eq E 34 gdX3_onward_11 (by decide) h (fun h => ?_) (fun h => ?_)
  ·
    refine g_sub E [] rfl ?_
    exact j34  h
  ·
    refine g_aload_n E gdX3_onward_14 rfl 1 rfl ?_
    refine g_iload E gdX3_onward_15 0 rfl ?_
    obtain ⟨r3, hc4, h⟩ := qB_of h
    refine g_Vi (r := r3) (As := [iv r1]) (rest := []) (w := wC g ad o) E (c_X3_isWater l g ad o r1 r3 hc4) okm_X3_isWater okw_X3_isWater w_830 rfl (wC_7 g ad o) rfl rfl (Nat.le_of_ble_eq_true rfl) ⟨Nat.le_of_ble_eq_true rfl, Nat.le_of_ble_eq_true rfl⟩ gdX3_onward_17 ?_
    refine g_if_ne E 34 gdX3_onward_20 (by decide) h (fun h => ?_) (fun h => ?_)
    ·
      refine g_sub E [] rfl ?_
      exact j34  h
    ·
      refine g_aload_n E gdX3_onward_23 rfl 1 rfl ?_
      refine g_iload_n E gdX3_onward_24 rfl 2 rfl ?_
      refine g_iload E gdX3_onward_25 0 rfl ?_
      obtain ⟨r5, hc6, h⟩ := qB_of h
      refine g_Vi (r := r5) (As := [iv x1, iv r1]) (rest := []) (w := wC g ad o) E (c_X3_slope l g ad o x1 r1 r5 hc6) okm_X3_slope okw_X3_slope w_831 rfl (wC_7 g ad o) rfl rfl (Nat.le_of_ble_eq_true rfl) ⟨Nat.le_of_ble_eq_true rfl, Nat.le_of_ble_eq_true rfl⟩ gdX3_onward_27 ?_
      refine g_iload_n E gdX3_onward_30 rfl 4 rfl ?_
      refine g_icmp_le E 37 gdX3_onward_31 (by decide) h (fun h => ?_) (fun h => ?_)
      ·
        refine g_iload E gdX3_onward_37 0 rfl ?_
        exact g_iret E hQ (Option.some.inj h) rfl gdX3_onward_39
      ·
        refine g_sub E [] rfl ?_
        exact j34  h
set_option maxHeartbeats 4000000 in
set_option maxRecDepth 100000 in
theorem c_X10_rouseBeside (l : Launch) (g : GG) (ad : Nat → Nat) (o : OO) (x2 : Int) (x3 : Int) (v : OO) (h : s_X10_rouseBeside o x2 x3 = some v) : CV l g yX10_rouseBeside cX10_rouseBeside 6 3 67 (wC g ad o) [.ref (ad 53), .ref (ad 7), iv x2, iv x3] (wC g ad v) := by
  refine met_V (by decide) (Nat.le_of_ble_eq_true rfl) ?_
  intro X E hQ
  show Go X 0 (wC g ad o) [(0, .ref (ad 53)), (1, .ref (ad 7)), (2, iv x2), (3, iv x3)] []
  have j99 : ∀ (o : OO), b_X10_rouseBeside_99 o = some v → Go X 99 (wC g ad o) [] [] := by
    intro o h
    unfold b_X10_rouseBeside_99 at h
    exact g_vret E hQ (by rw [← Option.some.inj h]) gdX10_rouseBeside_99
  have j93 : ∀ (o : OO) (x2 : Int) (x3 : Int) (x4 : Int) (v : (OO × Int) ⊕ ((OO))), b_X10_rouseBeside_93 o x2 x3 x4 = some v → (∀ (o : OO) (x4 : Int), v = .inl (o, x4) → Go X 3 (wC g ad o) [(0, .ref (ad 53)), (1, .ref (ad 7)), (2, iv x2), (3, iv x3), (4, iv x4)] []) → (∀ (o : OO), v = .inr (o) → Go X 99 (wC g ad o) [] []) → Go X 93 (wC g ad o) [(0, .ref (ad 53)), (1, .ref (ad 7)), (2, iv x2), (3, iv x3), (4, iv x4)] [] := by
    intro o x2 x3 x4 v h k0 k1
    unfold b_X10_rouseBeside_93 at h
    refine g_iinc E [(4, iv (x4 + 1)), (0, .ref (ad 53)), (1, .ref (ad 7)), (2, iv x2), (3, iv x3)] gdX10_rouseBeside_93 4 rfl (by decide) rfl ?_
    refine g_goto E 3 gdX10_rouseBeside_96 (by decide) ?_
    refine g_sub E [1, 2, 3, 4, 0] rfl ?_
    exact k0 o (x4 + 1) (Option.some.inj h).symm
  have l3 : ∀ (x2 : Int) (x3 : Int) (r : (OO)) (s0 : OO × Int), loopW (fun s => l_X10_rouseBeside_3 x2 x3 s.1 s.2) s0 = some r → (∀ (o : OO), r = (o) → Go X 99 (wC g ad o) [] []) → Go X 3 (wC g ad s0.1) [(0, .ref (ad 53)), (1, .ref (ad 7)), (2, iv x2), (3, iv x3), (4, iv s0.2)] [] := by
    intro x2 x3 r s0 h k1
    refine loop_rule (Head := fun s0 => Go X 3 (wC g ad s0.1) [(0, .ref (ad 53)), (1, .ref (ad 7)), (2, iv x2), (3, iv x3), (4, iv s0.2)] []) h ?_
    intro s v h kk kx
    obtain ⟨o, x4⟩ := s
    have h : l_X10_rouseBeside_3 x2 x3 o x4 = some v := h
    have k0 : ∀ (o : OO) (x4 : Int), v = .inl (o, x4) → Go X 3 (wC g ad o) [(0, .ref (ad 53)), (1, .ref (ad 7)), (2, iv x2), (3, iv x3), (4, iv x4)] [] := fun o x4 e => kk (o, x4) e
    have k1 : ∀ (o : OO), v = .inr (o) → Go X 99 (wC g ad o) [] [] := fun o e => k1 o (kx _ e).symm
    unfold l_X10_rouseBeside_3 at h
    refine g_iload E gdX10_rouseBeside_3 4 rfl ?_
    refine g_iconst E gdX10_rouseBeside_5 ?_
    refine g_icmp_ge E 99 gdX10_rouseBeside_6 (by decide) h (fun h => ?_) (fun h => ?_)
    ·
      refine g_sub E [] rfl ?_
      exact k1 o (Option.some.inj h).symm
    ·
      refine g_aload_n E gdX10_rouseBeside_9 rfl 1 rfl ?_
      refine g_iload_n E gdX10_rouseBeside_10 rfl 3 rfl ?_
      refine g_iload E gdX10_rouseBeside_11 4 rfl ?_
      refine g_iload_n E gdX10_rouseBeside_13 rfl 2 rfl ?_
      obtain ⟨r1, hc2, h⟩ := qB_of h
      refine g_Vi (r := r1) (As := [iv x3, iv x4, iv x2]) (rest := []) (w := wC g ad o) E (c_X3_onward l g ad o x3 x4 x2 r1 hc2) okm_X3_onward okw_X3_onward w_823 rfl (wC_7 g ad o) rfl rfl (Nat.le_of_ble_eq_true rfl) ⟨Nat.le_of_ble_eq_true rfl, Nat.le_of_ble_eq_true rfl⟩ gdX10_rouseBeside_14 ?_
      refine g_istore E [(5, iv r1), (0, .ref (ad 53)), (1, .ref (ad 7)), (2, iv x2), (3, iv x3), (4, iv x4)] gdX10_rouseBeside_17 (by decide) rfl ?_
      refine g_iload E gdX10_rouseBeside_19 0 rfl ?_
      refine g_bipush E gdX10_rouseBeside_21 (by decide) ?_
      refine g_icmp_eq E 93 gdX10_rouseBeside_23 (by decide) h (fun h => ?_) (fun h => ?_)
      ·
        refine g_sub E [1, 2, 3, 4, 5] rfl ?_
        exact j93 o x2 x3 x4 v h k0 k1
      ·
        refine g_iload E gdX10_rouseBeside_26 0 rfl ?_
        refine g_aload_n E gdX10_rouseBeside_28 rfl 1 rfl ?_
        refine g_get (T := TX10) E fw_X10 53 (wC_53 g ad o) rfl 10 (by decide) w_346 rfl rfl gdX10_rouseBeside_29 ?_
        refine g_icmp_eq E 93 gdX10_rouseBeside_32 (by decide) h (fun h => ?_) (fun h => ?_)
        ·
          refine g_sub E [1, 2, 3, 4, 5] rfl ?_
          exact j93 o x2 x3 x4 v h k0 k1
        ·
          refine g_aload_n E gdX10_rouseBeside_35 rfl 1 rfl ?_
          refine g_get (T := TX10) E fw_X10 53 (wC_53 g ad o) rfl 7 (by decide) w_343 rfl rfl gdX10_rouseBeside_36 ?_
          refine g_iload E gdX10_rouseBeside_39 0 rfl ?_
          obtain ⟨r3, hc4, h⟩ := qB_of h
          refine g_Si (r := r3) (As := [.long (o.2 53 7), iv r1]) (rest := []) (w := wC g ad o) E (c_X3_has l g (wC g ad o) (o.2 53 7) r1 r3 hc4) okm_X3_has w_839 w_838 rfl rfl (Nat.le_of_ble_eq_true rfl) ⟨Nat.le_of_ble_eq_true rfl, Nat.le_of_ble_eq_true rfl⟩ gdX10_rouseBeside_41 ?_
          refine g_if_eq E 50 gdX10_rouseBeside_44 (by decide) h (fun h => ?_) (fun h => ?_)
          ·
            refine g_aload_n E gdX10_rouseBeside_50 rfl 1 rfl ?_
            refine g_get (T := TX10) E fw_X10 53 (wC_53 g ad o) rfl 6 (by decide) w_342 rfl rfl gdX10_rouseBeside_51 ?_
            refine g_aload_n E gdX10_rouseBeside_54 rfl 1 rfl ?_
            refine g_get (T := TX10) E fw_X10 53 (wC_53 g ad o) rfl 8 (by decide) w_344 rfl rfl gdX10_rouseBeside_55 ?_
            refine g_aload_n E gdX10_rouseBeside_58 rfl 1 rfl ?_
            refine g_get (T := TX10) E fw_X10 53 (wC_53 g ad o) rfl 9 (by decide) w_345 rfl rfl gdX10_rouseBeside_59 ?_
            refine g_iadd E gdX10_rouseBeside_62 ?_
            refine g_bipush E gdX10_rouseBeside_63 (by decide) ?_
            obtain ⟨hd5, h⟩ := qDv_of h
            refine g_irem E hd5 gdX10_rouseBeside_65 ?_
            refine g_iload E gdX10_rouseBeside_66 0 rfl ?_
            obtain ⟨hi6, h⟩ := qIn_of h
            obtain ⟨o7, e_o7, h⟩ := qNm_of h
            refine g_iast (ws' := wC g ad o7) E 58 (wC_58 g ad o) (by decide) hi6 (by rw [e_o7]; exact wC_s58 g ad o _ _) gdX10_rouseBeside_68 ?_
            refine g_aload_n E gdX10_rouseBeside_69 rfl 1 rfl ?_
            refine g_dup E gdX10_rouseBeside_70 rfl ?_
            refine g_get (T := TX10) E fw_X10 53 (wC_53 g ad o7) rfl 9 (by decide) w_345 rfl rfl gdX10_rouseBeside_71 ?_
            refine g_iconst E gdX10_rouseBeside_74 ?_
            refine g_iadd E gdX10_rouseBeside_75 ?_
            obtain ⟨o8, e_o8, h⟩ := qNm_of h
            refine g_puti (T := TX10) (ws' := wC g ad o8) E fw_X10 tyX10 tyX10_ok nmX10 53 (wC_53 g ad o7) rfl 9 (by decide) w_345 rfl rfl (by decide +kernel) (Nat.le_of_ble_eq_true rfl) (by rw [e_o8]; exact wC_p53_9 g ad o7 _) gdX10_rouseBeside_76 ?_
            refine g_aload_n E gdX10_rouseBeside_79 rfl 1 rfl ?_
            refine g_dup E gdX10_rouseBeside_80 rfl ?_
            refine g_get (T := TX10) E fw_X10 53 (wC_53 g ad o8) rfl 7 (by decide) w_343 rfl rfl gdX10_rouseBeside_81 ?_
            refine g_iload E gdX10_rouseBeside_84 0 rfl ?_
            obtain ⟨p9, hc10, h⟩ := qB_of h
            refine g_Sl (r := p9) (As := [iv r1]) (rest := [.long (o8.2 53 7), .ref (ad 53)]) (w := wC g ad o8) E (c_X3_bit l g (wC g ad o8) r1 p9 hc10) okm_X3_bit w_842 w_841 rfl rfl (Nat.le_of_ble_eq_true rfl) ⟨Nat.le_of_ble_eq_true rfl, Nat.le_of_ble_eq_true rfl⟩ gdX10_rouseBeside_86 ?_
            refine g_lor E gdX10_rouseBeside_89 ?_
            obtain ⟨o11, e_o11, h⟩ := qNm_of h
            refine g_putl (T := TX10) (ws' := wC g ad o11) E fw_X10 tyX10 tyX10_ok nmX10 53 (wC_53 g ad o8) rfl 7 (by decide) w_343 rfl rfl (by decide +kernel) (Nat.le_of_ble_eq_true rfl) (by rw [e_o11]; exact wC_p53_7 g ad o8 _) gdX10_rouseBeside_90 ?_
            refine g_sub E [1, 2, 3, 4, 5] rfl ?_
            exact j93 o11 x2 x3 x4 v h k0 k1
          ·
            refine g_goto E 93 gdX10_rouseBeside_47 (by decide) ?_
            refine g_sub E [1, 2, 3, 4, 5] rfl ?_
            exact j93 o x2 x3 x4 v h k0 k1
  have j3 : ∀ (o : OO) (x2 : Int) (x3 : Int) (x4 : Int), e_X10_rouseBeside_3 o x2 x3 x4 = some v → Go X 3 (wC g ad o) [(0, .ref (ad 53)), (1, .ref (ad 7)), (2, iv x2), (3, iv x3), (4, iv x4)] [] := by
    intro o x2 x3 x4 h
    unfold e_X10_rouseBeside_3 at h
    obtain ⟨r, hr, h⟩ := qB_of h
    refine l3 x2 x3 r _ hr ?_
    ·
      intro u0 e
      have e := e.symm
      subst e
      have h : b_X10_rouseBeside_99 u0 = some v := h
      exact j99 u0 h
  unfold s_X10_rouseBeside at h
  refine g_iconst E gdX10_rouseBeside_0 ?_
  refine g_istore E [(4, iv 0), (0, .ref (ad 53)), (1, .ref (ad 7)), (2, iv x2), (3, iv x3)] gdX10_rouseBeside_1 (by decide) rfl ?_
  refine g_sub E [1, 2, 3, 4, 0] rfl ?_
  exact j3 o x2 x3 0 h
set_option maxHeartbeats 4000000 in
set_option maxRecDepth 100000 in
theorem c_X10_next (l : Launch) (g : GG) (ad : Nat → Nat) (o : OO) (v : Int × OO) (h : s_X10_next o = some v) : CI l g yX10_next cX10_next 2 (some .int) 1 20 (wC g ad o) [.ref (ad 53)] v.1 (wC g ad v.2) := by
  refine met_I (by decide) (Nat.le_of_ble_eq_true rfl) ?_
  intro X E hQ
  show Go X 0 (wC g ad o) [(0, .ref (ad 53))] []
  unfold s_X10_next at h
  refine g_aload_n E gdX10_next_0 rfl 0 rfl ?_
  refine g_get (T := TX10) E fw_X10 53 (wC_53 g ad o) rfl 6 (by decide) w_342 rfl rfl gdX10_next_1 ?_
  refine g_aload_n E gdX10_next_4 rfl 0 rfl ?_
  refine g_get (T := TX10) E fw_X10 53 (wC_53 g ad o) rfl 8 (by decide) w_344 rfl rfl gdX10_next_5 ?_
  obtain ⟨hi1, h⟩ := qIn_of h
  refine g_iald E 58 (wC_58 g ad o) (by decide) hi1 gdX10_next_8 ?_
  obtain ⟨n2, e_n2, h⟩ := qNm_of h
  refine g_nmi e_n2 ?_
  refine g_istore_n E [(1, iv n2), (0, .ref (ad 53))] gdX10_next_9 rfl (by decide) rfl ?_
  refine g_aload_n E gdX10_next_10 rfl 1 rfl ?_
  refine g_aload_n E gdX10_next_11 rfl 1 rfl ?_
  refine g_get (T := TX10) E fw_X10 53 (wC_53 g ad o) rfl 8 (by decide) w_344 rfl rfl gdX10_next_12 ?_
  refine g_iconst E gdX10_next_15 ?_
  refine g_iadd E gdX10_next_16 ?_
  refine g_bipush E gdX10_next_17 (by decide) ?_
  obtain ⟨hd3, h⟩ := qDv_of h
  refine g_irem E hd3 gdX10_next_19 ?_
  obtain ⟨o4, e_o4, h⟩ := qNm_of h
  refine g_puti (T := TX10) (ws' := wC g ad o4) E fw_X10 tyX10 tyX10_ok nmX10 53 (wC_53 g ad o) rfl 8 (by decide) w_344 rfl rfl (by decide +kernel) (Nat.le_of_ble_eq_true rfl) (by rw [e_o4]; exact wC_p53_8 g ad o _) gdX10_next_20 ?_
  refine g_aload_n E gdX10_next_23 rfl 1 rfl ?_
  refine g_dup E gdX10_next_24 rfl ?_
  refine g_get (T := TX10) E fw_X10 53 (wC_53 g ad o4) rfl 9 (by decide) w_345 rfl rfl gdX10_next_25 ?_
  refine g_iconst E gdX10_next_28 ?_
  refine g_isub E gdX10_next_29 ?_
  obtain ⟨o5, e_o5, h⟩ := qNm_of h
  refine g_puti (T := TX10) (ws' := wC g ad o5) E fw_X10 tyX10 tyX10_ok nmX10 53 (wC_53 g ad o4) rfl 9 (by decide) w_345 rfl rfl (by decide +kernel) (Nat.le_of_ble_eq_true rfl) (by rw [e_o5]; exact wC_p53_9 g ad o4 _) gdX10_next_30 ?_
  refine g_aload_n E gdX10_next_33 rfl 1 rfl ?_
  refine g_dup E gdX10_next_34 rfl ?_
  refine g_get (T := TX10) E fw_X10 53 (wC_53 g ad o5) rfl 7 (by decide) w_343 rfl rfl gdX10_next_35 ?_
  refine g_iload_n E gdX10_next_38 rfl 0 rfl ?_
  obtain ⟨p6, hc7, h⟩ := qB_of h
  refine g_Sl (r := p6) (As := [iv n2]) (rest := [.long (o5.2 53 7), .ref (ad 53)]) (w := wC g ad o5) E (c_X3_bit l g (wC g ad o5) n2 p6 hc7) okm_X3_bit w_842 w_841 rfl rfl (Nat.le_of_ble_eq_true rfl) ⟨Nat.le_of_ble_eq_true rfl, Nat.le_of_ble_eq_true rfl⟩ gdX10_next_39 ?_
  refine g_ldc2 E gdX10_next_42 w_849 ?_
  refine g_lxor E gdX10_next_45 ?_
  refine g_land E gdX10_next_46 ?_
  obtain ⟨o8, e_o8, h⟩ := qNm_of h
  refine g_putl (T := TX10) (ws' := wC g ad o8) E fw_X10 tyX10 tyX10_ok nmX10 53 (wC_53 g ad o5) rfl 7 (by decide) w_343 rfl rfl (by decide +kernel) (Nat.le_of_ble_eq_true rfl) (by rw [e_o8]; exact wC_p53_7 g ad o5 _) gdX10_next_47 ?_
  refine g_iload_n E gdX10_next_50 rfl 0 rfl ?_
  exact g_iret E hQ (by rw [← Option.some.inj h]) (by rw [← Option.some.inj h]) gdX10_next_51
set_option maxHeartbeats 4000000 in
set_option maxRecDepth 100000 in
theorem c_X10_rest (l : Launch) (g : GG) (ad : Nat → Nat) (o : OO) (x1 : Int) (x2 : Int) (v : Int) (h : s_X10_rest o x1 x2 = some v) : CI l g yX10_rest cX10_rest 3 (some .int) 1 21 (wC g ad o) [.ref (ad 53), iv x1, iv x2] v (wC g ad o) := by
  refine met_I (by decide) (Nat.le_of_ble_eq_true rfl) ?_
  intro X E hQ
  show Go X 0 (wC g ad o) [(0, .ref (ad 53)), (1, iv x1), (2, iv x2)] []
  have j33 : ∀ (y0 : Int), b_X10_rest_33 o y0 = some v → Go X 33 (wC g ad o) [] [iv y0] := by
    intro y0 h
    unfold b_X10_rest_33 at h
    exact g_iret E hQ (Option.some.inj h) rfl gdX10_rest_33
  unfold s_X10_rest at h
  refine g_iload_n E gdX10_rest_0 rfl 1 rfl ?_
  refine g_aload_n E gdX10_rest_1 rfl 0 rfl ?_
  refine g_get (T := TX10) E fw_X10 53 (wC_53 g ad o) rfl 10 (by decide) w_346 rfl rfl gdX10_rest_2 ?_
  refine g_icmp_ne E 12 gdX10_rest_5 (by decide) h (fun h => ?_) (fun h => ?_)
  ·
    refine g_aload_n E gdX10_rest_12 rfl 0 rfl ?_
    refine g_get (T := TX10) E fw_X10 53 (wC_53 g ad o) rfl 4 (by decide) w_340 rfl rfl gdX10_rest_13 ?_
    refine g_iload_n E gdX10_rest_16 rfl 1 rfl ?_
    refine g_iconst E gdX10_rest_17 ?_
    refine g_imul E gdX10_rest_18 ?_
    refine g_iload_n E gdX10_rest_19 rfl 2 rfl ?_
    refine g_iadd E gdX10_rest_20 ?_
    obtain ⟨hi1, h⟩ := qIn_of h
    refine g_iald E 56 (wC_56 g ad o) (by decide) hi1 gdX10_rest_21 ?_
    obtain ⟨n2, e_n2, h⟩ := qNm_of h
    refine g_nmi e_n2 ?_
    refine g_aload_n E gdX10_rest_22 rfl 0 rfl ?_
    refine g_get (T := TX10) E fw_X10 53 (wC_53 g ad o) rfl 5 (by decide) w_341 rfl rfl gdX10_rest_23 ?_
    refine g_iload_n E gdX10_rest_26 rfl 1 rfl ?_
    obtain ⟨hi3, h⟩ := qIn_of h
    refine g_iald E 57 (wC_57 g ad o) (by decide) hi3 gdX10_rest_27 ?_
    obtain ⟨n4, e_n4, h⟩ := qNm_of h
    refine g_nmi e_n4 ?_
    refine g_iconst E gdX10_rest_28 ?_
    refine g_iadd E gdX10_rest_29 ?_
    obtain ⟨ha5, h⟩ := qR_of h
    obtain ⟨ha6, h⟩ := qR_of h
    refine g_mmin E ha5 ha6 w_858 w_121 w_91 w_122 (Nat.le_of_ble_eq_true rfl) (Nat.le_of_ble_eq_true rfl) gdX10_rest_30 ?_
    refine g_sub E [] rfl ?_
    exact j33 (min n2 (n4 + 5)) h
  ·
    refine g_iconst E gdX10_rest_8 ?_
    refine g_goto E 33 gdX10_rest_9 (by decide) ?_
    refine g_sub E [] rfl ?_
    exact j33 0 h
set_option maxHeartbeats 4000000 in
set_option maxRecDepth 100000 in
theorem c_X10_improve (l : Launch) (g : GG) (ad : Nat → Nat) (o : OO) (x2 : Int) (x3 : Int) (v : Int × OO) (h : s_X10_improve o x2 x3 = some v) : CI l g yX10_improve cX10_improve 8 (some .boolean) 3 67 (wC g ad o) [.ref (ad 53), .ref (ad 7), iv x2, iv x3] v.1 (wC g ad v.2) := by
  refine met_I (by decide) (Nat.le_of_ble_eq_true rfl) ?_
  intro X E hQ
  show Go X 0 (wC g ad o) [(0, .ref (ad 53)), (1, .ref (ad 7)), (2, iv x2), (3, iv x3)] []
  have j132 : ∀ (o : OO) (x4 : Int), b_X10_improve_132 o x4 = some v → Go X 132 (wC g ad o) [(4, iv x4)] [] := by
    intro o x4 h
    unfold b_X10_improve_132 at h
    refine g_iload E gdX10_improve_132 0 rfl ?_
    obtain ⟨hz, h⟩ := qZ_of h
    exact g_zret E hQ hz (by rw [← Option.some.inj h]) (by rw [← Option.some.inj h]) gdX10_improve_134
  have j126 : ∀ (o : OO) (x2 : Int) (x3 : Int) (x4 : Int) (x5 : Int) (v : (OO × Int × Int) ⊕ ((OO × Int))), b_X10_improve_126 o x2 x3 x4 x5 = some v → (∀ (o : OO) (x4 : Int) (x5 : Int), v = .inl (o, x4, x5) → Go X 6 (wC g ad o) [(0, .ref (ad 53)), (1, .ref (ad 7)), (2, iv x2), (3, iv x3), (4, iv x4), (5, iv x5)] []) → (∀ (o : OO) (x4 : Int), v = .inr ((o, x4)) → Go X 132 (wC g ad o) [(4, iv x4)] []) → Go X 126 (wC g ad o) [(0, .ref (ad 53)), (1, .ref (ad 7)), (2, iv x2), (3, iv x3), (4, iv x4), (5, iv x5)] [] := by
    intro o x2 x3 x4 x5 v h k0 k1
    unfold b_X10_improve_126 at h
    refine g_iinc E [(5, iv (x5 + 1)), (0, .ref (ad 53)), (1, .ref (ad 7)), (2, iv x2), (3, iv x3), (4, iv x4)] gdX10_improve_126 5 rfl (by decide) rfl ?_
    refine g_goto E 6 gdX10_improve_129 (by decide) ?_
    refine g_sub E [1, 2, 3, 4, 5, 0] rfl ?_
    exact k0 o x4 (x5 + 1) (Option.some.inj h).symm
  have l6 : ∀ (x2 : Int) (x3 : Int) (r : (OO × Int)) (s0 : OO × Int × Int), loopW (fun s => l_X10_improve_6 x2 x3 s.1 s.2.1 s.2.2) s0 = some r → (∀ (o : OO) (x4 : Int), r = ((o, x4)) → Go X 132 (wC g ad o) [(4, iv x4)] []) → Go X 6 (wC g ad s0.1) [(0, .ref (ad 53)), (1, .ref (ad 7)), (2, iv x2), (3, iv x3), (4, iv s0.2.1), (5, iv s0.2.2)] [] := by
    intro x2 x3 r s0 h k1
    refine loop_rule (Head := fun s0 => Go X 6 (wC g ad s0.1) [(0, .ref (ad 53)), (1, .ref (ad 7)), (2, iv x2), (3, iv x3), (4, iv s0.2.1), (5, iv s0.2.2)] []) h ?_
    intro s v h kk kx
    obtain ⟨o, x4, x5⟩ := s
    have h : l_X10_improve_6 x2 x3 o x4 x5 = some v := h
    have k0 : ∀ (o : OO) (x4 : Int) (x5 : Int), v = .inl (o, x4, x5) → Go X 6 (wC g ad o) [(0, .ref (ad 53)), (1, .ref (ad 7)), (2, iv x2), (3, iv x3), (4, iv x4), (5, iv x5)] [] := fun o x4 x5 e => kk (o, x4, x5) e
    have k1 : ∀ (o : OO) (x4 : Int), v = .inr ((o, x4)) → Go X 132 (wC g ad o) [(4, iv x4)] [] := fun o x4 e => k1 o x4 (kx _ e).symm
    unfold l_X10_improve_6 at h
    refine g_iload E gdX10_improve_6 5 rfl ?_
    refine g_iconst E gdX10_improve_8 ?_
    refine g_icmp_ge E 132 gdX10_improve_9 (by decide) h (fun h => ?_) (fun h => ?_)
    ·
      refine g_sub E [4] rfl ?_
      exact k1 o x4 (Option.some.inj h).symm
    ·
      refine g_aload_n E gdX10_improve_12 rfl 1 rfl ?_
      refine g_iload_n E gdX10_improve_13 rfl 3 rfl ?_
      refine g_iload E gdX10_improve_14 5 rfl ?_
      refine g_iload_n E gdX10_improve_16 rfl 2 rfl ?_
      obtain ⟨r1, hc2, h⟩ := qB_of h
      refine g_Vi (r := r1) (As := [iv x3, iv x5, iv x2]) (rest := []) (w := wC g ad o) E (c_X3_onward l g ad o x3 x5 x2 r1 hc2) okm_X3_onward okw_X3_onward w_823 rfl (wC_7 g ad o) rfl rfl (Nat.le_of_ble_eq_true rfl) ⟨Nat.le_of_ble_eq_true rfl, Nat.le_of_ble_eq_true rfl⟩ gdX10_improve_17 ?_
      refine g_istore E [(6, iv r1), (0, .ref (ad 53)), (1, .ref (ad 7)), (2, iv x2), (3, iv x3), (4, iv x4), (5, iv x5)] gdX10_improve_20 (by decide) rfl ?_
      refine g_iload E gdX10_improve_22 0 rfl ?_
      refine g_bipush E gdX10_improve_24 (by decide) ?_
      refine g_icmp_eq E 126 gdX10_improve_26 (by decide) h (fun h => ?_) (fun h => ?_)
      ·
        refine g_sub E [1, 2, 3, 4, 5, 6] rfl ?_
        exact j126 o x2 x3 x4 x5 v h k0 k1
      ·
        refine g_aload_n E gdX10_improve_29 rfl 1 rfl ?_
        refine g_iload E gdX10_improve_30 0 rfl ?_
        refine g_iload E gdX10_improve_32 6 rfl ?_
        obtain ⟨r3, hc4, h⟩ := qB_of h
        refine g_Vi (r := r3) (As := [iv r1, iv x5]) (rest := []) (w := wC g ad o) E (c_X10_rest l g ad o r1 x5 r3 hc4) okm_X10_rest okw_X10_rest w_854 rfl (wC_53 g ad o) rfl rfl (Nat.le_of_ble_eq_true rfl) ⟨Nat.le_of_ble_eq_true rfl, Nat.le_of_ble_eq_true rfl⟩ gdX10_improve_34 ?_
        refine g_ldc (k := 1000000000) E gdX10_improve_37 w_817 (by decide) ?_
        refine g_icmp_lt E 45 gdX10_improve_39 (by decide) h (fun h => ?_) (fun h => ?_)
        ·
          refine g_aload_n E gdX10_improve_45 rfl 1 rfl ?_
          refine g_get (T := TX10) E fw_X10 53 (wC_53 g ad o) rfl 0 (by decide) w_332 rfl rfl gdX10_improve_46 ?_
          refine g_iload E gdX10_improve_49 0 rfl ?_
          obtain ⟨hi5, h⟩ := qIn_of h
          refine g_iald E 54 (wC_54 g ad o) (by decide) hi5 gdX10_improve_51 ?_
          obtain ⟨n6, e_n6, h⟩ := qNm_of h
          refine g_nmi e_n6 ?_
          refine g_bipush E gdX10_improve_52 (by decide) ?_
          refine g_aload_n E gdX10_improve_54 rfl 2 rfl ?_
          refine g_iload_n E gdX10_improve_55 rfl 4 rfl ?_
          refine g_iload E gdX10_improve_56 0 rfl ?_
          obtain ⟨r7, hc8, h⟩ := qB_of h
          refine g_Vi (r := r7) (As := [iv x3, iv r1]) (rest := [iv 10, iv n6]) (w := wC g ad o) E (c_X3_slope l g ad o x3 r1 r7 hc8) okm_X3_slope okw_X3_slope w_859 rfl (wC_7 g ad o) rfl rfl (Nat.le_of_ble_eq_true rfl) ⟨Nat.le_of_ble_eq_true rfl, Nat.le_of_ble_eq_true rfl⟩ gdX10_improve_58 ?_
          refine g_imul E gdX10_improve_61 ?_
          refine g_iadd E gdX10_improve_62 ?_
          refine g_aload_n E gdX10_improve_63 rfl 1 rfl ?_
          refine g_iload E gdX10_improve_64 0 rfl ?_
          refine g_iload E gdX10_improve_66 6 rfl ?_
          obtain ⟨r9, hc10, h⟩ := qB_of h
          refine g_Vi (r := r9) (As := [iv r1, iv x5]) (rest := [iv (n6 + (10 * r7))]) (w := wC g ad o) E (c_X10_rest l g ad o r1 x5 r9 hc10) okm_X10_rest okw_X10_rest w_854 rfl (wC_53 g ad o) rfl rfl (Nat.le_of_ble_eq_true rfl) ⟨Nat.le_of_ble_eq_true rfl, Nat.le_of_ble_eq_true rfl⟩ gdX10_improve_68 ?_
          refine g_iadd E gdX10_improve_71 ?_
          obtain ⟨n11, e_n11, h⟩ := qNm_of h
          refine g_nmi e_n11 ?_
          refine g_istore E [(7, iv n11), (6, iv r1), (0, .ref (ad 53)), (1, .ref (ad 7)), (2, iv x2), (3, iv x3), (4, iv x4), (5, iv x5)] gdX10_improve_72 (by decide) rfl ?_
          refine g_iload E gdX10_improve_74 0 rfl ?_
          refine g_aload_n E gdX10_improve_76 rfl 2 rfl ?_
          refine g_get (T := TX10) E fw_X10 53 (wC_53 g ad o) rfl 4 (by decide) w_340 rfl rfl gdX10_improve_77 ?_
          refine g_iload_n E gdX10_improve_80 rfl 5 rfl ?_
          refine g_iconst E gdX10_improve_81 ?_
          refine g_imul E gdX10_improve_82 ?_
          refine g_iload E gdX10_improve_83 7 rfl ?_
          refine g_iadd E gdX10_improve_85 ?_
          obtain ⟨hi12, h⟩ := qIn_of h
          refine g_iald E 56 (wC_56 g ad o) (by decide) hi12 gdX10_improve_86 ?_
          obtain ⟨n13, e_n13, h⟩ := qNm_of h
          refine g_nmi e_n13 ?_
          refine g_icmp_lt E 93 gdX10_improve_87 (by decide) h (fun h => ?_) (fun h => ?_)
          ·
            refine g_aload_n E gdX10_improve_93 rfl 2 rfl ?_
            refine g_get (T := TX10) E fw_X10 53 (wC_53 g ad o) rfl 4 (by decide) w_340 rfl rfl gdX10_improve_94 ?_
            refine g_iload_n E gdX10_improve_97 rfl 5 rfl ?_
            refine g_iconst E gdX10_improve_98 ?_
            refine g_imul E gdX10_improve_99 ?_
            refine g_iload E gdX10_improve_100 7 rfl ?_
            refine g_iadd E gdX10_improve_102 ?_
            refine g_iload E gdX10_improve_103 0 rfl ?_
            obtain ⟨hi14, h⟩ := qIn_of h
            obtain ⟨o15, e_o15, h⟩ := qNm_of h
            refine g_iast (ws' := wC g ad o15) E 56 (wC_56 g ad o) (by decide) hi14 (by rw [e_o15]; exact wC_s56 g ad o _ _) gdX10_improve_105 ?_
            refine g_aload_n E gdX10_improve_106 rfl 2 rfl ?_
            refine g_get (T := TX10) E fw_X10 53 (wC_53 g ad o15) rfl 5 (by decide) w_341 rfl rfl gdX10_improve_107 ?_
            refine g_iload_n E gdX10_improve_110 rfl 5 rfl ?_
            refine g_aload_n E gdX10_improve_111 rfl 2 rfl ?_
            refine g_get (T := TX10) E fw_X10 53 (wC_53 g ad o15) rfl 5 (by decide) w_341 rfl rfl gdX10_improve_112 ?_
            refine g_iload_n E gdX10_improve_115 rfl 5 rfl ?_
            obtain ⟨hi16, h⟩ := qIn_of h
            refine g_iald E 57 (wC_57 g ad o15) (by decide) hi16 gdX10_improve_116 ?_
            obtain ⟨n17, e_n17, h⟩ := qNm_of h
            refine g_nmi e_n17 ?_
            refine g_iload E gdX10_improve_117 0 rfl ?_
            obtain ⟨ha18, h⟩ := qR_of h
            obtain ⟨ha19, h⟩ := qR_of h
            refine g_mmin E ha18 ha19 w_858 w_121 w_91 w_122 (Nat.le_of_ble_eq_true rfl) (Nat.le_of_ble_eq_true rfl) gdX10_improve_119 ?_
            obtain ⟨hi20, h⟩ := qIn_of h
            obtain ⟨o21, e_o21, h⟩ := qNm_of h
            refine g_iast (ws' := wC g ad o21) E 57 (wC_57 g ad o15) (by decide) hi20 (by rw [e_o21]; exact wC_s57 g ad o15 _ _) gdX10_improve_122 ?_
            refine g_iconst E gdX10_improve_123 ?_
            refine g_istore E [(4, iv 1), (7, iv n11), (6, iv r1), (0, .ref (ad 53)), (1, .ref (ad 7)), (2, iv x2), (3, iv x3), (5, iv x5)] gdX10_improve_124 (by decide) rfl ?_
            refine g_sub E [3, 4, 5, 6, 0, 7] rfl ?_
            exact j126 o21 x2 x3 1 x5 v h k0 k1
          ·
            refine g_goto E 126 gdX10_improve_90 (by decide) ?_
            refine g_sub E [2, 3, 4, 5, 6, 7] rfl ?_
            exact j126 o x2 x3 x4 x5 v h k0 k1
        ·
          refine g_goto E 126 gdX10_improve_42 (by decide) ?_
          refine g_sub E [1, 2, 3, 4, 5, 6] rfl ?_
          exact j126 o x2 x3 x4 x5 v h k0 k1
  have j6 : ∀ (o : OO) (x2 : Int) (x3 : Int) (x4 : Int) (x5 : Int), e_X10_improve_6 o x2 x3 x4 x5 = some v → Go X 6 (wC g ad o) [(0, .ref (ad 53)), (1, .ref (ad 7)), (2, iv x2), (3, iv x3), (4, iv x4), (5, iv x5)] [] := by
    intro o x2 x3 x4 x5 h
    unfold e_X10_improve_6 at h
    obtain ⟨r, hr, h⟩ := qB_of h
    refine l6 x2 x3 r _ hr ?_
    ·
      intro u0 u1 e
      subst e
      have h : b_X10_improve_132 u0 u1 = some v := h
      exact j132 u0 u1 h
  unfold s_X10_improve at h
  refine g_iconst E gdX10_improve_0 ?_
  refine g_istore E [(4, iv 0), (0, .ref (ad 53)), (1, .ref (ad 7)), (2, iv x2), (3, iv x3)] gdX10_improve_1 (by decide) rfl ?_
  refine g_iconst E gdX10_improve_3 ?_
  refine g_istore E [(5, iv 0), (4, iv 0), (0, .ref (ad 53)), (1, .ref (ad 7)), (2, iv x2), (3, iv x3)] gdX10_improve_4 (by decide) rfl ?_
  refine g_sub E [2, 3, 4, 5, 1, 0] rfl ?_
  exact j6 o x2 x3 0 0 h
set_option maxHeartbeats 4000000 in
set_option maxRecDepth 100000 in
theorem c_X10_firstOfLeast (l : Launch) (g : GG) (ad : Nat → Nat) (o : OO) (x1 : Int) (x2 : Int) (v : Int) (h : s_X10_firstOfLeast o x1 x2 = some v) : CI l g yX10_firstOfLeast cX10_firstOfLeast 6 (some .int) 2 43 (wC g ad o) [.ref (ad 53), iv x1, iv x2] v (wC g ad o) := by
  refine met_I (by decide) (Nat.le_of_ble_eq_true rfl) ?_
  intro X E hQ
  show Go X 0 (wC g ad o) [(0, .ref (ad 53)), (1, iv x1), (2, iv x2)] []
  have j68 : ∀ (x4 : Int), b_X10_firstOfLeast_68 o x4 = some v → Go X 68 (wC g ad o) [(4, iv x4)] [] := by
    intro x4 h
    unfold b_X10_firstOfLeast_68 at h
    refine g_iload E gdX10_firstOfLeast_68 0 rfl ?_
    exact g_iret E hQ (Option.some.inj h) rfl gdX10_firstOfLeast_70
  have j77 : b_X10_firstOfLeast_77 o = some v → Go X 77 (wC g ad o) [] [] := by
    intro h
    unfold b_X10_firstOfLeast_77 at h
    refine g_bipush E gdX10_firstOfLeast_77 (by decide) ?_
    exact g_iret E hQ (Option.some.inj h) rfl gdX10_firstOfLeast_79
  have j48 : ∀ (x1 : Int) (x2 : Int) (x3 : Int) (x4 : Int) (y0 : Int) (v : (Int) ⊕ ((Int) ⊕ (Unit))), b_X10_firstOfLeast_48 o x1 x2 x3 x4 y0 = some v → (∀ (x4 : Int), v = .inl x4 → Go X 25 (wC g ad o) [(0, .ref (ad 53)), (1, iv x1), (2, iv x2), (3, iv x3), (4, iv x4)] []) → (∀ (x4 : Int), v = .inr (.inl x4) → Go X 68 (wC g ad o) [(4, iv x4)] []) → (v = .inr (.inr ()) → Go X 77 (wC g ad o) [] []) → Go X 48 (wC g ad o) [(0, .ref (ad 53)), (1, iv x1), (2, iv x2), (3, iv x3), (4, iv x4)] [iv y0] := by
    intro x1 x2 x3 x4 y0 v h k0 k1 k2
    unfold b_X10_firstOfLeast_48 at h
    refine g_istore E [(5, iv y0), (0, .ref (ad 53)), (1, iv x1), (2, iv x2), (3, iv x3), (4, iv x4)] gdX10_firstOfLeast_48 (by decide) rfl ?_
    refine g_aload_n E gdX10_firstOfLeast_50 rfl 1 rfl ?_
    refine g_get (T := TX10) E fw_X10 53 (wC_53 g ad o) rfl 4 (by decide) w_340 rfl rfl gdX10_firstOfLeast_51 ?_
    refine g_iload_n E gdX10_firstOfLeast_54 rfl 2 rfl ?_
    refine g_iconst E gdX10_firstOfLeast_55 ?_
    refine g_imul E gdX10_firstOfLeast_56 ?_
    refine g_iload E gdX10_firstOfLeast_57 5 rfl ?_
    refine g_iadd E gdX10_firstOfLeast_59 ?_
    obtain ⟨hi1, h⟩ := qIn_of h
    refine g_iald E 56 (wC_56 g ad o) (by decide) hi1 gdX10_firstOfLeast_60 ?_
    obtain ⟨n2, e_n2, h⟩ := qNm_of h
    refine g_nmi e_n2 ?_
    refine g_iload E gdX10_firstOfLeast_61 0 rfl ?_
    refine g_iadd E gdX10_firstOfLeast_63 ?_
    refine g_iload_n E gdX10_firstOfLeast_64 rfl 4 rfl ?_
    refine g_icmp_ne E 71 gdX10_firstOfLeast_65 (by decide) h (fun h => ?_) (fun h => ?_)
    ·
      refine g_iinc E [(4, iv (x4 + 1)), (5, iv y0), (0, .ref (ad 53)), (1, iv x1), (2, iv x2), (3, iv x3)] gdX10_firstOfLeast_71 5 rfl (by decide) rfl ?_
      refine g_goto E 25 gdX10_firstOfLeast_74 (by decide) ?_
      refine g_sub E [2, 3, 4, 5, 0] rfl ?_
      exact k0 (x4 + 1) (Option.some.inj h).symm
    ·
      refine g_sub E [5] rfl ?_
      exact k1 x4 (Option.some.inj h).symm
  have j43 : ∀ (x1 : Int) (x2 : Int) (x3 : Int) (x4 : Int) (v : (Int) ⊕ ((Int) ⊕ (Unit))), b_X10_firstOfLeast_43 o x1 x2 x3 x4 = some v → (∀ (x4 : Int), v = .inl x4 → Go X 25 (wC g ad o) [(0, .ref (ad 53)), (1, iv x1), (2, iv x2), (3, iv x3), (4, iv x4)] []) → (∀ (x4 : Int), v = .inr (.inl x4) → Go X 68 (wC g ad o) [(4, iv x4)] []) → (v = .inr (.inr ()) → Go X 77 (wC g ad o) [] []) → Go X 43 (wC g ad o) [(0, .ref (ad 53)), (1, iv x1), (2, iv x2), (3, iv x3), (4, iv x4)] [] := by
    intro x1 x2 x3 x4 v h k0 k1 k2
    unfold b_X10_firstOfLeast_43 at h
    refine g_iconst E gdX10_firstOfLeast_43 ?_
    refine g_goto E 48 gdX10_firstOfLeast_44 (by decide) ?_
    exact j48 x1 x2 x3 x4 0 v h k0 k1 k2
  have l25 : ∀ (x1 : Int) (x2 : Int) (x3 : Int) (r : (Int) ⊕ (Unit)) (s0 : Int), loopW (fun s => l_X10_firstOfLeast_25 o x1 x2 x3 s) s0 = some r → (∀ (x4 : Int), r = (.inl x4) → Go X 68 (wC g ad o) [(4, iv x4)] []) → (r = (.inr ()) → Go X 77 (wC g ad o) [] []) → Go X 25 (wC g ad o) [(0, .ref (ad 53)), (1, iv x1), (2, iv x2), (3, iv x3), (4, iv s0)] [] := by
    intro x1 x2 x3 r s0 h k1 k2
    refine loop_rule (Head := fun s0 => Go X 25 (wC g ad o) [(0, .ref (ad 53)), (1, iv x1), (2, iv x2), (3, iv x3), (4, iv s0)] []) h ?_
    intro s v h kk kx
    obtain ⟨x4, hs⟩ : ∃ q, q = s := ⟨_, rfl⟩
    subst hs
    have h : l_X10_firstOfLeast_25 o x1 x2 x3 x4 = some v := h
    have k0 : ∀ (x4 : Int), v = .inl x4 → Go X 25 (wC g ad o) [(0, .ref (ad 53)), (1, iv x1), (2, iv x2), (3, iv x3), (4, iv x4)] [] := fun x4 e => kk x4 e
    have k1 : ∀ (x4 : Int), v = .inr (.inl x4) → Go X 68 (wC g ad o) [(4, iv x4)] [] := fun x4 e => k1 x4 (kx _ e).symm
    have k2 : v = .inr (.inr ()) → Go X 77 (wC g ad o) [] [] := fun e => k2 (kx _ e).symm
    unfold l_X10_firstOfLeast_25 at h
    refine g_iload E gdX10_firstOfLeast_25 4 rfl ?_
    refine g_iconst E gdX10_firstOfLeast_27 ?_
    refine g_icmp_ge E 77 gdX10_firstOfLeast_28 (by decide) h (fun h => ?_) (fun h => ?_)
    ·
      refine g_sub E [] rfl ?_
      exact k2  (Option.some.inj h).symm
    ·
      refine g_iload_n E gdX10_firstOfLeast_31 rfl 2 rfl ?_
      refine g_bipush E gdX10_firstOfLeast_32 (by decide) ?_
      refine g_icmp_eq E 43 gdX10_firstOfLeast_34 (by decide) h (fun h => ?_) (fun h => ?_)
      ·
        exact j43 x1 x2 x3 x4 v h k0 k1 k2
      ·
        refine g_iload_n E gdX10_firstOfLeast_37 rfl 2 rfl ?_
        refine g_iload E gdX10_firstOfLeast_38 4 rfl ?_
        refine g_icmp_ne E 47 gdX10_firstOfLeast_40 (by decide) h (fun h => ?_) (fun h => ?_)
        ·
          refine g_iconst E gdX10_firstOfLeast_47 ?_
          exact j48 x1 x2 x3 x4 5 v h k0 k1 k2
        ·
          exact j43 x1 x2 x3 x4 v h k0 k1 k2
  have j25 : ∀ (x1 : Int) (x2 : Int) (x3 : Int) (x4 : Int), e_X10_firstOfLeast_25 o x1 x2 x3 x4 = some v → Go X 25 (wC g ad o) [(0, .ref (ad 53)), (1, iv x1), (2, iv x2), (3, iv x3), (4, iv x4)] [] := by
    intro x1 x2 x3 x4 h
    unfold e_X10_firstOfLeast_25 at h
    obtain ⟨r, hr, h⟩ := qB_of h
    refine l25 x1 x2 x3 r _ hr ?_ ?_
    ·
      intro u0 e
      subst e
      have h : b_X10_firstOfLeast_68 o u0 = some v := h
      exact j68 u0 h
    ·
      intro e
      subst e
      have h : b_X10_firstOfLeast_77 o = some v := h
      exact j77  h
  have j21 : ∀ (x1 : Int) (x2 : Int) (y0 : Int), b_X10_firstOfLeast_21 o x1 x2 y0 = some v → Go X 21 (wC g ad o) [(0, .ref (ad 53)), (1, iv x1), (2, iv x2)] [iv y0] := by
    intro x1 x2 y0 h
    unfold b_X10_firstOfLeast_21 at h
    refine g_istore_n E [(3, iv y0), (0, .ref (ad 53)), (1, iv x1), (2, iv x2)] gdX10_firstOfLeast_21 rfl (by decide) rfl ?_
    refine g_iconst E gdX10_firstOfLeast_22 ?_
    refine g_istore E [(4, iv 0), (3, iv y0), (0, .ref (ad 53)), (1, iv x1), (2, iv x2)] gdX10_firstOfLeast_23 (by decide) rfl ?_
    refine g_sub E [2, 3, 4, 1, 0] rfl ?_
    exact j25 x1 x2 y0 0 h
  unfold s_X10_firstOfLeast at h
  refine g_iload_n E gdX10_firstOfLeast_0 rfl 2 rfl ?_
  refine g_bipush E gdX10_firstOfLeast_1 (by decide) ?_
  refine g_icmp_ne E 15 gdX10_firstOfLeast_3 (by decide) h (fun h => ?_) (fun h => ?_)
  ·
    refine g_aload_n E gdX10_firstOfLeast_15 rfl 0 rfl ?_
    refine g_iload_n E gdX10_firstOfLeast_16 rfl 1 rfl ?_
    refine g_iload_n E gdX10_firstOfLeast_17 rfl 2 rfl ?_
    obtain ⟨r3, hc4, h⟩ := qB_of h
    refine g_Vi (r := r3) (As := [iv x1, iv x2]) (rest := []) (w := wC g ad o) E (c_X10_rest l g ad o x1 x2 r3 hc4) okm_X10_rest okw_X10_rest w_854 rfl (wC_53 g ad o) rfl rfl (Nat.le_of_ble_eq_true rfl) ⟨Nat.le_of_ble_eq_true rfl, Nat.le_of_ble_eq_true rfl⟩ gdX10_firstOfLeast_18 ?_
    exact j21 x1 x2 r3 h
  ·
    refine g_aload_n E gdX10_firstOfLeast_6 rfl 0 rfl ?_
    refine g_get (T := TX10) E fw_X10 53 (wC_53 g ad o) rfl 5 (by decide) w_341 rfl rfl gdX10_firstOfLeast_7 ?_
    refine g_iload_n E gdX10_firstOfLeast_10 rfl 1 rfl ?_
    obtain ⟨hi5, h⟩ := qIn_of h
    refine g_iald E 57 (wC_57 g ad o) (by decide) hi5 gdX10_firstOfLeast_11 ?_
    obtain ⟨n6, e_n6, h⟩ := qNm_of h
    refine g_nmi e_n6 ?_
    refine g_goto E 21 gdX10_firstOfLeast_12 (by decide) ?_
    exact j21 x1 x2 n6 h
set_option maxHeartbeats 4000000 in
set_option maxRecDepth 100000 in
theorem c_X10_trace (l : Launch) (g : GG) (ad : Nat → Nat) (o : OO) (x1 : Int) (v : OO) (h : s_X10_trace o x1 = some v) : CV l g yX10_trace cX10_trace 4 3 68 (wC g ad o) [.ref (ad 53), iv x1] (wC g ad v) := by
  refine met_V (by decide) (Nat.le_of_ble_eq_true rfl) ?_
  intro X E hQ
  show Go X 0 (wC g ad o) [(0, .ref (ad 53)), (1, iv x1)] []
  have j57 : ∀ (o : OO), b_X10_trace_57 o = some v → Go X 57 (wC g ad o) [] [] := by
    intro o h
    unfold b_X10_trace_57 at h
    exact g_vret E hQ (by rw [← Option.some.inj h]) gdX10_trace_57
  have j87 : ∀ (o : OO), b_X10_trace_87 o = some v → Go X 87 (wC g ad o) [] [] := by
    intro o h
    unfold b_X10_trace_87 at h
    exact g_vret E hQ (by rw [← Option.some.inj h]) gdX10_trace_87
  have l17 : ∀  (r : (OO) ⊕ (OO)) (s0 : OO × Int × Int), loopW (fun s => l_X10_trace_17 s.1 s.2.1 s.2.2) s0 = some r → (∀ (o : OO), r = (.inl o) → Go X 57 (wC g ad o) [] []) → (∀ (o : OO), r = (.inr o) → Go X 87 (wC g ad o) [] []) → Go X 17 (wC g ad s0.1) [(0, .ref (ad 53)), (2, iv s0.2.1), (3, iv s0.2.2)] [] := by
    intro r s0 h k1 k2
    refine loop_rule (Head := fun s0 => Go X 17 (wC g ad s0.1) [(0, .ref (ad 53)), (2, iv s0.2.1), (3, iv s0.2.2)] []) h ?_
    intro s v h kk kx
    obtain ⟨o, x2, x3⟩ := s
    have h : l_X10_trace_17 o x2 x3 = some v := h
    have k0 : ∀ (o : OO) (x2 : Int) (x3 : Int), v = .inl (o, x2, x3) → Go X 17 (wC g ad o) [(0, .ref (ad 53)), (2, iv x2), (3, iv x3)] [] := fun o x2 x3 e => kk (o, x2, x3) e
    have k1 : ∀ (o : OO), v = .inr (.inl o) → Go X 57 (wC g ad o) [] [] := fun o e => k1 o (kx _ e).symm
    have k2 : ∀ (o : OO), v = .inr (.inr o) → Go X 87 (wC g ad o) [] [] := fun o e => k2 o (kx _ e).symm
    unfold l_X10_trace_17 at h
    refine g_iload_n E gdX10_trace_17 rfl 1 rfl ?_
    refine g_aload_n E gdX10_trace_18 rfl 0 rfl ?_
    refine g_get (T := TX10) E fw_X10 53 (wC_53 g ad o) rfl 10 (by decide) w_346 rfl rfl gdX10_trace_19 ?_
    refine g_icmp_eq E 87 gdX10_trace_22 (by decide) h (fun h => ?_) (fun h => ?_)
    ·
      refine g_sub E [] rfl ?_
      exact k2 o (Option.some.inj h).symm
    ·
      refine g_aload_n E gdX10_trace_25 rfl 0 rfl ?_
      refine g_get (T := TX10) E fw_X10 53 (wC_53 g ad o) rfl 2 (by decide) w_336 rfl rfl gdX10_trace_26 ?_
      refine g_bipush E gdX10_trace_29 (by decide) ?_
      refine g_icmp_ge E 87 gdX10_trace_31 (by decide) h (fun h => ?_) (fun h => ?_)
      ·
        refine g_sub E [] rfl ?_
        exact k2 o (Option.some.inj h).symm
      ·
        refine g_aload_n E gdX10_trace_34 rfl 0 rfl ?_
        refine g_iload_n E gdX10_trace_35 rfl 1 rfl ?_
        refine g_iload_n E gdX10_trace_36 rfl 2 rfl ?_
        obtain ⟨r1, hc2, h⟩ := qB_of h
        refine g_Vi (r := r1) (As := [iv x2, iv x3]) (rest := []) (w := wC g ad o) E (c_X10_firstOfLeast l g ad o x2 x3 r1 hc2) okm_X10_firstOfLeast okw_X10_firstOfLeast w_864 rfl (wC_53 g ad o) rfl rfl (Nat.le_of_ble_eq_true rfl) ⟨Nat.le_of_ble_eq_true rfl, Nat.le_of_ble_eq_true rfl⟩ gdX10_trace_37 ?_
        refine g_istore_n E [(3, iv r1), (0, .ref (ad 53)), (2, iv x2)] gdX10_trace_40 rfl (by decide) rfl ?_
        refine g_iload_n E gdX10_trace_41 rfl 0 rfl ?_
        refine g_bipush E gdX10_trace_42 (by decide) ?_
        refine g_icmp_eq E 57 gdX10_trace_44 (by decide) h (fun h => ?_) (fun h => ?_)
        ·
          refine g_sub E [] rfl ?_
          exact k1 o (Option.some.inj h).symm
        ·
          refine g_iload_n E gdX10_trace_47 rfl 2 rfl ?_
          refine g_iload_n E gdX10_trace_48 rfl 0 rfl ?_
          obtain ⟨r3, hc4, h⟩ := qB_of h
          refine g_Si (r := r3) (As := [iv x2, iv r1]) (rest := []) (w := wC g ad o) E (c_X3_beside l g (wC g ad o) x2 r1 r3 hc4) okm_X3_beside w_828 w_868 rfl rfl (Nat.le_of_ble_eq_true rfl) ⟨Nat.le_of_ble_eq_true rfl, Nat.le_of_ble_eq_true rfl⟩ gdX10_trace_49 ?_
          refine g_bipush E gdX10_trace_52 (by decide) ?_
          refine g_icmp_ne E 58 gdX10_trace_54 (by decide) h (fun h => ?_) (fun h => ?_)
          ·
            refine g_iload_n E gdX10_trace_58 rfl 2 rfl ?_
            refine g_iload_n E gdX10_trace_59 rfl 0 rfl ?_
            obtain ⟨r5, hc6, h⟩ := qB_of h
            refine g_Si (r := r5) (As := [iv x2, iv r1]) (rest := []) (w := wC g ad o) E (c_X3_beside l g (wC g ad o) x2 r1 r5 hc6) okm_X3_beside w_828 w_868 rfl rfl (Nat.le_of_ble_eq_true rfl) ⟨Nat.le_of_ble_eq_true rfl, Nat.le_of_ble_eq_true rfl⟩ gdX10_trace_60 ?_
            refine g_istore_n E [(2, iv r5), (3, iv r1), (0, .ref (ad 53))] gdX10_trace_63 rfl (by decide) rfl ?_
            refine g_aload_n E gdX10_trace_64 rfl 2 rfl ?_
            refine g_get (T := TX10) E fw_X10 53 (wC_53 g ad o) rfl 1 (by decide) w_334 rfl rfl gdX10_trace_65 ?_
            refine g_aload_n E gdX10_trace_68 rfl 2 rfl ?_
            refine g_get (T := TX10) E fw_X10 53 (wC_53 g ad o) rfl 2 (by decide) w_336 rfl rfl gdX10_trace_69 ?_
            refine g_iload_n E gdX10_trace_72 rfl 0 rfl ?_
            obtain ⟨hi7, h⟩ := qIn_of h
            obtain ⟨o8, e_o8, h⟩ := qNm_of h
            refine g_iast (ws' := wC g ad o8) E 55 (wC_55 g ad o) (by decide) hi7 (by rw [e_o8]; exact wC_s55 g ad o _ _) gdX10_trace_73 ?_
            refine g_aload_n E gdX10_trace_74 rfl 2 rfl ?_
            refine g_dup E gdX10_trace_75 rfl ?_
            refine g_get (T := TX10) E fw_X10 53 (wC_53 g ad o8) rfl 2 (by decide) w_336 rfl rfl gdX10_trace_76 ?_
            refine g_iconst E gdX10_trace_79 ?_
            refine g_iadd E gdX10_trace_80 ?_
            obtain ⟨o9, e_o9, h⟩ := qNm_of h
            refine g_puti (T := TX10) (ws' := wC g ad o9) E fw_X10 tyX10 tyX10_ok nmX10 53 (wC_53 g ad o8) rfl 2 (by decide) w_336 rfl rfl (by decide +kernel) (Nat.le_of_ble_eq_true rfl) (by rw [e_o9]; exact wC_p53_2 g ad o8 _) gdX10_trace_81 ?_
            refine g_goto E 17 gdX10_trace_84 (by decide) ?_
            refine g_sub E [2, 0, 1] rfl ?_
            exact k0 o9 r5 r1 (Option.some.inj h).symm
          ·
            refine g_sub E [] rfl ?_
            exact k1 o (Option.some.inj h).symm
  have j17 : ∀ (o : OO) (x2 : Int) (x3 : Int), e_X10_trace_17 o x2 x3 = some v → Go X 17 (wC g ad o) [(0, .ref (ad 53)), (2, iv x2), (3, iv x3)] [] := by
    intro o x2 x3 h
    unfold e_X10_trace_17 at h
    obtain ⟨r, hr, h⟩ := qB_of h
    refine l17  r _ hr ?_ ?_
    ·
      intro u0 e
      subst e
      have h : b_X10_trace_57 u0 = some v := h
      exact j57 u0 h
    ·
      intro u0 e
      subst e
      have h : b_X10_trace_87 u0 = some v := h
      exact j87 u0 h
  unfold s_X10_trace at h
  refine g_iload_n E gdX10_trace_0 rfl 1 rfl ?_
  refine g_istore_n E [(2, iv x1), (0, .ref (ad 53)), (1, iv x1)] gdX10_trace_1 rfl (by decide) rfl ?_
  refine g_bipush E gdX10_trace_2 (by decide) ?_
  refine g_istore_n E [(3, iv (-9)), (2, iv x1), (0, .ref (ad 53)), (1, iv x1)] gdX10_trace_4 rfl (by decide) rfl ?_
  refine g_aload_n E gdX10_trace_5 rfl 2 rfl ?_
  refine g_get (T := TX10) E fw_X10 53 (wC_53 g ad o) rfl 1 (by decide) w_334 rfl rfl gdX10_trace_6 ?_
  refine g_iconst E gdX10_trace_9 ?_
  refine g_iload_n E gdX10_trace_10 rfl 3 rfl ?_
  obtain ⟨o10, e_o10, h⟩ := qNm_of h
  refine g_iast (ws' := wC g ad o10) E 55 (wC_55 g ad o) (by decide) ⟨by decide, by decide⟩ (by rw [e_o10]; exact wC_s55 g ad o _ _) gdX10_trace_11 ?_
  refine g_aload_n E gdX10_trace_12 rfl 2 rfl ?_
  refine g_iconst E gdX10_trace_13 ?_
  obtain ⟨o11, e_o11, h⟩ := qNm_of h
  refine g_puti (T := TX10) (ws' := wC g ad o11) E fw_X10 tyX10 tyX10_ok nmX10 53 (wC_53 g ad o10) rfl 2 (by decide) w_336 rfl rfl (by decide +kernel) (Nat.le_of_ble_eq_true rfl) (by rw [e_o11]; exact wC_p53_2 g ad o10 _) gdX10_trace_14 ?_
  refine g_sub E [2, 1, 0] rfl ?_
  exact j17 o11 x1 (-9) h
set_option maxHeartbeats 4000000 in
set_option maxRecDepth 100000 in
theorem c_X10_find (l : Launch) (g : GG) (ad : Nat → Nat) (o : OO) (x2 : Int) (x3 : Int) (x4 : Int) (v : Int × OO) (h : s_X10_find o x2 x3 x4 = some v) : CI l g yX10_find cX10_find 7 (some .boolean) 4 94 (wC g ad o) [.ref (ad 53), .ref (ad 7), iv x2, iv x3, iv x4] v.1 (wC g ad v.2) := by
  refine met_I (by decide) (Nat.le_of_ble_eq_true rfl) ?_
  intro X E hQ
  show Go X 0 (wC g ad o) [(0, .ref (ad 53)), (1, .ref (ad 7)), (2, iv x2), (3, iv x3), (4, iv x4)] []
  have j95 : ∀ (o : OO) (x3 : Int), b_X10_find_95 o x3 = some v → Go X 95 (wC g ad o) [(0, .ref (ad 53)), (3, iv x3)] [] := by
    intro o x3 h
    unfold b_X10_find_95 at h
    refine g_aload_n E gdX10_find_95 rfl 0 rfl ?_
    refine g_get (T := TX10) E fw_X10 53 (wC_53 g ad o) rfl 5 (by decide) w_341 rfl rfl gdX10_find_96 ?_
    refine g_iload_n E gdX10_find_99 rfl 1 rfl ?_
    obtain ⟨hi1, h⟩ := qIn_of h
    refine g_iald E 57 (wC_57 g ad o) (by decide) hi1 gdX10_find_100 ?_
    obtain ⟨n2, e_n2, h⟩ := qNm_of h
    refine g_nmi e_n2 ?_
    refine g_ldc (k := 1000000000) E gdX10_find_101 w_817 (by decide) ?_
    refine g_icmp_lt E 108 gdX10_find_103 (by decide) h (fun h => ?_) (fun h => ?_)
    ·
      refine g_aload_n E gdX10_find_108 rfl 0 rfl ?_
      refine g_aload_n E gdX10_find_109 rfl 0 rfl ?_
      refine g_get (T := TX10) E fw_X10 53 (wC_53 g ad o) rfl 0 (by decide) w_332 rfl rfl gdX10_find_110 ?_
      refine g_iload_n E gdX10_find_113 rfl 1 rfl ?_
      obtain ⟨hi3, h⟩ := qIn_of h
      refine g_iald E 54 (wC_54 g ad o) (by decide) hi3 gdX10_find_114 ?_
      obtain ⟨n4, e_n4, h⟩ := qNm_of h
      refine g_nmi e_n4 ?_
      refine g_aload_n E gdX10_find_115 rfl 0 rfl ?_
      refine g_get (T := TX10) E fw_X10 53 (wC_53 g ad o) rfl 5 (by decide) w_341 rfl rfl gdX10_find_116 ?_
      refine g_iload_n E gdX10_find_119 rfl 1 rfl ?_
      obtain ⟨hi5, h⟩ := qIn_of h
      refine g_iald E 57 (wC_57 g ad o) (by decide) hi5 gdX10_find_120 ?_
      obtain ⟨n6, e_n6, h⟩ := qNm_of h
      refine g_nmi e_n6 ?_
      refine g_iadd E gdX10_find_121 ?_
      obtain ⟨o7, e_o7, h⟩ := qNm_of h
      refine g_puti (T := TX10) (ws' := wC g ad o7) E fw_X10 tyX10 tyX10_ok nmX10 53 (wC_53 g ad o) rfl 3 (by decide) w_338 rfl rfl (by decide +kernel) (Nat.le_of_ble_eq_true rfl) (by rw [e_o7]; exact wC_p53_3 g ad o _) gdX10_find_122 ?_
      refine g_aload_n E gdX10_find_125 rfl 0 rfl ?_
      refine g_iload_n E gdX10_find_126 rfl 1 rfl ?_
      obtain ⟨o10, hc9, h⟩ := qB_of h
      refine g_Vv (As := [iv x3]) (rest := []) (w := wC g ad o10) E (c_X10_trace l g ad o7 x3 o10 hc9) okm_X10_trace okw_X10_trace w_860 rfl (wC_53 g ad o7) rfl rfl (Nat.le_of_ble_eq_true rfl) ⟨Nat.le_of_ble_eq_true rfl, Nat.le_of_ble_eq_true rfl⟩ gdX10_find_127 ?_
      refine g_iconst E gdX10_find_130 ?_
      obtain ⟨hz, h⟩ := qZ_of h
      exact g_zret E hQ hz (by rw [← Option.some.inj h]) (by rw [← Option.some.inj h]) gdX10_find_131
    ·
      refine g_iconst E gdX10_find_106 ?_
      obtain ⟨hz, h⟩ := qZ_of h
      exact g_zret E hQ hz (by rw [← Option.some.inj h]) (by rw [← Option.some.inj h]) gdX10_find_107
  have j89 : ∀ (o : OO) (x2 : Int) (x3 : Int) (x5 : Int) (v : (OO × Int) ⊕ ((OO))), b_X10_find_89 o x2 x3 x5 = some v → (∀ (o : OO) (x5 : Int), v = .inl (o, x5) → Go X 50 (wC g ad o) [(0, .ref (ad 53)), (1, .ref (ad 7)), (2, iv x2), (3, iv x3), (5, iv x5)] []) → (∀ (o : OO), v = .inr (o) → Go X 95 (wC g ad o) [(0, .ref (ad 53)), (3, iv x3)] []) → Go X 89 (wC g ad o) [(0, .ref (ad 53)), (1, .ref (ad 7)), (2, iv x2), (3, iv x3), (5, iv x5)] [] := by
    intro o x2 x3 x5 v h k0 k1
    unfold b_X10_find_89 at h
    refine g_iinc E [(5, iv (x5 + 1)), (0, .ref (ad 53)), (1, .ref (ad 7)), (2, iv x2), (3, iv x3)] gdX10_find_89 4 rfl (by decide) rfl ?_
    refine g_goto E 50 gdX10_find_92 (by decide) ?_
    refine g_sub E [1, 2, 3, 4, 0] rfl ?_
    exact k0 o (x5 + 1) (Option.some.inj h).symm
  have l50 : ∀ (x2 : Int) (x3 : Int) (r : (OO)) (s0 : OO × Int), loopW (fun s => l_X10_find_50 x2 x3 s.1 s.2) s0 = some r → (∀ (o : OO), r = (o) → Go X 95 (wC g ad o) [(0, .ref (ad 53)), (3, iv x3)] []) → Go X 50 (wC g ad s0.1) [(0, .ref (ad 53)), (1, .ref (ad 7)), (2, iv x2), (3, iv x3), (5, iv s0.2)] [] := by
    intro x2 x3 r s0 h k1
    refine loop_rule (Head := fun s0 => Go X 50 (wC g ad s0.1) [(0, .ref (ad 53)), (1, .ref (ad 7)), (2, iv x2), (3, iv x3), (5, iv s0.2)] []) h ?_
    intro s v h kk kx
    obtain ⟨o, x5⟩ := s
    have h : l_X10_find_50 x2 x3 o x5 = some v := h
    have k0 : ∀ (o : OO) (x5 : Int), v = .inl (o, x5) → Go X 50 (wC g ad o) [(0, .ref (ad 53)), (1, .ref (ad 7)), (2, iv x2), (3, iv x3), (5, iv x5)] [] := fun o x5 e => kk (o, x5) e
    have k1 : ∀ (o : OO), v = .inr (o) → Go X 95 (wC g ad o) [(0, .ref (ad 53)), (3, iv x3)] [] := fun o e => k1 o (kx _ e).symm
    unfold l_X10_find_50 at h
    refine g_iload E gdX10_find_50 4 rfl ?_
    refine g_ldc (k := 1000000) E gdX10_find_52 w_844 (by decide) ?_
    refine g_icmp_ge E 95 gdX10_find_54 (by decide) h (fun h => ?_) (fun h => ?_)
    ·
      refine g_sub E [0, 3] rfl ?_
      exact k1 o (Option.some.inj h).symm
    ·
      refine g_aload_n E gdX10_find_57 rfl 0 rfl ?_
      refine g_get (T := TX10) E fw_X10 53 (wC_53 g ad o) rfl 9 (by decide) w_345 rfl rfl gdX10_find_58 ?_
      refine g_if_le E 95 gdX10_find_61 (by decide) h (fun h => ?_) (fun h => ?_)
      ·
        refine g_sub E [0, 3] rfl ?_
        exact k1 o (Option.some.inj h).symm
      ·
        refine g_aload_n E gdX10_find_64 rfl 0 rfl ?_
        obtain ⟨r11, o13, hc12, h⟩ := qB2_of h
        refine g_Vi (r := r11) (As := []) (rest := []) (w := wC g ad o13) E (c_X10_next l g ad o (r11, o13) hc12) okm_X10_next okw_X10_next w_845 rfl (wC_53 g ad o) rfl rfl (Nat.le_of_ble_eq_true rfl) ⟨Nat.le_of_ble_eq_true rfl, Nat.le_of_ble_eq_true rfl⟩ gdX10_find_65 ?_
        refine g_istore E [(6, iv r11), (0, .ref (ad 53)), (1, .ref (ad 7)), (2, iv x2), (3, iv x3), (5, iv x5)] gdX10_find_68 (by decide) rfl ?_
        refine g_aload_n E gdX10_find_70 rfl 1 rfl ?_
        refine g_aload_n E gdX10_find_71 rfl 2 rfl ?_
        refine g_iload_n E gdX10_find_72 rfl 3 rfl ?_
        refine g_iload E gdX10_find_73 0 rfl ?_
        obtain ⟨r14, o16, hc15, h⟩ := qB2_of h
        refine g_Vi (r := r14) (As := [.ref (ad 7), iv x2, iv r11]) (rest := []) (w := wC g ad o16) E (c_X10_improve l g ad o13 x2 r11 (r14, o16) hc15) okm_X10_improve okw_X10_improve w_850 rfl (wC_53 g ad o13) rfl rfl (Nat.le_of_ble_eq_true rfl) ⟨Nat.le_of_ble_eq_true rfl, Nat.le_of_ble_eq_true rfl⟩ gdX10_find_75 ?_
        refine g_if_eq E 89 gdX10_find_78 (by decide) h (fun h => ?_) (fun h => ?_)
        ·
          refine g_sub E [1, 2, 3, 4, 5] rfl ?_
          exact j89 o16 x2 x3 x5 v h k0 k1
        ·
          refine g_aload_n E gdX10_find_81 rfl 1 rfl ?_
          refine g_aload_n E gdX10_find_82 rfl 2 rfl ?_
          refine g_iload_n E gdX10_find_83 rfl 3 rfl ?_
          refine g_iload E gdX10_find_84 0 rfl ?_
          obtain ⟨o19, hc18, h⟩ := qB_of h
          refine g_Vv (As := [.ref (ad 7), iv x2, iv r11]) (rest := []) (w := wC g ad o19) E (c_X10_rouseBeside l g ad o16 x2 r11 o19 hc18) okm_X10_rouseBeside okw_X10_rouseBeside w_819 rfl (wC_53 g ad o16) rfl rfl (Nat.le_of_ble_eq_true rfl) ⟨Nat.le_of_ble_eq_true rfl, Nat.le_of_ble_eq_true rfl⟩ gdX10_find_86 ?_
          refine g_sub E [1, 2, 3, 4, 5] rfl ?_
          exact j89 o19 x2 x3 x5 v h k0 k1
  have j50 : ∀ (o : OO) (x2 : Int) (x3 : Int) (x5 : Int), e_X10_find_50 o x2 x3 x5 = some v → Go X 50 (wC g ad o) [(0, .ref (ad 53)), (1, .ref (ad 7)), (2, iv x2), (3, iv x3), (5, iv x5)] [] := by
    intro o x2 x3 x5 h
    unfold e_X10_find_50 at h
    obtain ⟨r, hr, h⟩ := qB_of h
    refine l50 x2 x3 r _ hr ?_
    ·
      intro u0 e
      have e := e.symm
      subst e
      have h : b_X10_find_95 u0 x3 = some v := h
      exact j95 u0 x3 h
  unfold s_X10_find at h
  refine g_aload_n E gdX10_find_0 rfl 0 rfl ?_
  refine g_get (T := TX10) E fw_X10 53 (wC_53 g ad o) rfl 4 (by decide) w_340 rfl rfl gdX10_find_1 ?_
  refine g_ldc (k := 1000000000) E gdX10_find_4 w_817 (by decide) ?_
  obtain ⟨o22, hc21, h⟩ := qB_of h
  refine g_Sv (As := [.ref (ad 56), iv 1000000000]) (rest := []) (w := wC g ad o22) E (c_J7_fill_53178__56 l g ad o 1000000000 o22 hc21) okm_J7_fill_53178 w_124 w_818 rfl rfl (Nat.le_of_ble_eq_true rfl) ⟨Nat.le_of_ble_eq_true rfl, Nat.le_of_ble_eq_true rfl⟩ gdX10_find_6 ?_
  refine g_aload_n E gdX10_find_9 rfl 0 rfl ?_
  refine g_get (T := TX10) E fw_X10 53 (wC_53 g ad o22) rfl 5 (by decide) w_341 rfl rfl gdX10_find_10 ?_
  refine g_ldc (k := 1000000000) E gdX10_find_13 w_817 (by decide) ?_
  obtain ⟨o25, hc24, h⟩ := qB_of h
  refine g_Sv (As := [.ref (ad 57), iv 1000000000]) (rest := []) (w := wC g ad o25) E (c_J7_fill_53178__57 l g ad o22 1000000000 o25 hc24) okm_J7_fill_53178 w_124 w_818 rfl rfl (Nat.le_of_ble_eq_true rfl) ⟨Nat.le_of_ble_eq_true rfl, Nat.le_of_ble_eq_true rfl⟩ gdX10_find_15 ?_
  refine g_aload_n E gdX10_find_18 rfl 0 rfl ?_
  refine g_iconst E gdX10_find_19 ?_
  obtain ⟨o26, e_o26, h⟩ := qNm_of h
  refine g_puti (T := TX10) (ws' := wC g ad o26) E fw_X10 tyX10 tyX10_ok nmX10 53 (wC_53 g ad o25) rfl 8 (by decide) w_344 rfl rfl (by decide +kernel) (Nat.le_of_ble_eq_true rfl) (by rw [e_o26]; exact wC_p53_8 g ad o25 _) gdX10_find_20 ?_
  refine g_aload_n E gdX10_find_23 rfl 0 rfl ?_
  refine g_iconst E gdX10_find_24 ?_
  obtain ⟨o27, e_o27, h⟩ := qNm_of h
  refine g_puti (T := TX10) (ws' := wC g ad o27) E fw_X10 tyX10 tyX10_ok nmX10 53 (wC_53 g ad o26) rfl 9 (by decide) w_345 rfl rfl (by decide +kernel) (Nat.le_of_ble_eq_true rfl) (by rw [e_o27]; exact wC_p53_9 g ad o26 _) gdX10_find_25 ?_
  refine g_aload_n E gdX10_find_28 rfl 0 rfl ?_
  refine g_lconst (v := 0) E gdX10_find_29 (by decide) ?_
  obtain ⟨o28, e_o28, h⟩ := qNm_of h
  refine g_putl (T := TX10) (ws' := wC g ad o28) E fw_X10 tyX10 tyX10_ok nmX10 53 (wC_53 g ad o27) rfl 7 (by decide) w_343 rfl rfl (by decide +kernel) (Nat.le_of_ble_eq_true rfl) (by rw [e_o28]; exact wC_p53_7 g ad o27 _) gdX10_find_30 ?_
  refine g_aload_n E gdX10_find_33 rfl 0 rfl ?_
  refine g_iload E gdX10_find_34 4 rfl ?_
  obtain ⟨o29, e_o29, h⟩ := qNm_of h
  refine g_puti (T := TX10) (ws' := wC g ad o29) E fw_X10 tyX10 tyX10_ok nmX10 53 (wC_53 g ad o28) rfl 10 (by decide) w_346 rfl rfl (by decide +kernel) (Nat.le_of_ble_eq_true rfl) (by rw [e_o29]; exact wC_p53_10 g ad o28 _) gdX10_find_36 ?_
  refine g_aload_n E gdX10_find_39 rfl 0 rfl ?_
  refine g_aload_n E gdX10_find_40 rfl 1 rfl ?_
  refine g_iload_n E gdX10_find_41 rfl 2 rfl ?_
  refine g_iload E gdX10_find_42 4 rfl ?_
  obtain ⟨o32, hc31, h⟩ := qB_of h
  refine g_Vv (As := [.ref (ad 7), iv x2, iv x4]) (rest := []) (w := wC g ad o32) E (c_X10_rouseBeside l g ad o29 x2 x4 o32 hc31) okm_X10_rouseBeside okw_X10_rouseBeside w_819 rfl (wC_53 g ad o29) rfl rfl (Nat.le_of_ble_eq_true rfl) ⟨Nat.le_of_ble_eq_true rfl, Nat.le_of_ble_eq_true rfl⟩ gdX10_find_44 ?_
  refine g_iconst E gdX10_find_47 ?_
  refine g_istore E [(5, iv 0), (0, .ref (ad 53)), (1, .ref (ad 7)), (2, iv x2), (3, iv x3), (4, iv x4)] gdX10_find_48 (by decide) rfl ?_
  refine g_sub E [1, 2, 3, 4, 0] rfl ?_
  exact j50 o32 x2 x3 0 h
