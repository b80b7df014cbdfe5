set_option maxRecDepth 200000 in
theorem w_718 : Cond.code yX5_add cX5_add 5 (some .int) ∈ tb := tb_mem 718 (by rfl) rfl
set_option maxRecDepth 200000 in
theorem w_716 : Cond.instanceMethod yX5_add ∈ tb := tb_mem 716 (by decide +kernel) rfl
set_option maxRecDepth 200000 in
theorem w_717 : Cond.selects "CityRoad$Persons" yX5_add yX5_add ∈ tb := tb_mem 717 (by decide +kernel) rfl
set_option maxRecDepth 200000 in
theorem w_715 : Cond.methodLink "CityRoad" 194 yX5_add ∈ tb := tb_mem 715 (by decide +kernel) rfl
set_option maxRecDepth 200000 in
theorem w_906 : Cond.code yX4_routeOf cX4_routeOf 3 none ∈ tb := tb_mem 906 (by rfl) rfl
set_option maxRecDepth 200000 in
theorem w_904 : Cond.instanceMethod yX4_routeOf ∈ tb := tb_mem 904 (by decide +kernel) rfl
set_option maxRecDepth 200000 in
theorem w_905 : Cond.selects "CityRoad$Marks" yX4_routeOf yX4_routeOf ∈ tb := tb_mem 905 (by decide +kernel) rfl
set_option maxRecDepth 200000 in
theorem w_903 : Cond.methodLink "CityRoad" 266 yX4_routeOf ∈ tb := tb_mem 903 (by decide +kernel) rfl
set_option maxRecDepth 200000 in
theorem w_534 : Cond.code yJ7_rangeCheck_23922 cJ7_rangeCheck_23922 3 none ∈ tb := tb_mem 534 (by rfl) rfl
set_option maxRecDepth 200000 in
theorem w_533 : Cond.static yJ7_rangeCheck_23922 ∈ tb := tb_mem 533 (by decide +kernel) rfl
set_option maxRecDepth 200000 in
theorem w_532 : Cond.methodLink "java/util/Arrays" 13 yJ7_rangeCheck_23922 ∈ tb := tb_mem 532 (by decide +kernel) rfl
set_option maxRecDepth 200000 in
theorem w_127 : Cond.fieldLink "CityRoad$Shelf" 26 "CityRoad$Shelf" "blank" "I" ∈ tb := tb_mem 127 (by decide +kernel) rfl
set_option maxRecDepth 200000 in
theorem w_531 : Cond.code yJ7_fill_fda19 cJ7_fill_fda19 5 none ∈ tb := tb_mem 531 (by rfl) rfl
set_option maxRecDepth 200000 in
theorem w_530 : Cond.static yJ7_fill_fda19 ∈ tb := tb_mem 530 (by decide +kernel) rfl
set_option maxRecDepth 200000 in
theorem w_529 : Cond.methodLink "CityRoad$Shelf" 35 yJ7_fill_fda19 ∈ tb := tb_mem 529 (by decide +kernel) rfl
set_option maxRecDepth 200000 in
theorem w_528 : Cond.code yX8_layOut cX8_layOut 3 none ∈ tb := tb_mem 528 (by rfl) rfl
set_option maxRecDepth 200000 in
theorem w_526 : Cond.instanceMethod yX8_layOut ∈ tb := tb_mem 526 (by decide +kernel) rfl
set_option maxRecDepth 200000 in
theorem w_527 : Cond.selects "CityRoad$Shelf" yX8_layOut yX8_layOut ∈ tb := tb_mem 527 (by decide +kernel) rfl
set_option maxRecDepth 200000 in
theorem w_525 : Cond.methodLink "CityRoad" 103 yX8_layOut ∈ tb := tb_mem 525 (by decide +kernel) rfl
set_option maxRecDepth 200000 in
theorem w_763 : Cond.code yX7_numberAt cX7_numberAt 6 (some .int) ∈ tb := tb_mem 763 (by rfl) rfl
set_option maxRecDepth 200000 in
theorem w_762 : Cond.static yX7_numberAt ∈ tb := tb_mem 762 (by decide +kernel) rfl
set_option maxRecDepth 200000 in
theorem w_761 : Cond.methodLink "CityRoad$Rules" 59 yX7_numberAt ∈ tb := tb_mem 761 (by decide +kernel) rfl
set_option maxRecDepth 200000 in
theorem w_760 : Cond.methodLink "CityRoad$Rules" 53 yJ7_fill_fda19 ∈ tb := tb_mem 760 (by decide +kernel) rfl
set_option maxRecDepth 200000 in
theorem w_759 : Cond.code yX7_add cX7_add 8 (some .int) ∈ tb := tb_mem 759 (by rfl) rfl
set_option maxRecDepth 200000 in
theorem w_757 : Cond.instanceMethod yX7_add ∈ tb := tb_mem 757 (by decide +kernel) rfl
set_option maxRecDepth 200000 in
theorem w_758 : Cond.selects "CityRoad$Rules" yX7_add yX7_add ∈ tb := tb_mem 758 (by decide +kernel) rfl
set_option maxRecDepth 200000 in
theorem w_756 : Cond.methodLink "CityRoad" 206 yX7_add ∈ tb := tb_mem 756 (by decide +kernel) rfl
set_option maxRecDepth 200000 in
theorem w_948 : Cond.methodLink "CityRoad" 510 Lib.Math.max.name ∈ tb := tb_mem 948 (by decide +kernel) rfl
set_option maxRecDepth 200000 in
theorem w_954 : Cond.code yX4_showOn cX4_showOn 3 none ∈ tb := tb_mem 954 (by rfl) rfl
set_option maxRecDepth 200000 in
theorem w_952 : Cond.instanceMethod yX4_showOn ∈ tb := tb_mem 952 (by decide +kernel) rfl
set_option maxRecDepth 200000 in
theorem w_953 : Cond.selects "CityRoad$Marks" yX4_showOn yX4_showOn ∈ tb := tb_mem 953 (by decide +kernel) rfl
set_option maxRecDepth 200000 in
theorem w_951 : Cond.methodLink "CityRoad" 288 yX4_showOn ∈ tb := tb_mem 951 (by decide +kernel) rfl
set_option maxRecDepth 200000 in
theorem w_947 : Cond.code yX11_lowered cX11_lowered 2 (some .int) ∈ tb := tb_mem 947 (by rfl) rfl
set_option maxRecDepth 200000 in
theorem w_946 : Cond.static yX11_lowered ∈ tb := tb_mem 946 (by decide +kernel) rfl
set_option maxRecDepth 200000 in
theorem w_945 : Cond.methodLink "CityRoad" 285 yX11_lowered ∈ tb := tb_mem 945 (by decide +kernel) rfl
set_option maxRecDepth 200000 in
theorem w_679 : Cond.methodLink "CityRoad" 177 yX1_assess ∈ tb := tb_mem 679 (by decide +kernel) rfl
set_option maxRecDepth 200000 in
theorem w_925 : Cond.code yX3_around cX3_around 4 (some .long) ∈ tb := tb_mem 925 (by rfl) rfl
set_option maxRecDepth 200000 in
theorem w_924 : Cond.static yX3_around ∈ tb := tb_mem 924 (by decide +kernel) rfl
set_option maxRecDepth 200000 in
theorem w_923 : Cond.methodLink "CityRoad" 275 yX3_around ∈ tb := tb_mem 923 (by decide +kernel) rfl
set_option maxRecDepth 200000 in
theorem w_1327 : Cond.methodLink "CityRoad$Stopper" 30 yX3_onward ∈ tb := tb_mem 1327 (by decide +kernel) rfl
set_option maxRecDepth 200000 in
theorem w_439 : Cond.fieldLink "CityRoad$Stopper" 11 "CityRoad$Stopper" "open" "[J" ∈ tb := tb_mem 439 (by decide +kernel) rfl
set_option maxRecDepth 200000 in
theorem w_1328 : Cond.methodLink "CityRoad$Stopper" 34 yX3_bit ∈ tb := tb_mem 1328 (by decide +kernel) rfl
set_option maxRecDepth 200000 in
theorem w_1334 : Cond.methodLink "CityRoad$Stopper" 40 yX3_has ∈ tb := tb_mem 1334 (by decide +kernel) rfl
set_option maxRecDepth 200000 in
theorem w_1333 : Cond.constantLong "CityRoad$Stopper" 38 (-1) ∈ tb := tb_mem 1333 (by decide +kernel) rfl
set_option maxRecDepth 200000 in
theorem w_440 : Cond.fieldLink "CityRoad$Stopper" 17 "CityRoad$Stopper" "before" "[I" ∈ tb := tb_mem 440 (by decide +kernel) rfl
set_option maxRecDepth 200000 in
theorem w_441 : Cond.fieldLink "CityRoad$Stopper" 21 "CityRoad$Stopper" "queue" "[I" ∈ tb := tb_mem 441 (by decide +kernel) rfl
set_option maxRecDepth 200000 in
theorem w_444 : Cond.fieldLink "CityRoad$Stopper" 58 "CityRoad$Stopper" "queued" "I" ∈ tb := tb_mem 444 (by decide +kernel) rfl
set_option maxRecDepth 200000 in
theorem w_442 : Cond.fieldLink "CityRoad$Stopper" 24 "CityRoad$Stopper" "through" "[I" ∈ tb := tb_mem 442 (by decide +kernel) rfl
set_option maxRecDepth 200000 in
theorem w_1349 : Cond.code yX9_visit cX9_visit 3 none ∈ tb := tb_mem 1349 (by rfl) rfl
set_option maxRecDepth 200000 in
theorem w_102 : Cond.initialized "CityRoad$Stopper" ∈ tb := tb_mem 102 (by decide +kernel) rfl
set_option maxRecDepth 200000 in
theorem w_1348 : Cond.instanceMethod yX9_visit ∈ tb := tb_mem 1348 (by decide +kernel) rfl
set_option maxRecDepth 200000 in
theorem w_31 : Cond.selects "CityRoad$Stopper" yX9_visit yX9_visit ∈ tb := tb_mem 31 (by decide +kernel) rfl
set_option maxRecDepth 200000 in
theorem w_1346 : Cond.methodLink "CityRoad$Stopper" 62 yX9_visit ∈ tb := tb_mem 1346 (by decide +kernel) rfl
set_option maxRecDepth 200000 in
theorem w_1354 : Cond.methodLink "CityRoad$Stopper" 72 yX3_beside ∈ tb := tb_mem 1354 (by decide +kernel) rfl
theorem gdX11_over_0 : decode cX11_over 0 = .ok (.aload_n 0, 1) := by decide +kernel
theorem gdX11_over_1 : decode cX11_over 1 = .ok (.getfield 52, 3) := by decide +kernel
theorem gdX11_over_4 : decode cX11_over 4 = .ok (.iload_n 1, 1) := by decide +kernel
theorem gdX11_over_5 : decode cX11_over 5 = .ok (.invokevirtual 250, 3) := by decide +kernel
theorem gdX11_over_8 : decode cX11_over 8 = .ok (.ifCond .ne 5, 3) := by decide +kernel
theorem gdX11_over_13 : decode cX11_over 13 = .ok (.aload_n 0, 1) := by decide +kernel
theorem gdX11_over_14 : decode cX11_over 14 = .ok (.getfield 52, 3) := by decide +kernel
theorem gdX11_over_17 : decode cX11_over 17 = .ok (.iload_n 1, 1) := by decide +kernel
theorem gdX11_over_18 : decode cX11_over 18 = .ok (.iconst 1, 1) := by decide +kernel
theorem gdX11_over_19 : decode cX11_over 19 = .ok (.invokevirtual 251, 3) := by decide +kernel
theorem gdX11_over_22 : decode cX11_over 22 = .ok (.ifCond .ne 9, 3) := by decide +kernel
theorem gdX11_over_31 : decode cX11_over 31 = .ok (.aload_n 0, 1) := by decide +kernel
theorem gdX11_over_32 : decode cX11_over 32 = .ok (.aload_n 0, 1) := by decide +kernel
theorem gdX11_over_33 : decode cX11_over 33 = .ok (.getfield 52, 3) := by decide +kernel
theorem gdX11_over_36 : decode cX11_over 36 = .ok (.iload_n 1, 1) := by decide +kernel
theorem gdX11_over_37 : decode cX11_over 37 = .ok (.invokevirtual 254, 3) := by decide +kernel
theorem gdX11_over_40 : decode cX11_over 40 = .ok (.putfield 337, 3) := by decide +kernel
theorem gdX11_over_43 : decode cX11_over 43 = .ok (.aload_n 0, 1) := by decide +kernel
theorem gdX11_over_44 : decode cX11_over 44 = .ok (.getfield 52, 3) := by decide +kernel
theorem gdX11_over_47 : decode cX11_over 47 = .ok (.iload_n 1, 1) := by decide +kernel
theorem gdX11_over_48 : decode cX11_over 48 = .ok (.invokevirtual 322, 3) := by decide +kernel
theorem gdX11_over_51 : decode cX11_over 51 = .ok (.ireturn, 1) := by decide +kernel
theorem gdX11_over_25 : decode cX11_over 25 = .ok (.aload_n 0, 1) := by decide +kernel
theorem gdX11_over_26 : decode cX11_over 26 = .ok (.iconst 3, 1) := by decide +kernel
theorem gdX11_over_27 : decode cX11_over 27 = .ok (.invokevirtual 99, 3) := by decide +kernel
theorem gdX11_over_30 : decode cX11_over 30 = .ok (.ireturn, 1) := by decide +kernel
theorem gdX11_over_11 : decode cX11_over 11 = .ok (.iconst (-1), 1) := by decide +kernel
theorem gdX11_over_12 : decode cX11_over 12 = .ok (.ireturn, 1) := by decide +kernel
theorem gdX11_owed_79 : decode cX11_owed 79 = .ok (.aload_n 0, 1) := by decide +kernel
theorem gdX11_owed_80 : decode cX11_owed 80 = .ok (.lload_n 1, 1) := by decide +kernel
theorem gdX11_owed_81 : decode cX11_owed 81 = .ok (.putfield 417, 3) := by decide +kernel
theorem gdX11_owed_84 : decode cX11_owed 84 = .ok (.iload_n 3, 1) := by decide +kernel
theorem gdX11_owed_85 : decode cX11_owed 85 = .ok (.ireturn, 1) := by decide +kernel
theorem gdX11_owed_73 : decode cX11_owed 73 = .ok (.iinc 4 1, 3) := by decide +kernel
theorem gdX11_owed_76 : decode cX11_owed 76 = .ok (.goto (-69), 3) := by decide +kernel
theorem gdX11_owed_7 : decode cX11_owed 7 = .ok (.iload 4, 2) := by decide +kernel
theorem gdX11_owed_9 : decode cX11_owed 9 = .ok (.aload_n 0, 1) := by decide +kernel
theorem gdX11_owed_10 : decode cX11_owed 10 = .ok (.getfield 52, 3) := by decide +kernel
theorem gdX11_owed_13 : decode cX11_owed 13 = .ok (.invokevirtual 218, 3) := by decide +kernel
theorem gdX11_owed_16 : decode cX11_owed 16 = .ok (.if_icmp .ge 63, 3) := by decide +kernel
theorem gdX11_owed_19 : decode cX11_owed 19 = .ok (.aload_n 0, 1) := by decide +kernel
theorem gdX11_owed_20 : decode cX11_owed 20 = .ok (.getfield 52, 3) := by decide +kernel
theorem gdX11_owed_23 : decode cX11_owed 23 = .ok (.iload 4, 2) := by decide +kernel
theorem gdX11_owed_25 : decode cX11_owed 25 = .ok (.iconst 3, 1) := by decide +kernel
theorem gdX11_owed_26 : decode cX11_owed 26 = .ok (.invokevirtual 251, 3) := by decide +kernel
theorem gdX11_owed_29 : decode cX11_owed 29 = .ok (.ifCond .ne 6, 3) := by decide +kernel
theorem gdX11_owed_35 : decode cX11_owed 35 = .ok (.lload_n 1, 1) := by decide +kernel
theorem gdX11_owed_36 : decode cX11_owed 36 = .ok (.aload_n 0, 1) := by decide +kernel
theorem gdX11_owed_37 : decode cX11_owed 37 = .ok (.getfield 52, 3) := by decide +kernel
theorem gdX11_owed_40 : decode cX11_owed 40 = .ok (.iload 4, 2) := by decide +kernel
theorem gdX11_owed_42 : decode cX11_owed 42 = .ok (.invokevirtual 331, 3) := by decide +kernel
theorem gdX11_owed_45 : decode cX11_owed 45 = .ok (.i2l, 1) := by decide +kernel
theorem gdX11_owed_46 : decode cX11_owed 46 = .ok (.ladd, 1) := by decide +kernel
theorem gdX11_owed_47 : decode cX11_owed 47 = .ok (.lstore_n 1, 1) := by decide +kernel
theorem gdX11_owed_48 : decode cX11_owed 48 = .ok (.aload_n 0, 1) := by decide +kernel
theorem gdX11_owed_49 : decode cX11_owed 49 = .ok (.getfield 52, 3) := by decide +kernel
theorem gdX11_owed_52 : decode cX11_owed 52 = .ok (.iload 4, 2) := by decide +kernel
theorem gdX11_owed_54 : decode cX11_owed 54 = .ok (.invokevirtual 302, 3) := by decide +kernel
theorem gdX11_owed_57 : decode cX11_owed 57 = .ok (.iconst 3, 1) := by decide +kernel
theorem gdX11_owed_58 : decode cX11_owed 58 = .ok (.if_icmp .ne 15, 3) := by decide +kernel
theorem gdX11_owed_61 : decode cX11_owed 61 = .ok (.aload_n 0, 1) := by decide +kernel
theorem gdX11_owed_62 : decode cX11_owed 62 = .ok (.iload 4, 2) := by decide +kernel
theorem gdX11_owed_64 : decode cX11_owed 64 = .ok (.invokevirtual 414, 3) := by decide +kernel
theorem gdX11_owed_67 : decode cX11_owed 67 = .ok (.ifCond .eq 6, 3) := by decide +kernel
theorem gdX11_owed_70 : decode cX11_owed 70 = .ok (.iinc 3 1, 3) := by decide +kernel
theorem gdX11_owed_32 : decode cX11_owed 32 = .ok (.goto 41, 3) := by decide +kernel
theorem gdX11_owed_0 : decode cX11_owed 0 = .ok (.lconst 0, 1) := by decide +kernel
theorem gdX11_owed_1 : decode cX11_owed 1 = .ok (.lstore_n 1, 1) := by decide +kernel
theorem gdX11_owed_2 : decode cX11_owed 2 = .ok (.iconst 0, 1) := by decide +kernel
theorem gdX11_owed_3 : decode cX11_owed 3 = .ok (.istore_n 3, 1) := by decide +kernel
theorem gdX11_owed_4 : decode cX11_owed 4 = .ok (.iconst 0, 1) := by decide +kernel
theorem gdX11_owed_5 : decode cX11_owed 5 = .ok (.istore 4, 2) := by decide +kernel
theorem gdX11_park_68 : decode cX11_park 68 = .ok (.ireturn, 1) := by decide +kernel
theorem gdX11_park_0 : decode cX11_park 0 = .ok (.aload_n 0, 1) := by decide +kernel
theorem gdX11_park_1 : decode cX11_park 1 = .ok (.getfield 52, 3) := by decide +kernel
theorem gdX11_park_4 : decode cX11_park 4 = .ok (.iload_n 1, 1) := by decide +kernel
theorem gdX11_park_5 : decode cX11_park 5 = .ok (.invokevirtual 250, 3) := by decide +kernel
theorem gdX11_park_8 : decode cX11_park 8 = .ok (.ifCond .ne 5, 3) := by decide +kernel
theorem gdX11_park_13 : decode cX11_park 13 = .ok (.aload_n 0, 1) := by decide +kernel
theorem gdX11_park_14 : decode cX11_park 14 = .ok (.getfield 52, 3) := by decide +kernel
theorem gdX11_park_17 : decode cX11_park 17 = .ok (.iload_n 1, 1) := by decide +kernel
theorem gdX11_park_18 : decode cX11_park 18 = .ok (.iconst 1, 1) := by decide +kernel
theorem gdX11_park_19 : decode cX11_park 19 = .ok (.invokevirtual 251, 3) := by decide +kernel
theorem gdX11_park_22 : decode cX11_park 22 = .ok (.ifCond .ne 9, 3) := by decide +kernel
theorem gdX11_park_31 : decode cX11_park 31 = .ok (.aload_n 0, 1) := by decide +kernel
theorem gdX11_park_32 : decode cX11_park 32 = .ok (.getfield 26, 3) := by decide +kernel
theorem gdX11_park_35 : decode cX11_park 35 = .ok (.aload_n 0, 1) := by decide +kernel
theorem gdX11_park_36 : decode cX11_park 36 = .ok (.getfield 52, 3) := by decide +kernel
theorem gdX11_park_39 : decode cX11_park 39 = .ok (.iload_n 1, 1) := by decide +kernel
theorem gdX11_park_40 : decode cX11_park 40 = .ok (.invokevirtual 254, 3) := by decide +kernel
theorem gdX11_park_43 : decode cX11_park 43 = .ok (.invokevirtual 408, 3) := by decide +kernel
theorem gdX11_park_46 : decode cX11_park 46 = .ok (.istore_n 2, 1) := by decide +kernel
theorem gdX11_park_47 : decode cX11_park 47 = .ok (.aload_n 0, 1) := by decide +kernel
theorem gdX11_park_48 : decode cX11_park 48 = .ok (.iload_n 2, 1) := by decide +kernel
theorem gdX11_park_49 : decode cX11_park 49 = .ok (.invokevirtual 117, 3) := by decide +kernel
theorem gdX11_park_52 : decode cX11_park 52 = .ok (.pop, 1) := by decide +kernel
theorem gdX11_park_53 : decode cX11_park 53 = .ok (.iload_n 2, 1) := by decide +kernel
theorem gdX11_park_54 : decode cX11_park 54 = .ok (.aload_n 0, 1) := by decide +kernel
theorem gdX11_park_55 : decode cX11_park 55 = .ok (.bipush 6, 2) := by decide +kernel
theorem gdX11_park_57 : decode cX11_park 57 = .ok (.invokevirtual 228, 3) := by decide +kernel
theorem gdX11_park_60 : decode cX11_park 60 = .ok (.if_icmp .gt 7, 3) := by decide +kernel
theorem gdX11_park_67 : decode cX11_park 67 = .ok (.iconst 0, 1) := by decide +kernel
theorem gdX11_park_63 : decode cX11_park 63 = .ok (.iconst 1, 1) := by decide +kernel
theorem gdX11_park_64 : decode cX11_park 64 = .ok (.goto 4, 3) := by decide +kernel
theorem gdX11_park_25 : decode cX11_park 25 = .ok (.aload_n 0, 1) := by decide +kernel
theorem gdX11_park_26 : decode cX11_park 26 = .ok (.iconst 3, 1) := by decide +kernel
theorem gdX11_park_27 : decode cX11_park 27 = .ok (.invokevirtual 99, 3) := by decide +kernel
theorem gdX11_park_30 : decode cX11_park 30 = .ok (.ireturn, 1) := by decide +kernel
theorem gdX11_park_11 : decode cX11_park 11 = .ok (.iconst (-1), 1) := by decide +kernel
theorem gdX11_park_12 : decode cX11_park 12 = .ok (.ireturn, 1) := by decide +kernel
theorem gdX5_add_0 : decode cX5_add 0 = .ok (.aload_n 0, 1) := by decide +kernel
theorem gdX5_add_1 : decode cX5_add 1 = .ok (.getfield 25, 3) := by decide +kernel
theorem gdX5_add_4 : decode cX5_add 4 = .ok (.istore 4, 2) := by decide +kernel
theorem gdX5_add_6 : decode cX5_add 6 = .ok (.aload_n 0, 1) := by decide +kernel
theorem gdX5_add_7 : decode cX5_add 7 = .ok (.dup, 1) := by decide +kernel
theorem gdX5_add_8 : decode cX5_add 8 = .ok (.getfield 25, 3) := by decide +kernel
theorem gdX5_add_11 : decode cX5_add 11 = .ok (.iconst 1, 1) := by decide +kernel
theorem gdX5_add_12 : decode cX5_add 12 = .ok (.iadd, 1) := by decide +kernel
theorem gdX5_add_13 : decode cX5_add 13 = .ok (.putfield 25, 3) := by decide +kernel
theorem gdX5_add_16 : decode cX5_add 16 = .ok (.aload_n 0, 1) := by decide +kernel
theorem gdX5_add_17 : decode cX5_add 17 = .ok (.getfield 11, 3) := by decide +kernel
theorem gdX5_add_20 : decode cX5_add 20 = .ok (.iload 4, 2) := by decide +kernel
theorem gdX5_add_22 : decode cX5_add 22 = .ok (.bipush (-9), 2) := by decide +kernel
theorem gdX5_add_24 : decode cX5_add 24 = .ok (.iastore, 1) := by decide +kernel
theorem gdX5_add_25 : decode cX5_add 25 = .ok (.aload_n 0, 1) := by decide +kernel
theorem gdX5_add_26 : decode cX5_add 26 = .ok (.getfield 15, 3) := by decide +kernel
theorem gdX5_add_29 : decode cX5_add 29 = .ok (.iload 4, 2) := by decide +kernel
theorem gdX5_add_31 : decode cX5_add 31 = .ok (.iload_n 1, 1) := by decide +kernel
theorem gdX5_add_32 : decode cX5_add 32 = .ok (.iastore, 1) := by decide +kernel
theorem gdX5_add_33 : decode cX5_add 33 = .ok (.aload_n 0, 1) := by decide +kernel
theorem gdX5_add_34 : decode cX5_add 34 = .ok (.getfield 18, 3) := by decide +kernel
theorem gdX5_add_37 : decode cX5_add 37 = .ok (.iload 4, 2) := by decide +kernel
theorem gdX5_add_39 : decode cX5_add 39 = .ok (.iload_n 2, 1) := by decide +kernel
theorem gdX5_add_40 : decode cX5_add 40 = .ok (.bastore, 1) := by decide +kernel
theorem gdX5_add_41 : decode cX5_add 41 = .ok (.aload_n 0, 1) := by decide +kernel
theorem gdX5_add_42 : decode cX5_add 42 = .ok (.getfield 22, 3) := by decide +kernel
theorem gdX5_add_45 : decode cX5_add 45 = .ok (.iload 4, 2) := by decide +kernel
theorem gdX5_add_47 : decode cX5_add 47 = .ok (.iload_n 3, 1) := by decide +kernel
theorem gdX5_add_48 : decode cX5_add 48 = .ok (.iastore, 1) := by decide +kernel
theorem gdX5_add_49 : decode cX5_add 49 = .ok (.iload 4, 2) := by decide +kernel
theorem gdX5_add_51 : decode cX5_add 51 = .ok (.ireturn, 1) := by decide +kernel
theorem gdX11_person_46 : decode cX11_person 46 = .ok (.iconst (-1), 1) := by decide +kernel
theorem gdX11_person_47 : decode cX11_person 47 = .ok (.ireturn, 1) := by decide +kernel
theorem gdX11_person_110 : decode cX11_person 110 = .ok (.iload 5, 2) := by decide +kernel
theorem gdX11_person_112 : decode cX11_person 112 = .ok (.ireturn, 1) := by decide +kernel
theorem gdX11_person_84 : decode cX11_person 84 = .ok (.aload_n 0, 1) := by decide +kernel
theorem gdX11_person_85 : decode cX11_person 85 = .ok (.getfield 40, 3) := by decide +kernel
theorem gdX11_person_88 : decode cX11_person 88 = .ok (.iload_n 2, 1) := by decide +kernel
theorem gdX11_person_89 : decode cX11_person 89 = .ok (.iload_n 3, 1) := by decide +kernel
theorem gdX11_person_90 : decode cX11_person 90 = .ok (.iload 4, 2) := by decide +kernel
theorem gdX11_person_92 : decode cX11_person 92 = .ok (.invokevirtual 194, 3) := by decide +kernel
theorem gdX11_person_95 : decode cX11_person 95 = .ok (.istore 5, 2) := by decide +kernel
theorem gdX11_person_97 : decode cX11_person 97 = .ok (.iload_n 1, 1) := by decide +kernel
theorem gdX11_person_98 : decode cX11_person 98 = .ok (.bipush (-9), 2) := by decide +kernel
theorem gdX11_person_100 : decode cX11_person 100 = .ok (.if_icmp .eq 10, 3) := by decide +kernel
theorem gdX11_person_103 : decode cX11_person 103 = .ok (.aload_n 0, 1) := by decide +kernel
theorem gdX11_person_104 : decode cX11_person 104 = .ok (.iload 5, 2) := by decide +kernel
theorem gdX11_person_106 : decode cX11_person 106 = .ok (.iload_n 1, 1) := by decide +kernel
theorem gdX11_person_107 : decode cX11_person 107 = .ok (.invokevirtual 197, 3) := by decide +kernel
theorem gdX11_person_34 : decode cX11_person 34 = .ok (.iload 4, 2) := by decide +kernel
theorem gdX11_person_36 : decode cX11_person 36 = .ok (.ifCond .lt 10, 3) := by decide +kernel
theorem gdX11_person_39 : decode cX11_person 39 = .ok (.iload 4, 2) := by decide +kernel
theorem gdX11_person_41 : decode cX11_person 41 = .ok (.bipush 9, 2) := by decide +kernel
theorem gdX11_person_43 : decode cX11_person 43 = .ok (.if_icmp .le 5, 3) := by decide +kernel
theorem gdX11_person_48 : decode cX11_person 48 = .ok (.aload_n 0, 1) := by decide +kernel
theorem gdX11_person_49 : decode cX11_person 49 = .ok (.getfield 40, 3) := by decide +kernel
theorem gdX11_person_52 : decode cX11_person 52 = .ok (.invokevirtual 190, 3) := by decide +kernel
theorem gdX11_person_55 : decode cX11_person 55 = .ok (.bipush 40, 2) := by decide +kernel
theorem gdX11_person_57 : decode cX11_person 57 = .ok (.if_icmp .lt 6, 3) := by decide +kernel
theorem gdX11_person_63 : decode cX11_person 63 = .ok (.iload_n 1, 1) := by decide +kernel
theorem gdX11_person_64 : decode cX11_person 64 = .ok (.bipush (-9), 2) := by decide +kernel
theorem gdX11_person_66 : decode cX11_person 66 = .ok (.if_icmp .eq 18, 3) := by decide +kernel
theorem gdX11_person_69 : decode cX11_person 69 = .ok (.aload_n 0, 1) := by decide +kernel
theorem gdX11_person_70 : decode cX11_person 70 = .ok (.getfield 33, 3) := by decide +kernel
theorem gdX11_person_73 : decode cX11_person 73 = .ok (.iload_n 1, 1) := by decide +kernel
theorem gdX11_person_74 : decode cX11_person 74 = .ok (.invokevirtual 191, 3) := by decide +kernel
theorem gdX11_person_77 : decode cX11_person 77 = .ok (.iconst 1, 1) := by decide +kernel
theorem gdX11_person_78 : decode cX11_person 78 = .ok (.if_icmp .ge 6, 3) := by decide +kernel
theorem gdX11_person_81 : decode cX11_person 81 = .ok (.bipush (-4), 2) := by decide +kernel
theorem gdX11_person_83 : decode cX11_person 83 = .ok (.ireturn, 1) := by decide +kernel
theorem gdX11_person_60 : decode cX11_person 60 = .ok (.bipush (-2), 2) := by decide +kernel
theorem gdX11_person_62 : decode cX11_person 62 = .ok (.ireturn, 1) := by decide +kernel
theorem gdX11_person_19 : decode cX11_person 19 = .ok (.iload_n 2, 1) := by decide +kernel
theorem gdX11_person_20 : decode cX11_person 20 = .ok (.bipush (-9), 2) := by decide +kernel
theorem gdX11_person_22 : decode cX11_person 22 = .ok (.if_icmp .eq 12, 3) := by decide +kernel
theorem gdX11_person_25 : decode cX11_person 25 = .ok (.iload_n 2, 1) := by decide +kernel
theorem gdX11_person_26 : decode cX11_person 26 = .ok (.invokestatic 140, 3) := by decide +kernel
theorem gdX11_person_29 : decode cX11_person 29 = .ok (.ifCond .ne 5, 3) := by decide +kernel
theorem gdX11_person_32 : decode cX11_person 32 = .ok (.iconst (-1), 1) := by decide +kernel
theorem gdX11_person_33 : decode cX11_person 33 = .ok (.ireturn, 1) := by decide +kernel
theorem gdX11_person_0 : decode cX11_person 0 = .ok (.iload_n 1, 1) := by decide +kernel
theorem gdX11_person_1 : decode cX11_person 1 = .ok (.bipush (-9), 2) := by decide +kernel
theorem gdX11_person_3 : decode cX11_person 3 = .ok (.if_icmp .eq 16, 3) := by decide +kernel
theorem gdX11_person_6 : decode cX11_person 6 = .ok (.aload_n 0, 1) := by decide +kernel
theorem gdX11_person_7 : decode cX11_person 7 = .ok (.getfield 33, 3) := by decide +kernel
theorem gdX11_person_10 : decode cX11_person 10 = .ok (.iload_n 1, 1) := by decide +kernel
theorem gdX11_person_11 : decode cX11_person 11 = .ok (.invokevirtual 170, 3) := by decide +kernel
theorem gdX11_person_14 : decode cX11_person 14 = .ok (.ifCond .ne 5, 3) := by decide +kernel
theorem gdX11_person_17 : decode cX11_person 17 = .ok (.iconst (-1), 1) := by decide +kernel
theorem gdX11_person_18 : decode cX11_person 18 = .ok (.ireturn, 1) := by decide +kernel
theorem gdX11_put_0 : decode cX11_put 0 = .ok (.aload_n 0, 1) := by decide +kernel
theorem gdX11_put_1 : decode cX11_put 1 = .ok (.getfield 20, 3) := by decide +kernel
theorem gdX11_put_4 : decode cX11_put 4 = .ok (.iload_n 1, 1) := by decide +kernel
theorem gdX11_put_5 : decode cX11_put 5 = .ok (.invokevirtual 95, 3) := by decide +kernel
theorem gdX11_put_8 : decode cX11_put 8 = .ok (.ifCond .ne 5, 3) := by decide +kernel
theorem gdX11_put_13 : decode cX11_put 13 = .ok (.aload_n 0, 1) := by decide +kernel
theorem gdX11_put_14 : decode cX11_put 14 = .ok (.getfield 20, 3) := by decide +kernel
theorem gdX11_put_17 : decode cX11_put 17 = .ok (.iload_n 1, 1) := by decide +kernel
theorem gdX11_put_18 : decode cX11_put 18 = .ok (.invokevirtual 106, 3) := by decide +kernel
theorem gdX11_put_21 : decode cX11_put 21 = .ok (.ifCond .ne 9, 3) := by decide +kernel
theorem gdX11_put_30 : decode cX11_put 30 = .ok (.aload_n 0, 1) := by decide +kernel
theorem gdX11_put_31 : decode cX11_put 31 = .ok (.getfield 20, 3) := by decide +kernel
theorem gdX11_put_34 : decode cX11_put 34 = .ok (.iload_n 1, 1) := by decide +kernel
theorem gdX11_put_35 : decode cX11_put 35 = .ok (.iload_n 2, 1) := by decide +kernel
theorem gdX11_put_36 : decode cX11_put 36 = .ok (.invokevirtual 109, 3) := by decide +kernel
theorem gdX11_put_39 : decode cX11_put 39 = .ok (.ifCond .ne 9, 3) := by decide +kernel
theorem gdX11_put_48 : decode cX11_put 48 = .ok (.aload_n 0, 1) := by decide +kernel
theorem gdX11_put_49 : decode cX11_put 49 = .ok (.getfield 20, 3) := by decide +kernel
theorem gdX11_put_52 : decode cX11_put 52 = .ok (.iload_n 1, 1) := by decide +kernel
theorem gdX11_put_53 : decode cX11_put 53 = .ok (.iload_n 2, 1) := by decide +kernel
theorem gdX11_put_54 : decode cX11_put 54 = .ok (.iload_n 3, 1) := by decide +kernel
theorem gdX11_put_55 : decode cX11_put 55 = .ok (.i2b, 1) := by decide +kernel
theorem gdX11_put_56 : decode cX11_put 56 = .ok (.invokevirtual 113, 3) := by decide +kernel
theorem gdX11_put_59 : decode cX11_put 59 = .ok (.sipush 1000, 3) := by decide +kernel
theorem gdX11_put_62 : decode cX11_put 62 = .ok (.iadd, 1) := by decide +kernel
theorem gdX11_put_63 : decode cX11_put 63 = .ok (.ireturn, 1) := by decide +kernel
theorem gdX11_put_42 : decode cX11_put 42 = .ok (.aload_n 0, 1) := by decide +kernel
theorem gdX11_put_43 : decode cX11_put 43 = .ok (.iconst 2, 1) := by decide +kernel
theorem gdX11_put_44 : decode cX11_put 44 = .ok (.invokevirtual 99, 3) := by decide +kernel
theorem gdX11_put_47 : decode cX11_put 47 = .ok (.ireturn, 1) := by decide +kernel
theorem gdX11_put_24 : decode cX11_put 24 = .ok (.aload_n 0, 1) := by decide +kernel
theorem gdX11_put_25 : decode cX11_put 25 = .ok (.iconst 1, 1) := by decide +kernel
theorem gdX11_put_26 : decode cX11_put 26 = .ok (.invokevirtual 99, 3) := by decide +kernel
theorem gdX11_put_29 : decode cX11_put 29 = .ok (.ireturn, 1) := by decide +kernel
theorem gdX11_put_11 : decode cX11_put 11 = .ok (.iconst (-1), 1) := by decide +kernel
theorem gdX11_put_12 : decode cX11_put 12 = .ok (.ireturn, 1) := by decide +kernel
theorem gdX4_routeOf_0 : decode cX4_routeOf 0 = .ok (.aload_n 0, 1) := by decide +kernel
theorem gdX4_routeOf_1 : decode cX4_routeOf 1 = .ok (.getfield 21, 3) := by decide +kernel
theorem gdX4_routeOf_4 : decode cX4_routeOf 4 = .ok (.iload_n 1, 1) := by decide +kernel
theorem gdX4_routeOf_5 : decode cX4_routeOf 5 = .ok (.iconst 1, 1) := by decide +kernel
theorem gdX4_routeOf_6 : decode cX4_routeOf 6 = .ok (.iastore, 1) := by decide +kernel
theorem gdX4_routeOf_7 : decode cX4_routeOf 7 = .ok (.aload_n 0, 1) := by decide +kernel
theorem gdX4_routeOf_8 : decode cX4_routeOf 8 = .ok (.getfield 26, 3) := by decide +kernel
theorem gdX4_routeOf_11 : decode cX4_routeOf 11 = .ok (.iload_n 1, 1) := by decide +kernel
theorem gdX4_routeOf_12 : decode cX4_routeOf 12 = .ok (.bipush 64, 2) := by decide +kernel
theorem gdX4_routeOf_14 : decode cX4_routeOf 14 = .ok (.imul, 1) := by decide +kernel
theorem gdX4_routeOf_15 : decode cX4_routeOf 15 = .ok (.iload_n 2, 1) := by decide +kernel
theorem gdX4_routeOf_16 : decode cX4_routeOf 16 = .ok (.iastore, 1) := by decide +kernel
theorem gdX4_routeOf_17 : decode cX4_routeOf 17 = .ok (.aload_n 0, 1) := by decide +kernel
theorem gdX4_routeOf_18 : decode cX4_routeOf 18 = .ok (.getfield 29, 3) := by decide +kernel
theorem gdX4_routeOf_21 : decode cX4_routeOf 21 = .ok (.iload_n 1, 1) := by decide +kernel
theorem gdX4_routeOf_22 : decode cX4_routeOf 22 = .ok (.iload_n 2, 1) := by decide +kernel
theorem gdX4_routeOf_23 : decode cX4_routeOf 23 = .ok (.invokestatic 58, 3) := by decide +kernel
theorem gdX4_routeOf_26 : decode cX4_routeOf 26 = .ok (.lastore, 1) := by decide +kernel
theorem gdX4_routeOf_27 : decode cX4_routeOf 27 = .ok (.return_, 1) := by decide +kernel
theorem gdX11_ramp_18 : decode cX11_ramp 18 = .ok (.iconst (-1), 1) := by decide +kernel
theorem gdX11_ramp_19 : decode cX11_ramp 19 = .ok (.ireturn, 1) := by decide +kernel
theorem gdX11_ramp_104 : decode cX11_ramp 104 = .ok (.bipush (-4), 2) := by decide +kernel
theorem gdX11_ramp_106 : decode cX11_ramp 106 = .ok (.ireturn, 1) := by decide +kernel
theorem gdX11_ramp_86 : decode cX11_ramp 86 = .ok (.istore 5, 2) := by decide +kernel
theorem gdX11_ramp_88 : decode cX11_ramp 88 = .ok (.aload_n 0, 1) := by decide +kernel
theorem gdX11_ramp_89 : decode cX11_ramp 89 = .ok (.getfield 26, 3) := by decide +kernel
theorem gdX11_ramp_92 : decode cX11_ramp 92 = .ok (.iload_n 2, 1) := by decide +kernel
theorem gdX11_ramp_93 : decode cX11_ramp 93 = .ok (.invokevirtual 163, 3) := by decide +kernel
theorem gdX11_ramp_96 : decode cX11_ramp 96 = .ok (.ifCond .ne 8, 3) := by decide +kernel
theorem gdX11_ramp_99 : decode cX11_ramp 99 = .ok (.iload 5, 2) := by decide +kernel
theorem gdX11_ramp_101 : decode cX11_ramp 101 = .ok (.ifCond .ne 6, 3) := by decide +kernel
theorem gdX11_ramp_107 : decode cX11_ramp 107 = .ok (.aload_n 0, 1) := by decide +kernel
theorem gdX11_ramp_108 : decode cX11_ramp 108 = .ok (.getfield 52, 3) := by decide +kernel
theorem gdX11_ramp_111 : decode cX11_ramp 111 = .ok (.iconst 2, 1) := by decide +kernel
theorem gdX11_ramp_112 : decode cX11_ramp 112 = .ok (.aload_n 0, 1) := by decide +kernel
theorem gdX11_ramp_113 : decode cX11_ramp 113 = .ok (.getfield 136, 3) := by decide +kernel
theorem gdX11_ramp_116 : decode cX11_ramp 116 = .ok (.iload_n 1, 1) := by decide +kernel
theorem gdX11_ramp_117 : decode cX11_ramp 117 = .ok (.invokevirtual 235, 3) := by decide +kernel
theorem gdX11_ramp_120 : decode cX11_ramp 120 = .ok (.istore 6, 2) := by decide +kernel
theorem gdX11_ramp_122 : decode cX11_ramp 122 = .ok (.aload_n 0, 1) := by decide +kernel
theorem gdX11_ramp_123 : decode cX11_ramp 123 = .ok (.getfield 52, 3) := by decide +kernel
theorem gdX11_ramp_126 : decode cX11_ramp 126 = .ok (.iload 6, 2) := by decide +kernel
theorem gdX11_ramp_128 : decode cX11_ramp 128 = .ok (.iload_n 2, 1) := by decide +kernel
theorem gdX11_ramp_129 : decode cX11_ramp 129 = .ok (.invokevirtual 266, 3) := by decide +kernel
theorem gdX11_ramp_132 : decode cX11_ramp 132 = .ok (.iload 6, 2) := by decide +kernel
theorem gdX11_ramp_134 : decode cX11_ramp 134 = .ok (.ireturn, 1) := by decide +kernel
theorem gdX11_ramp_85 : decode cX11_ramp 85 = .ok (.iconst 0, 1) := by decide +kernel
theorem gdX11_ramp_0 : decode cX11_ramp 0 = .ok (.aload_n 0, 1) := by decide +kernel
theorem gdX11_ramp_1 : decode cX11_ramp 1 = .ok (.getfield 52, 3) := by decide +kernel
theorem gdX11_ramp_4 : decode cX11_ramp 4 = .ok (.iload_n 1, 1) := by decide +kernel
theorem gdX11_ramp_5 : decode cX11_ramp 5 = .ok (.invokevirtual 250, 3) := by decide +kernel
theorem gdX11_ramp_8 : decode cX11_ramp 8 = .ok (.ifCond .eq 10, 3) := by decide +kernel
theorem gdX11_ramp_11 : decode cX11_ramp 11 = .ok (.iload_n 2, 1) := by decide +kernel
theorem gdX11_ramp_12 : decode cX11_ramp 12 = .ok (.invokestatic 140, 3) := by decide +kernel
theorem gdX11_ramp_15 : decode cX11_ramp 15 = .ok (.ifCond .ne 5, 3) := by decide +kernel
theorem gdX11_ramp_20 : decode cX11_ramp 20 = .ok (.aload_n 0, 1) := by decide +kernel
theorem gdX11_ramp_21 : decode cX11_ramp 21 = .ok (.getfield 52, 3) := by decide +kernel
theorem gdX11_ramp_24 : decode cX11_ramp 24 = .ok (.invokevirtual 218, 3) := by decide +kernel
theorem gdX11_ramp_27 : decode cX11_ramp 27 = .ok (.bipush 24, 2) := by decide +kernel
theorem gdX11_ramp_29 : decode cX11_ramp 29 = .ok (.if_icmp .lt 6, 3) := by decide +kernel
theorem gdX11_ramp_35 : decode cX11_ramp 35 = .ok (.aload_n 0, 1) := by decide +kernel
theorem gdX11_ramp_36 : decode cX11_ramp 36 = .ok (.getfield 52, 3) := by decide +kernel
theorem gdX11_ramp_39 : decode cX11_ramp 39 = .ok (.iload_n 1, 1) := by decide +kernel
theorem gdX11_ramp_40 : decode cX11_ramp 40 = .ok (.iconst 1, 1) := by decide +kernel
theorem gdX11_ramp_41 : decode cX11_ramp 41 = .ok (.invokevirtual 251, 3) := by decide +kernel
theorem gdX11_ramp_44 : decode cX11_ramp 44 = .ok (.ifCond .ne 9, 3) := by decide +kernel
theorem gdX11_ramp_53 : decode cX11_ramp 53 = .ok (.aload_n 0, 1) := by decide +kernel
theorem gdX11_ramp_54 : decode cX11_ramp 54 = .ok (.getfield 52, 3) := by decide +kernel
theorem gdX11_ramp_57 : decode cX11_ramp 57 = .ok (.iload_n 1, 1) := by decide +kernel
theorem gdX11_ramp_58 : decode cX11_ramp 58 = .ok (.invokevirtual 254, 3) := by decide +kernel
theorem gdX11_ramp_61 : decode cX11_ramp 61 = .ok (.lstore_n 3, 1) := by decide +kernel
theorem gdX11_ramp_62 : decode cX11_ramp 62 = .ok (.lload_n 3, 1) := by decide +kernel
theorem gdX11_ramp_63 : decode cX11_ramp 63 = .ok (.invokestatic 258, 3) := by decide +kernel
theorem gdX11_ramp_66 : decode cX11_ramp 66 = .ok (.iload_n 2, 1) := by decide +kernel
theorem gdX11_ramp_67 : decode cX11_ramp 67 = .ok (.invokestatic 262, 3) := by decide +kernel
theorem gdX11_ramp_70 : decode cX11_ramp 70 = .ok (.ifCond .eq 15, 3) := by decide +kernel
theorem gdX11_ramp_73 : decode cX11_ramp 73 = .ok (.lload_n 3, 1) := by decide +kernel
theorem gdX11_ramp_74 : decode cX11_ramp 74 = .ok (.iload_n 2, 1) := by decide +kernel
theorem gdX11_ramp_75 : decode cX11_ramp 75 = .ok (.invokestatic 262, 3) := by decide +kernel
theorem gdX11_ramp_78 : decode cX11_ramp 78 = .ok (.ifCond .ne 7, 3) := by decide +kernel
theorem gdX11_ramp_81 : decode cX11_ramp 81 = .ok (.iconst 1, 1) := by decide +kernel
theorem gdX11_ramp_82 : decode cX11_ramp 82 = .ok (.goto 4, 3) := by decide +kernel
theorem gdX11_ramp_47 : decode cX11_ramp 47 = .ok (.aload_n 0, 1) := by decide +kernel
theorem gdX11_ramp_48 : decode cX11_ramp 48 = .ok (.iconst 3, 1) := by decide +kernel
theorem gdX11_ramp_49 : decode cX11_ramp 49 = .ok (.invokevirtual 99, 3) := by decide +kernel
theorem gdX11_ramp_52 : decode cX11_ramp 52 = .ok (.ireturn, 1) := by decide +kernel
theorem gdX11_ramp_32 : decode cX11_ramp 32 = .ok (.bipush (-2), 2) := by decide +kernel
theorem gdX11_ramp_34 : decode cX11_ramp 34 = .ok (.ireturn, 1) := by decide +kernel
theorem gdJ7_rangeCheck_23922_0 : decode cJ7_rangeCheck_23922 0 = .ok (.iload_n 1, 1) := by decide +kernel
theorem gdJ7_rangeCheck_23922_1 : decode cJ7_rangeCheck_23922 1 = .ok (.iload_n 2, 1) := by decide +kernel
theorem gdJ7_rangeCheck_23922_2 : decode cJ7_rangeCheck_23922 2 = .ok (.if_icmp .le 44, 3) := by decide +kernel
theorem gdJ7_rangeCheck_23922_46 : decode cJ7_rangeCheck_23922 46 = .ok (.iload_n 1, 1) := by decide +kernel
theorem gdJ7_rangeCheck_23922_47 : decode cJ7_rangeCheck_23922 47 = .ok (.ifCond .ge 12, 3) := by decide +kernel
theorem gdJ7_rangeCheck_23922_59 : decode cJ7_rangeCheck_23922 59 = .ok (.iload_n 2, 1) := by decide +kernel
theorem gdJ7_rangeCheck_23922_60 : decode cJ7_rangeCheck_23922 60 = .ok (.iload_n 0, 1) := by decide +kernel
theorem gdJ7_rangeCheck_23922_61 : decode cJ7_rangeCheck_23922 61 = .ok (.if_icmp .le 12, 3) := by decide +kernel
theorem gdJ7_rangeCheck_23922_73 : decode cJ7_rangeCheck_23922 73 = .ok (.return_, 1) := by decide +kernel
theorem gdJ7_rangeCheck_23922_64 : decode cJ7_rangeCheck_23922 64 = .ok (.new 68, 3) := by decide +kernel
theorem gdJ7_rangeCheck_23922_50 : decode cJ7_rangeCheck_23922 50 = .ok (.new 68, 3) := by decide +kernel
theorem gdJ7_rangeCheck_23922_5 : decode cJ7_rangeCheck_23922 5 = .ok (.new 43, 3) := by decide +kernel
theorem gdJ7_fill_fda19_27 : decode cJ7_fill_fda19 27 = .ok (.return_, 1) := by decide +kernel
theorem gdJ7_fill_fda19_10 : decode cJ7_fill_fda19 10 = .ok (.iload 4, 2) := by decide +kernel
theorem gdJ7_fill_fda19_12 : decode cJ7_fill_fda19 12 = .ok (.iload_n 2, 1) := by decide +kernel
theorem gdJ7_fill_fda19_13 : decode cJ7_fill_fda19 13 = .ok (.if_icmp .ge 14, 3) := by decide +kernel
theorem gdJ7_fill_fda19_16 : decode cJ7_fill_fda19 16 = .ok (.aload_n 0, 1) := by decide +kernel
theorem gdJ7_fill_fda19_17 : decode cJ7_fill_fda19 17 = .ok (.iload 4, 2) := by decide +kernel
theorem gdJ7_fill_fda19_19 : decode cJ7_fill_fda19 19 = .ok (.iload_n 3, 1) := by decide +kernel
theorem gdJ7_fill_fda19_20 : decode cJ7_fill_fda19 20 = .ok (.iastore, 1) := by decide +kernel
theorem gdJ7_fill_fda19_21 : decode cJ7_fill_fda19 21 = .ok (.iinc 4 1, 3) := by decide +kernel
theorem gdJ7_fill_fda19_24 : decode cJ7_fill_fda19 24 = .ok (.goto (-14), 3) := by decide +kernel
theorem gdJ7_fill_fda19_0 : decode cJ7_fill_fda19 0 = .ok (.aload_n 0, 1) := by decide +kernel
theorem gdJ7_fill_fda19_1 : decode cJ7_fill_fda19 1 = .ok (.arraylength, 1) := by decide +kernel
theorem gdJ7_fill_fda19_2 : decode cJ7_fill_fda19 2 = .ok (.iload_n 1, 1) := by decide +kernel
theorem gdJ7_fill_fda19_3 : decode cJ7_fill_fda19 3 = .ok (.iload_n 2, 1) := by decide +kernel
theorem gdJ7_fill_fda19_4 : decode cJ7_fill_fda19 4 = .ok (.invokestatic 13, 3) := by decide +kernel
theorem gdJ7_fill_fda19_7 : decode cJ7_fill_fda19 7 = .ok (.iload_n 1, 1) := by decide +kernel
theorem gdJ7_fill_fda19_8 : decode cJ7_fill_fda19 8 = .ok (.istore 4, 2) := by decide +kernel
theorem gdX8_layOut_0 : decode cX8_layOut 0 = .ok (.aload_n 0, 1) := by decide +kernel
theorem gdX8_layOut_1 : decode cX8_layOut 1 = .ok (.getfield 9, 3) := by decide +kernel
theorem gdX8_layOut_4 : decode cX8_layOut 4 = .ok (.iload_n 1, 1) := by decide +kernel
theorem gdX8_layOut_5 : decode cX8_layOut 5 = .ok (.iload_n 2, 1) := by decide +kernel
theorem gdX8_layOut_6 : decode cX8_layOut 6 = .ok (.iastore, 1) := by decide +kernel
theorem gdX8_layOut_7 : decode cX8_layOut 7 = .ok (.aload_n 0, 1) := by decide +kernel
theorem gdX8_layOut_8 : decode cX8_layOut 8 = .ok (.getfield 13, 3) := by decide +kernel
theorem gdX8_layOut_11 : decode cX8_layOut 11 = .ok (.iload_n 1, 1) := by decide +kernel
theorem gdX8_layOut_12 : decode cX8_layOut 12 = .ok (.bipush 40, 2) := by decide +kernel
theorem gdX8_layOut_14 : decode cX8_layOut 14 = .ok (.imul, 1) := by decide +kernel
theorem gdX8_layOut_15 : decode cX8_layOut 15 = .ok (.iload_n 1, 1) := by decide +kernel
theorem gdX8_layOut_16 : decode cX8_layOut 16 = .ok (.bipush 40, 2) := by decide +kernel
theorem gdX8_layOut_18 : decode cX8_layOut 18 = .ok (.imul, 1) := by decide +kernel
theorem gdX8_layOut_19 : decode cX8_layOut 19 = .ok (.iload_n 2, 1) := by decide +kernel
theorem gdX8_layOut_20 : decode cX8_layOut 20 = .ok (.iadd, 1) := by decide +kernel
theorem gdX8_layOut_21 : decode cX8_layOut 21 = .ok (.aload_n 0, 1) := by decide +kernel
theorem gdX8_layOut_22 : decode cX8_layOut 22 = .ok (.getfield 26, 3) := by decide +kernel
theorem gdX8_layOut_25 : decode cX8_layOut 25 = .ok (.invokestatic 35, 3) := by decide +kernel
theorem gdX8_layOut_28 : decode cX8_layOut 28 = .ok (.return_, 1) := by decide +kernel
theorem gdX11_row_17 : decode cX11_row 17 = .ok (.iconst (-1), 1) := by decide +kernel
theorem gdX11_row_18 : decode cX11_row 18 = .ok (.ireturn, 1) := by decide +kernel
theorem gdX11_row_0 : decode cX11_row 0 = .ok (.aload_n 0, 1) := by decide +kernel
theorem gdX11_row_1 : decode cX11_row 1 = .ok (.getfield 12, 3) := by decide +kernel
theorem gdX11_row_4 : decode cX11_row 4 = .ok (.iload_n 1, 1) := by decide +kernel
theorem gdX11_row_5 : decode cX11_row 5 = .ok (.invokevirtual 95, 3) := by decide +kernel
theorem gdX11_row_8 : decode cX11_row 8 = .ok (.ifCond .eq 9, 3) := by decide +kernel
theorem gdX11_row_11 : decode cX11_row 11 = .ok (.iload_n 2, 1) := by decide +kernel
theorem gdX11_row_12 : decode cX11_row 12 = .ok (.bipush 40, 2) := by decide +kernel
theorem gdX11_row_14 : decode cX11_row 14 = .ok (.if_icmp .le 5, 3) := by decide +kernel
theorem gdX11_row_19 : decode cX11_row 19 = .ok (.iload_n 2, 1) := by decide +kernel
theorem gdX11_row_20 : decode cX11_row 20 = .ok (.ifCond .ge 9, 3) := by decide +kernel
theorem gdX11_row_29 : decode cX11_row 29 = .ok (.aload_n 0, 1) := by decide +kernel
theorem gdX11_row_30 : decode cX11_row 30 = .ok (.getfield 12, 3) := by decide +kernel
theorem gdX11_row_33 : decode cX11_row 33 = .ok (.iload_n 1, 1) := by decide +kernel
theorem gdX11_row_34 : decode cX11_row 34 = .ok (.iload_n 2, 1) := by decide +kernel
theorem gdX11_row_35 : decode cX11_row 35 = .ok (.invokevirtual 103, 3) := by decide +kernel
theorem gdX11_row_38 : decode cX11_row 38 = .ok (.iload_n 2, 1) := by decide +kernel
theorem gdX11_row_39 : decode cX11_row 39 = .ok (.ireturn, 1) := by decide +kernel
theorem gdX11_row_23 : decode cX11_row 23 = .ok (.aload_n 0, 1) := by decide +kernel
theorem gdX11_row_24 : decode cX11_row 24 = .ok (.iconst 5, 1) := by decide +kernel
theorem gdX11_row_25 : decode cX11_row 25 = .ok (.invokevirtual 99, 3) := by decide +kernel
theorem gdX11_row_28 : decode cX11_row 28 = .ok (.ireturn, 1) := by decide +kernel
theorem gdX7_numberAt_38 : decode cX7_numberAt 38 = .ok (.iload 4, 2) := by decide +kernel
theorem gdX7_numberAt_40 : decode cX7_numberAt 40 = .ok (.ireturn, 1) := by decide +kernel
theorem gdX7_numberAt_6 : decode cX7_numberAt 6 = .ok (.iload 5, 2) := by decide +kernel
theorem gdX7_numberAt_8 : decode cX7_numberAt 8 = .ok (.iload_n 2, 1) := by decide +kernel
theorem gdX7_numberAt_9 : decode cX7_numberAt 9 = .ok (.iload_n 3, 1) := by decide +kernel
theorem gdX7_numberAt_10 : decode cX7_numberAt 10 = .ok (.iadd, 1) := by decide +kernel
theorem gdX7_numberAt_11 : decode cX7_numberAt 11 = .ok (.if_icmp .ge 27, 3) := by decide +kernel
theorem gdX7_numberAt_14 : decode cX7_numberAt 14 = .ok (.bipush 10, 2) := by decide +kernel
theorem gdX7_numberAt_16 : decode cX7_numberAt 16 = .ok (.iload 4, 2) := by decide +kernel
theorem gdX7_numberAt_18 : decode cX7_numberAt 18 = .ok (.imul, 1) := by decide +kernel
theorem gdX7_numberAt_19 : decode cX7_numberAt 19 = .ok (.aload_n 0, 1) := by decide +kernel
theorem gdX7_numberAt_20 : decode cX7_numberAt 20 = .ok (.iload_n 1, 1) := by decide +kernel
theorem gdX7_numberAt_21 : decode cX7_numberAt 21 = .ok (.iload 5, 2) := by decide +kernel
theorem gdX7_numberAt_23 : decode cX7_numberAt 23 = .ok (.invokevirtual 34, 3) := by decide +kernel
theorem gdX7_numberAt_26 : decode cX7_numberAt 26 = .ok (.iadd, 1) := by decide +kernel
theorem gdX7_numberAt_27 : decode cX7_numberAt 27 = .ok (.bipush 48, 2) := by decide +kernel
theorem gdX7_numberAt_29 : decode cX7_numberAt 29 = .ok (.isub, 1) := by decide +kernel
theorem gdX7_numberAt_30 : decode cX7_numberAt 30 = .ok (.istore 4, 2) := by decide +kernel
theorem gdX7_numberAt_32 : decode cX7_numberAt 32 = .ok (.iinc 5 1, 3) := by decide +kernel
theorem gdX7_numberAt_35 : decode cX7_numberAt 35 = .ok (.goto (-29), 3) := by decide +kernel
theorem gdX7_numberAt_0 : decode cX7_numberAt 0 = .ok (.iconst 0, 1) := by decide +kernel
theorem gdX7_numberAt_1 : decode cX7_numberAt 1 = .ok (.istore 4, 2) := by decide +kernel
theorem gdX7_numberAt_3 : decode cX7_numberAt 3 = .ok (.iload_n 2, 1) := by decide +kernel
theorem gdX7_numberAt_4 : decode cX7_numberAt 4 = .ok (.istore 5, 2) := by decide +kernel
theorem gdX7_add_125 : decode cX7_add 125 = .ok (.iload 5, 2) := by decide +kernel
theorem gdX7_add_127 : decode cX7_add 127 = .ok (.ireturn, 1) := by decide +kernel
theorem gdX7_add_119 : decode cX7_add 119 = .ok (.iinc 6 1, 3) := by decide +kernel
theorem gdX7_add_122 : decode cX7_add 122 = .ok (.goto (-66), 3) := by decide +kernel
theorem gdX7_add_56 : decode cX7_add 56 = .ok (.iload 6, 2) := by decide +kernel
theorem gdX7_add_58 : decode cX7_add 58 = .ok (.aload_n 1, 1) := by decide +kernel
theorem gdX7_add_59 : decode cX7_add 59 = .ok (.iload_n 2, 1) := by decide +kernel
theorem gdX7_add_60 : decode cX7_add 60 = .ok (.invokevirtual 42, 3) := by decide +kernel
theorem gdX7_add_63 : decode cX7_add 63 = .ok (.if_icmp .ge 62, 3) := by decide +kernel
theorem gdX7_add_66 : decode cX7_add 66 = .ok (.aload_n 1, 1) := by decide +kernel
theorem gdX7_add_67 : decode cX7_add 67 = .ok (.iload_n 2, 1) := by decide +kernel
theorem gdX7_add_68 : decode cX7_add 68 = .ok (.iload 6, 2) := by decide +kernel
theorem gdX7_add_70 : decode cX7_add 70 = .ok (.invokevirtual 34, 3) := by decide +kernel
theorem gdX7_add_73 : decode cX7_add 73 = .ok (.invokestatic 46, 3) := by decide +kernel
theorem gdX7_add_76 : decode cX7_add 76 = .ok (.istore 7, 2) := by decide +kernel
theorem gdX7_add_78 : decode cX7_add 78 = .ok (.iload 7, 2) := by decide +kernel
theorem gdX7_add_80 : decode cX7_add 80 = .ok (.bipush (-9), 2) := by decide +kernel
theorem gdX7_add_82 : decode cX7_add 82 = .ok (.if_icmp .ne 6, 3) := by decide +kernel
theorem gdX7_add_88 : decode cX7_add 88 = .ok (.aload_n 0, 1) := by decide +kernel
theorem gdX7_add_89 : decode cX7_add 89 = .ok (.getfield 18, 3) := by decide +kernel
theorem gdX7_add_92 : decode cX7_add 92 = .ok (.iload 5, 2) := by decide +kernel
theorem gdX7_add_94 : decode cX7_add 94 = .ok (.bipush 8, 2) := by decide +kernel
theorem gdX7_add_96 : decode cX7_add 96 = .ok (.imul, 1) := by decide +kernel
theorem gdX7_add_97 : decode cX7_add 97 = .ok (.iload 7, 2) := by decide +kernel
theorem gdX7_add_99 : decode cX7_add 99 = .ok (.iadd, 1) := by decide +kernel
theorem gdX7_add_100 : decode cX7_add 100 = .ok (.aload_n 1, 1) := by decide +kernel
theorem gdX7_add_101 : decode cX7_add 101 = .ok (.iload_n 2, 1) := by decide +kernel
theorem gdX7_add_102 : decode cX7_add 102 = .ok (.iload 6, 2) := by decide +kernel
theorem gdX7_add_104 : decode cX7_add 104 = .ok (.iconst 1, 1) := by decide +kernel
theorem gdX7_add_105 : decode cX7_add 105 = .ok (.iadd, 1) := by decide +kernel
theorem gdX7_add_106 : decode cX7_add 106 = .ok (.aload_n 1, 1) := by decide +kernel
theorem gdX7_add_107 : decode cX7_add 107 = .ok (.iload_n 2, 1) := by decide +kernel
theorem gdX7_add_108 : decode cX7_add 108 = .ok (.iload 6, 2) := by decide +kernel
theorem gdX7_add_110 : decode cX7_add 110 = .ok (.iconst 1, 1) := by decide +kernel
theorem gdX7_add_111 : decode cX7_add 111 = .ok (.iadd, 1) := by decide +kernel
theorem gdX7_add_112 : decode cX7_add 112 = .ok (.invokestatic 49, 3) := by decide +kernel
theorem gdX7_add_115 : decode cX7_add 115 = .ok (.invokestatic 59, 3) := by decide +kernel
theorem gdX7_add_118 : decode cX7_add 118 = .ok (.iastore, 1) := by decide +kernel
theorem gdX7_add_85 : decode cX7_add 85 = .ok (.goto 34, 3) := by decide +kernel
theorem gdX7_add_0 : decode cX7_add 0 = .ok (.aload_n 0, 1) := by decide +kernel
theorem gdX7_add_1 : decode cX7_add 1 = .ok (.getfield 21, 3) := by decide +kernel
theorem gdX7_add_4 : decode cX7_add 4 = .ok (.istore 5, 2) := by decide +kernel
theorem gdX7_add_6 : decode cX7_add 6 = .ok (.aload_n 0, 1) := by decide +kernel
theorem gdX7_add_7 : decode cX7_add 7 = .ok (.dup, 1) := by decide +kernel
theorem gdX7_add_8 : decode cX7_add 8 = .ok (.getfield 21, 3) := by decide +kernel
theorem gdX7_add_11 : decode cX7_add 11 = .ok (.iconst 1, 1) := by decide +kernel
theorem gdX7_add_12 : decode cX7_add 12 = .ok (.iadd, 1) := by decide +kernel
theorem gdX7_add_13 : decode cX7_add 13 = .ok (.putfield 21, 3) := by decide +kernel
theorem gdX7_add_16 : decode cX7_add 16 = .ok (.aload_n 0, 1) := by decide +kernel
theorem gdX7_add_17 : decode cX7_add 17 = .ok (.getfield 11, 3) := by decide +kernel
theorem gdX7_add_20 : decode cX7_add 20 = .ok (.iload 5, 2) := by decide +kernel
theorem gdX7_add_22 : decode cX7_add 22 = .ok (.iload_n 3, 1) := by decide +kernel
theorem gdX7_add_23 : decode cX7_add 23 = .ok (.iastore, 1) := by decide +kernel
theorem gdX7_add_24 : decode cX7_add 24 = .ok (.aload_n 0, 1) := by decide +kernel
theorem gdX7_add_25 : decode cX7_add 25 = .ok (.getfield 15, 3) := by decide +kernel
theorem gdX7_add_28 : decode cX7_add 28 = .ok (.iload 5, 2) := by decide +kernel
theorem gdX7_add_30 : decode cX7_add 30 = .ok (.iload 4, 2) := by decide +kernel
theorem gdX7_add_32 : decode cX7_add 32 = .ok (.iastore, 1) := by decide +kernel
theorem gdX7_add_33 : decode cX7_add 33 = .ok (.aload_n 0, 1) := by decide +kernel
theorem gdX7_add_34 : decode cX7_add 34 = .ok (.getfield 18, 3) := by decide +kernel
theorem gdX7_add_37 : decode cX7_add 37 = .ok (.iload 5, 2) := by decide +kernel
theorem gdX7_add_39 : decode cX7_add 39 = .ok (.bipush 8, 2) := by decide +kernel
theorem gdX7_add_41 : decode cX7_add 41 = .ok (.imul, 1) := by decide +kernel
theorem gdX7_add_42 : decode cX7_add 42 = .ok (.iload 5, 2) := by decide +kernel
theorem gdX7_add_44 : decode cX7_add 44 = .ok (.iconst 1, 1) := by decide +kernel
theorem gdX7_add_45 : decode cX7_add 45 = .ok (.iadd, 1) := by decide +kernel
theorem gdX7_add_46 : decode cX7_add 46 = .ok (.bipush 8, 2) := by decide +kernel
theorem gdX7_add_48 : decode cX7_add 48 = .ok (.imul, 1) := by decide +kernel
theorem gdX7_add_49 : decode cX7_add 49 = .ok (.iconst (-1), 1) := by decide +kernel
theorem gdX7_add_50 : decode cX7_add 50 = .ok (.invokestatic 53, 3) := by decide +kernel
theorem gdX7_add_53 : decode cX7_add 53 = .ok (.iconst 0, 1) := by decide +kernel
theorem gdX7_add_54 : decode cX7_add 54 = .ok (.istore 6, 2) := by decide +kernel
theorem gdX11_rule_18 : decode cX11_rule 18 = .ok (.iconst (-1), 1) := by decide +kernel
theorem gdX11_rule_19 : decode cX11_rule 19 = .ok (.ireturn, 1) := by decide +kernel
theorem gdX11_rule_0 : decode cX11_rule 0 = .ok (.aload_n 0, 1) := by decide +kernel
theorem gdX11_rule_1 : decode cX11_rule 1 = .ok (.getfield 20, 3) := by decide +kernel
theorem gdX11_rule_4 : decode cX11_rule 4 = .ok (.iload_n 1, 1) := by decide +kernel
theorem gdX11_rule_5 : decode cX11_rule 5 = .ok (.invokevirtual 95, 3) := by decide +kernel
theorem gdX11_rule_8 : decode cX11_rule 8 = .ok (.ifCond .eq 10, 3) := by decide +kernel
theorem gdX11_rule_11 : decode cX11_rule 11 = .ok (.iload_n 2, 1) := by decide +kernel
theorem gdX11_rule_12 : decode cX11_rule 12 = .ok (.invokestatic 180, 3) := by decide +kernel
theorem gdX11_rule_15 : decode cX11_rule 15 = .ok (.ifCond .ne 5, 3) := by decide +kernel
theorem gdX11_rule_20 : decode cX11_rule 20 = .ok (.aload_n 0, 1) := by decide +kernel
theorem gdX11_rule_21 : decode cX11_rule 21 = .ok (.getfield 45, 3) := by decide +kernel
theorem gdX11_rule_24 : decode cX11_rule 24 = .ok (.invokevirtual 205, 3) := by decide +kernel
theorem gdX11_rule_27 : decode cX11_rule 27 = .ok (.bipush 16, 2) := by decide +kernel
theorem gdX11_rule_29 : decode cX11_rule 29 = .ok (.if_icmp .lt 6, 3) := by decide +kernel
theorem gdX11_rule_35 : decode cX11_rule 35 = .ok (.aload_n 0, 1) := by decide +kernel
theorem gdX11_rule_36 : decode cX11_rule 36 = .ok (.getfield 20, 3) := by decide +kernel
theorem gdX11_rule_39 : decode cX11_rule 39 = .ok (.iload_n 1, 1) := by decide +kernel
theorem gdX11_rule_40 : decode cX11_rule 40 = .ok (.invokevirtual 106, 3) := by decide +kernel
theorem gdX11_rule_43 : decode cX11_rule 43 = .ok (.ifCond .ne 9, 3) := by decide +kernel
theorem gdX11_rule_52 : decode cX11_rule 52 = .ok (.aload_n 0, 1) := by decide +kernel
theorem gdX11_rule_53 : decode cX11_rule 53 = .ok (.getfield 20, 3) := by decide +kernel
theorem gdX11_rule_56 : decode cX11_rule 56 = .ok (.iload_n 1, 1) := by decide +kernel
theorem gdX11_rule_57 : decode cX11_rule 57 = .ok (.invokestatic 132, 3) := by decide +kernel
theorem gdX11_rule_60 : decode cX11_rule 60 = .ok (.bipush (-9), 2) := by decide +kernel
theorem gdX11_rule_62 : decode cX11_rule 62 = .ok (.if_icmp .eq 6, 3) := by decide +kernel
theorem gdX11_rule_68 : decode cX11_rule 68 = .ok (.aload_n 0, 1) := by decide +kernel
theorem gdX11_rule_69 : decode cX11_rule 69 = .ok (.getfield 45, 3) := by decide +kernel
theorem gdX11_rule_72 : decode cX11_rule 72 = .ok (.aload_n 0, 1) := by decide +kernel
theorem gdX11_rule_73 : decode cX11_rule 73 = .ok (.getfield 20, 3) := by decide +kernel
theorem gdX11_rule_76 : decode cX11_rule 76 = .ok (.iload_n 1, 1) := by decide +kernel
theorem gdX11_rule_77 : decode cX11_rule 77 = .ok (.aload_n 0, 1) := by decide +kernel
theorem gdX11_rule_78 : decode cX11_rule 78 = .ok (.getfield 136, 3) := by decide +kernel
theorem gdX11_rule_81 : decode cX11_rule 81 = .ok (.iload_n 2, 1) := by decide +kernel
theorem gdX11_rule_82 : decode cX11_rule 82 = .ok (.invokevirtual 206, 3) := by decide +kernel
theorem gdX11_rule_85 : decode cX11_rule 85 = .ok (.ireturn, 1) := by decide +kernel
theorem gdX11_rule_65 : decode cX11_rule 65 = .ok (.bipush (-4), 2) := by decide +kernel
theorem gdX11_rule_67 : decode cX11_rule 67 = .ok (.ireturn, 1) := by decide +kernel
theorem gdX11_rule_46 : decode cX11_rule 46 = .ok (.aload_n 0, 1) := by decide +kernel
theorem gdX11_rule_47 : decode cX11_rule 47 = .ok (.iconst 1, 1) := by decide +kernel
theorem gdX11_rule_48 : decode cX11_rule 48 = .ok (.invokevirtual 99, 3) := by decide +kernel
theorem gdX11_rule_51 : decode cX11_rule 51 = .ok (.ireturn, 1) := by decide +kernel
theorem gdX11_rule_32 : decode cX11_rule 32 = .ok (.bipush (-2), 2) := by decide +kernel
theorem gdX11_rule_34 : decode cX11_rule 34 = .ok (.ireturn, 1) := by decide +kernel
theorem gdX11_set_0 : decode cX11_set 0 = .ok (.aload_n 0, 1) := by decide +kernel
theorem gdX11_set_1 : decode cX11_set 1 = .ok (.getfield 337, 3) := by decide +kernel
theorem gdX11_set_4 : decode cX11_set 4 = .ok (.lreturn, 1) := by decide +kernel
theorem gdX3_around_0 : decode cX3_around 0 = .ok (.lload_n 0, 1) := by decide +kernel
theorem gdX3_around_1 : decode cX3_around 1 = .ok (.invokestatic 24, 3) := by decide +kernel
theorem gdX3_around_4 : decode cX3_around 4 = .ok (.invokestatic 24, 3) := by decide +kernel
theorem gdX3_around_7 : decode cX3_around 7 = .ok (.lstore_n 2, 1) := by decide +kernel
theorem gdX3_around_8 : decode cX3_around 8 = .ok (.lload_n 2, 1) := by decide +kernel
theorem gdX3_around_9 : decode cX3_around 9 = .ok (.lload_n 2, 1) := by decide +kernel
theorem gdX3_around_10 : decode cX3_around 10 = .ok (.bipush 8, 2) := by decide +kernel
theorem gdX3_around_12 : decode cX3_around 12 = .ok (.lushr, 1) := by decide +kernel
theorem gdX3_around_13 : decode cX3_around 13 = .ok (.lor, 1) := by decide +kernel
theorem gdX3_around_14 : decode cX3_around 14 = .ok (.lload_n 2, 1) := by decide +kernel
theorem gdX3_around_15 : decode cX3_around 15 = .ok (.bipush 16, 2) := by decide +kernel
theorem gdX3_around_17 : decode cX3_around 17 = .ok (.lushr, 1) := by decide +kernel
theorem gdX3_around_18 : decode cX3_around 18 = .ok (.lor, 1) := by decide +kernel
theorem gdX3_around_19 : decode cX3_around 19 = .ok (.lload_n 2, 1) := by decide +kernel
theorem gdX3_around_20 : decode cX3_around 20 = .ok (.bipush 8, 2) := by decide +kernel
theorem gdX3_around_22 : decode cX3_around 22 = .ok (.lshl, 1) := by decide +kernel
theorem gdX3_around_23 : decode cX3_around 23 = .ok (.lor, 1) := by decide +kernel
theorem gdX3_around_24 : decode cX3_around 24 = .ok (.lload_n 2, 1) := by decide +kernel
theorem gdX3_around_25 : decode cX3_around 25 = .ok (.bipush 16, 2) := by decide +kernel
theorem gdX3_around_27 : decode cX3_around 27 = .ok (.lshl, 1) := by decide +kernel
theorem gdX3_around_28 : decode cX3_around 28 = .ok (.lor, 1) := by decide +kernel
theorem gdX3_around_29 : decode cX3_around 29 = .ok (.lreturn, 1) := by decide +kernel
theorem gdX11_lowered_0 : decode cX11_lowered 0 = .ok (.iconst 1, 1) := by decide +kernel
theorem gdX11_lowered_1 : decode cX11_lowered 1 = .ok (.iload_n 0, 1) := by decide +kernel
theorem gdX11_lowered_2 : decode cX11_lowered 2 = .ok (.bipush 100, 2) := by decide +kernel
theorem gdX11_lowered_4 : decode cX11_lowered 4 = .ok (.iload_n 1, 1) := by decide +kernel
theorem gdX11_lowered_5 : decode cX11_lowered 5 = .ok (.isub, 1) := by decide +kernel
theorem gdX11_lowered_6 : decode cX11_lowered 6 = .ok (.imul, 1) := by decide +kernel
theorem gdX11_lowered_7 : decode cX11_lowered 7 = .ok (.bipush 100, 2) := by decide +kernel
theorem gdX11_lowered_9 : decode cX11_lowered 9 = .ok (.idiv, 1) := by decide +kernel
theorem gdX11_lowered_10 : decode cX11_lowered 10 = .ok (.invokestatic 510, 3) := by decide +kernel
theorem gdX11_lowered_13 : decode cX11_lowered 13 = .ok (.ireturn, 1) := by decide +kernel
theorem gdX4_showOn_0 : decode cX4_showOn 0 = .ok (.aload_n 0, 1) := by decide +kernel
theorem gdX4_showOn_1 : decode cX4_showOn 1 = .ok (.getfield 36, 3) := by decide +kernel
theorem gdX4_showOn_4 : decode cX4_showOn 4 = .ok (.iload_n 1, 1) := by decide +kernel
theorem gdX4_showOn_5 : decode cX4_showOn 5 = .ok (.iload_n 2, 1) := by decide +kernel
theorem gdX4_showOn_6 : decode cX4_showOn 6 = .ok (.iastore, 1) := by decide +kernel
theorem gdX4_showOn_7 : decode cX4_showOn 7 = .ok (.return_, 1) := by decide +kernel
theorem gdX11_show_170 : decode cX11_show 170 = .ok (.aload_n 0, 1) := by decide +kernel
theorem gdX11_show_171 : decode cX11_show 171 = .ok (.getfield 52, 3) := by decide +kernel
theorem gdX11_show_174 : decode cX11_show 174 = .ok (.iload_n 1, 1) := by decide +kernel
theorem gdX11_show_175 : decode cX11_show 175 = .ok (.aload_n 0, 1) := by decide +kernel
theorem gdX11_show_176 : decode cX11_show 176 = .ok (.getfield 136, 3) := by decide +kernel
theorem gdX11_show_179 : decode cX11_show 179 = .ok (.invokevirtual 288, 3) := by decide +kernel
theorem gdX11_show_182 : decode cX11_show 182 = .ok (.iload 4, 2) := by decide +kernel
theorem gdX11_show_184 : decode cX11_show 184 = .ok (.ireturn, 1) := by decide +kernel
theorem gdX11_show_164 : decode cX11_show 164 = .ok (.iinc 6 1, 3) := by decide +kernel
theorem gdX11_show_167 : decode cX11_show 167 = .ok (.goto (-73), 3) := by decide +kernel
theorem gdX11_show_94 : decode cX11_show 94 = .ok (.iload 6, 2) := by decide +kernel
theorem gdX11_show_96 : decode cX11_show 96 = .ok (.aload_n 0, 1) := by decide +kernel
theorem gdX11_show_97 : decode cX11_show 97 = .ok (.getfield 33, 3) := by decide +kernel
theorem gdX11_show_100 : decode cX11_show 100 = .ok (.invokevirtual 156, 3) := by decide +kernel
theorem gdX11_show_103 : decode cX11_show 103 = .ok (.if_icmp .ge 67, 3) := by decide +kernel
theorem gdX11_show_106 : decode cX11_show 106 = .ok (.aload_n 0, 1) := by decide +kernel
theorem gdX11_show_107 : decode cX11_show 107 = .ok (.getfield 33, 3) := by decide +kernel
theorem gdX11_show_110 : decode cX11_show 110 = .ok (.iload 6, 2) := by decide +kernel
theorem gdX11_show_112 : decode cX11_show 112 = .ok (.invokevirtual 171, 3) := by decide +kernel
theorem gdX11_show_115 : decode cX11_show 115 = .ok (.ifCond .ne 49, 3) := by decide +kernel
theorem gdX11_show_118 : decode cX11_show 118 = .ok (.lload_n 2, 1) := by decide +kernel
theorem gdX11_show_119 : decode cX11_show 119 = .ok (.aload_n 0, 1) := by decide +kernel
theorem gdX11_show_120 : decode cX11_show 120 = .ok (.getfield 33, 3) := by decide +kernel
theorem gdX11_show_123 : decode cX11_show 123 = .ok (.iload 6, 2) := by decide +kernel
theorem gdX11_show_125 : decode cX11_show 125 = .ok (.invokevirtual 282, 3) := by decide +kernel
theorem gdX11_show_128 : decode cX11_show 128 = .ok (.invokestatic 262, 3) := by decide +kernel
theorem gdX11_show_131 : decode cX11_show 131 = .ok (.ifCond .ne 6, 3) := by decide +kernel
theorem gdX11_show_137 : decode cX11_show 137 = .ok (.aload_n 0, 1) := by decide +kernel
theorem gdX11_show_138 : decode cX11_show 138 = .ok (.getfield 33, 3) := by decide +kernel
theorem gdX11_show_141 : decode cX11_show 141 = .ok (.iload 6, 2) := by decide +kernel
theorem gdX11_show_143 : decode cX11_show 143 = .ok (.aload_n 0, 1) := by decide +kernel
theorem gdX11_show_144 : decode cX11_show 144 = .ok (.getfield 33, 3) := by decide +kernel
theorem gdX11_show_147 : decode cX11_show 147 = .ok (.iload 6, 2) := by decide +kernel
theorem gdX11_show_149 : decode cX11_show 149 = .ok (.invokevirtual 174, 3) := by decide +kernel
theorem gdX11_show_152 : decode cX11_show 152 = .ok (.iload 5, 2) := by decide +kernel
theorem gdX11_show_154 : decode cX11_show 154 = .ok (.invokestatic 285, 3) := by decide +kernel
theorem gdX11_show_157 : decode cX11_show 157 = .ok (.aload_n 0, 1) := by decide +kernel
theorem gdX11_show_158 : decode cX11_show 158 = .ok (.getfield 136, 3) := by decide +kernel
theorem gdX11_show_161 : decode cX11_show 161 = .ok (.invokevirtual 177, 3) := by decide +kernel
theorem gdX11_show_134 : decode cX11_show 134 = .ok (.goto 30, 3) := by decide +kernel
theorem gdX11_show_0 : decode cX11_show 0 = .ok (.aload_n 0, 1) := by decide +kernel
theorem gdX11_show_1 : decode cX11_show 1 = .ok (.getfield 52, 3) := by decide +kernel
theorem gdX11_show_4 : decode cX11_show 4 = .ok (.iload_n 1, 1) := by decide +kernel
theorem gdX11_show_5 : decode cX11_show 5 = .ok (.invokevirtual 250, 3) := by decide +kernel
theorem gdX11_show_8 : decode cX11_show 8 = .ok (.ifCond .ne 5, 3) := by decide +kernel
theorem gdX11_show_13 : decode cX11_show 13 = .ok (.aload_n 0, 1) := by decide +kernel
theorem gdX11_show_14 : decode cX11_show 14 = .ok (.getfield 52, 3) := by decide +kernel
theorem gdX11_show_17 : decode cX11_show 17 = .ok (.iload_n 1, 1) := by decide +kernel
theorem gdX11_show_18 : decode cX11_show 18 = .ok (.iconst 1, 1) := by decide +kernel
theorem gdX11_show_19 : decode cX11_show 19 = .ok (.invokevirtual 251, 3) := by decide +kernel
theorem gdX11_show_22 : decode cX11_show 22 = .ok (.ifCond .ne 9, 3) := by decide +kernel
theorem gdX11_show_31 : decode cX11_show 31 = .ok (.aload_n 0, 1) := by decide +kernel
theorem gdX11_show_32 : decode cX11_show 32 = .ok (.getfield 52, 3) := by decide +kernel
theorem gdX11_show_35 : decode cX11_show 35 = .ok (.iload_n 1, 1) := by decide +kernel
theorem gdX11_show_36 : decode cX11_show 36 = .ok (.invokevirtual 272, 3) := by decide +kernel
theorem gdX11_show_39 : decode cX11_show 39 = .ok (.bipush (-9), 2) := by decide +kernel
theorem gdX11_show_41 : decode cX11_show 41 = .ok (.if_icmp .eq 6, 3) := by decide +kernel
theorem gdX11_show_47 : decode cX11_show 47 = .ok (.aload_n 0, 1) := by decide +kernel
theorem gdX11_show_48 : decode cX11_show 48 = .ok (.getfield 52, 3) := by decide +kernel
theorem gdX11_show_51 : decode cX11_show 51 = .ok (.iload_n 1, 1) := by decide +kernel
theorem gdX11_show_52 : decode cX11_show 52 = .ok (.invokevirtual 254, 3) := by decide +kernel
theorem gdX11_show_55 : decode cX11_show 55 = .ok (.invokestatic 275, 3) := by decide +kernel
theorem gdX11_show_58 : decode cX11_show 58 = .ok (.lstore_n 2, 1) := by decide +kernel
theorem gdX11_show_59 : decode cX11_show 59 = .ok (.aload_n 0, 1) := by decide +kernel
theorem gdX11_show_60 : decode cX11_show 60 = .ok (.getfield 33, 3) := by decide +kernel
theorem gdX11_show_63 : decode cX11_show 63 = .ok (.lload_n 2, 1) := by decide +kernel
theorem gdX11_show_64 : decode cX11_show 64 = .ok (.invokevirtual 278, 3) := by decide +kernel
theorem gdX11_show_67 : decode cX11_show 67 = .ok (.istore 4, 2) := by decide +kernel
theorem gdX11_show_69 : decode cX11_show 69 = .ok (.iload 4, 2) := by decide +kernel
theorem gdX11_show_71 : decode cX11_show 71 = .ok (.aload_n 0, 1) := by decide +kernel
theorem gdX11_show_72 : decode cX11_show 72 = .ok (.getfield 33, 3) := by decide +kernel
theorem gdX11_show_75 : decode cX11_show 75 = .ok (.invokevirtual 160, 3) := by decide +kernel
theorem gdX11_show_78 : decode cX11_show 78 = .ok (.if_icmp .le 6, 3) := by decide +kernel
theorem gdX11_show_84 : decode cX11_show 84 = .ok (.aload_n 0, 1) := by decide +kernel
theorem gdX11_show_85 : decode cX11_show 85 = .ok (.iconst 1, 1) := by decide +kernel
theorem gdX11_show_86 : decode cX11_show 86 = .ok (.invokevirtual 228, 3) := by decide +kernel
theorem gdX11_show_89 : decode cX11_show 89 = .ok (.istore 5, 2) := by decide +kernel
theorem gdX11_show_91 : decode cX11_show 91 = .ok (.iconst 0, 1) := by decide +kernel
theorem gdX11_show_92 : decode cX11_show 92 = .ok (.istore 6, 2) := by decide +kernel
theorem gdX11_show_81 : decode cX11_show 81 = .ok (.bipush (-2), 2) := by decide +kernel
theorem gdX11_show_83 : decode cX11_show 83 = .ok (.ireturn, 1) := by decide +kernel
theorem gdX11_show_44 : decode cX11_show 44 = .ok (.bipush (-4), 2) := by decide +kernel
theorem gdX11_show_46 : decode cX11_show 46 = .ok (.ireturn, 1) := by decide +kernel
theorem gdX11_show_25 : decode cX11_show 25 = .ok (.aload_n 0, 1) := by decide +kernel
theorem gdX11_show_26 : decode cX11_show 26 = .ok (.iconst 3, 1) := by decide +kernel
theorem gdX11_show_27 : decode cX11_show 27 = .ok (.invokevirtual 99, 3) := by decide +kernel
theorem gdX11_show_30 : decode cX11_show 30 = .ok (.ireturn, 1) := by decide +kernel
theorem gdX11_show_11 : decode cX11_show 11 = .ok (.iconst (-1), 1) := by decide +kernel
theorem gdX11_show_12 : decode cX11_show 12 = .ok (.ireturn, 1) := by decide +kernel
theorem gdX11_shown_0 : decode cX11_shown 0 = .ok (.aload_n 0, 1) := by decide +kernel
theorem gdX11_shown_1 : decode cX11_shown 1 = .ok (.getfield 52, 3) := by decide +kernel
theorem gdX11_shown_4 : decode cX11_shown 4 = .ok (.iload_n 1, 1) := by decide +kernel
theorem gdX11_shown_5 : decode cX11_shown 5 = .ok (.invokevirtual 250, 3) := by decide +kernel
theorem gdX11_shown_8 : decode cX11_shown 8 = .ok (.ifCond .ne 5, 3) := by decide +kernel
theorem gdX11_shown_13 : decode cX11_shown 13 = .ok (.aload_n 0, 1) := by decide +kernel
theorem gdX11_shown_14 : decode cX11_shown 14 = .ok (.getfield 52, 3) := by decide +kernel
theorem gdX11_shown_17 : decode cX11_shown 17 = .ok (.iload_n 1, 1) := by decide +kernel
theorem gdX11_shown_18 : decode cX11_shown 18 = .ok (.iconst 1, 1) := by decide +kernel
theorem gdX11_shown_19 : decode cX11_shown 19 = .ok (.invokevirtual 251, 3) := by decide +kernel
theorem gdX11_shown_22 : decode cX11_shown 22 = .ok (.ifCond .ne 9, 3) := by decide +kernel
theorem gdX11_shown_31 : decode cX11_shown 31 = .ok (.aload_n 0, 1) := by decide +kernel
theorem gdX11_shown_32 : decode cX11_shown 32 = .ok (.getfield 52, 3) := by decide +kernel
theorem gdX11_shown_35 : decode cX11_shown 35 = .ok (.iload_n 1, 1) := by decide +kernel
theorem gdX11_shown_36 : decode cX11_shown 36 = .ok (.invokevirtual 272, 3) := by decide +kernel
theorem gdX11_shown_39 : decode cX11_shown 39 = .ok (.ireturn, 1) := by decide +kernel
theorem gdX11_shown_25 : decode cX11_shown 25 = .ok (.aload_n 0, 1) := by decide +kernel
theorem gdX11_shown_26 : decode cX11_shown 26 = .ok (.iconst 3, 1) := by decide +kernel
theorem gdX11_shown_27 : decode cX11_shown 27 = .ok (.invokevirtual 99, 3) := by decide +kernel
theorem gdX11_shown_30 : decode cX11_shown 30 = .ok (.ireturn, 1) := by decide +kernel
theorem gdX11_shown_11 : decode cX11_shown 11 = .ok (.iconst (-1), 1) := by decide +kernel
theorem gdX11_shown_12 : decode cX11_shown 12 = .ok (.ireturn, 1) := by decide +kernel
theorem gdX9_survey_63 : decode cX9_survey 63 = .ok (.return_, 1) := by decide +kernel
theorem gdX9_survey_57 : decode cX9_survey 57 = .ok (.iinc 3 1, 3) := by decide +kernel
theorem gdX9_survey_60 : decode cX9_survey 60 = .ok (.goto (-58), 3) := by decide +kernel
theorem gdX9_survey_51 : decode cX9_survey 51 = .ok (.iinc 4 1, 3) := by decide +kernel
theorem gdX9_survey_54 : decode cX9_survey 54 = .ok (.goto (-37), 3) := by decide +kernel
theorem gdX9_survey_17 : decode cX9_survey 17 = .ok (.iload 4, 2) := by decide +kernel
theorem gdX9_survey_19 : decode cX9_survey 19 = .ok (.bipush 64, 2) := by decide +kernel
theorem gdX9_survey_21 : decode cX9_survey 21 = .ok (.if_icmp .ge 36, 3) := by decide +kernel
theorem gdX9_survey_24 : decode cX9_survey 24 = .ok (.aload_n 1, 1) := by decide +kernel
theorem gdX9_survey_25 : decode cX9_survey 25 = .ok (.iload 4, 2) := by decide +kernel
theorem gdX9_survey_27 : decode cX9_survey 27 = .ok (.iload_n 3, 1) := by decide +kernel
theorem gdX9_survey_28 : decode cX9_survey 28 = .ok (.iload_n 2, 1) := by decide +kernel
theorem gdX9_survey_29 : decode cX9_survey 29 = .ok (.invokevirtual 30, 3) := by decide +kernel
theorem gdX9_survey_32 : decode cX9_survey 32 = .ok (.bipush (-9), 2) := by decide +kernel
theorem gdX9_survey_34 : decode cX9_survey 34 = .ok (.if_icmp .eq 17, 3) := by decide +kernel
theorem gdX9_survey_37 : decode cX9_survey 37 = .ok (.aload_n 0, 1) := by decide +kernel
theorem gdX9_survey_38 : decode cX9_survey 38 = .ok (.getfield 11, 3) := by decide +kernel
theorem gdX9_survey_41 : decode cX9_survey 41 = .ok (.iload_n 3, 1) := by decide +kernel
theorem gdX9_survey_42 : decode cX9_survey 42 = .ok (.dup2, 1) := by decide +kernel
theorem gdX9_survey_43 : decode cX9_survey 43 = .ok (.laload, 1) := by decide +kernel
theorem gdX9_survey_44 : decode cX9_survey 44 = .ok (.iload 4, 2) := by decide +kernel
theorem gdX9_survey_46 : decode cX9_survey 46 = .ok (.invokestatic 34, 3) := by decide +kernel
theorem gdX9_survey_49 : decode cX9_survey 49 = .ok (.lor, 1) := by decide +kernel
theorem gdX9_survey_50 : decode cX9_survey 50 = .ok (.lastore, 1) := by decide +kernel
theorem gdX9_survey_2 : decode cX9_survey 2 = .ok (.iload_n 3, 1) := by decide +kernel
theorem gdX9_survey_3 : decode cX9_survey 3 = .ok (.iconst 4, 1) := by decide +kernel
theorem gdX9_survey_4 : decode cX9_survey 4 = .ok (.if_icmp .ge 59, 3) := by decide +kernel
theorem gdX9_survey_7 : decode cX9_survey 7 = .ok (.aload_n 0, 1) := by decide +kernel
theorem gdX9_survey_8 : decode cX9_survey 8 = .ok (.getfield 11, 3) := by decide +kernel
theorem gdX9_survey_11 : decode cX9_survey 11 = .ok (.iload_n 3, 1) := by decide +kernel
theorem gdX9_survey_12 : decode cX9_survey 12 = .ok (.lconst 0, 1) := by decide +kernel
theorem gdX9_survey_13 : decode cX9_survey 13 = .ok (.lastore, 1) := by decide +kernel
theorem gdX9_survey_14 : decode cX9_survey 14 = .ok (.iconst 0, 1) := by decide +kernel
theorem gdX9_survey_15 : decode cX9_survey 15 = .ok (.istore 4, 2) := by decide +kernel
theorem gdX9_survey_0 : decode cX9_survey 0 = .ok (.iconst 0, 1) := by decide +kernel
theorem gdX9_survey_1 : decode cX9_survey 1 = .ok (.istore_n 3, 1) := by decide +kernel
theorem gdX9_connects_97 : decode cX9_connects 97 = .ok (.lload 8, 2) := by decide +kernel
theorem gdX9_connects_99 : decode cX9_connects 99 = .ok (.iload_n 2, 1) := by decide +kernel
theorem gdX9_connects_100 : decode cX9_connects 100 = .ok (.invokestatic 40, 3) := by decide +kernel
theorem gdX9_connects_103 : decode cX9_connects 103 = .ok (.ireturn, 1) := by decide +kernel
theorem gdX9_connects_114 : decode cX9_connects 114 = .ok (.iconst 0, 1) := by decide +kernel
theorem gdX9_connects_115 : decode cX9_connects 115 = .ok (.ireturn, 1) := by decide +kernel
theorem gdX9_connects_9 : decode cX9_connects 9 = .ok (.iload 7, 2) := by decide +kernel
theorem gdX9_connects_11 : decode cX9_connects 11 = .ok (.bipush 64, 2) := by decide +kernel
theorem gdX9_connects_13 : decode cX9_connects 13 = .ok (.if_icmp .ge 101, 3) := by decide +kernel
theorem gdX9_connects_16 : decode cX9_connects 16 = .ok (.lload 5, 2) := by decide +kernel
theorem gdX9_connects_18 : decode cX9_connects 18 = .ok (.lload 5, 2) := by decide +kernel
theorem gdX9_connects_20 : decode cX9_connects 20 = .ok (.aload_n 0, 1) := by decide +kernel
theorem gdX9_connects_21 : decode cX9_connects 21 = .ok (.getfield 11, 3) := by decide +kernel
theorem gdX9_connects_24 : decode cX9_connects 24 = .ok (.iconst 0, 1) := by decide +kernel
theorem gdX9_connects_25 : decode cX9_connects 25 = .ok (.laload, 1) := by decide +kernel
theorem gdX9_connects_26 : decode cX9_connects 26 = .ok (.land, 1) := by decide +kernel
theorem gdX9_connects_27 : decode cX9_connects 27 = .ok (.bipush 8, 2) := by decide +kernel
theorem gdX9_connects_29 : decode cX9_connects 29 = .ok (.lushr, 1) := by decide +kernel
theorem gdX9_connects_30 : decode cX9_connects 30 = .ok (.lor, 1) := by decide +kernel
theorem gdX9_connects_31 : decode cX9_connects 31 = .ok (.lload 5, 2) := by decide +kernel
theorem gdX9_connects_33 : decode cX9_connects 33 = .ok (.aload_n 0, 1) := by decide +kernel
theorem gdX9_connects_34 : decode cX9_connects 34 = .ok (.getfield 11, 3) := by decide +kernel
theorem gdX9_connects_37 : decode cX9_connects 37 = .ok (.iconst 1, 1) := by decide +kernel
theorem gdX9_connects_38 : decode cX9_connects 38 = .ok (.laload, 1) := by decide +kernel
theorem gdX9_connects_39 : decode cX9_connects 39 = .ok (.land, 1) := by decide +kernel
theorem gdX9_connects_40 : decode cX9_connects 40 = .ok (.iconst 1, 1) := by decide +kernel
theorem gdX9_connects_41 : decode cX9_connects 41 = .ok (.lushr, 1) := by decide +kernel
theorem gdX9_connects_42 : decode cX9_connects 42 = .ok (.lor, 1) := by decide +kernel
theorem gdX9_connects_43 : decode cX9_connects 43 = .ok (.lload 5, 2) := by decide +kernel
theorem gdX9_connects_45 : decode cX9_connects 45 = .ok (.aload_n 0, 1) := by decide +kernel
theorem gdX9_connects_46 : decode cX9_connects 46 = .ok (.getfield 11, 3) := by decide +kernel
theorem gdX9_connects_49 : decode cX9_connects 49 = .ok (.iconst 2, 1) := by decide +kernel
theorem gdX9_connects_50 : decode cX9_connects 50 = .ok (.laload, 1) := by decide +kernel
theorem gdX9_connects_51 : decode cX9_connects 51 = .ok (.land, 1) := by decide +kernel
theorem gdX9_connects_52 : decode cX9_connects 52 = .ok (.iconst 1, 1) := by decide +kernel
theorem gdX9_connects_53 : decode cX9_connects 53 = .ok (.lshl, 1) := by decide +kernel
theorem gdX9_connects_54 : decode cX9_connects 54 = .ok (.lor, 1) := by decide +kernel
theorem gdX9_connects_55 : decode cX9_connects 55 = .ok (.lload 5, 2) := by decide +kernel
theorem gdX9_connects_57 : decode cX9_connects 57 = .ok (.aload_n 0, 1) := by decide +kernel
theorem gdX9_connects_58 : decode cX9_connects 58 = .ok (.getfield 11, 3) := by decide +kernel
theorem gdX9_connects_61 : decode cX9_connects 61 = .ok (.iconst 3, 1) := by decide +kernel
theorem gdX9_connects_62 : decode cX9_connects 62 = .ok (.laload, 1) := by decide +kernel
theorem gdX9_connects_63 : decode cX9_connects 63 = .ok (.land, 1) := by decide +kernel
theorem gdX9_connects_64 : decode cX9_connects 64 = .ok (.bipush 8, 2) := by decide +kernel
theorem gdX9_connects_66 : decode cX9_connects 66 = .ok (.lshl, 1) := by decide +kernel
theorem gdX9_connects_67 : decode cX9_connects 67 = .ok (.lor, 1) := by decide +kernel
theorem gdX9_connects_68 : decode cX9_connects 68 = .ok (.lstore 8, 2) := by decide +kernel
theorem gdX9_connects_70 : decode cX9_connects 70 = .ok (.lload 8, 2) := by decide +kernel
theorem gdX9_connects_72 : decode cX9_connects 72 = .ok (.lload_n 3, 1) := by decide +kernel
theorem gdX9_connects_73 : decode cX9_connects 73 = .ok (.ldc2_w 38, 3) := by decide +kernel
theorem gdX9_connects_76 : decode cX9_connects 76 = .ok (.lxor, 1) := by decide +kernel
theorem gdX9_connects_77 : decode cX9_connects 77 = .ok (.land, 1) := by decide +kernel
theorem gdX9_connects_78 : decode cX9_connects 78 = .ok (.lstore 8, 2) := by decide +kernel
theorem gdX9_connects_80 : decode cX9_connects 80 = .ok (.lload 8, 2) := by decide +kernel
theorem gdX9_connects_82 : decode cX9_connects 82 = .ok (.lload 5, 2) := by decide +kernel
theorem gdX9_connects_84 : decode cX9_connects 84 = .ok (.lcmp, 1) := by decide +kernel
theorem gdX9_connects_85 : decode cX9_connects 85 = .ok (.ifCond .eq 12, 3) := by decide +kernel
theorem gdX9_connects_88 : decode cX9_connects 88 = .ok (.lload 8, 2) := by decide +kernel
theorem gdX9_connects_90 : decode cX9_connects 90 = .ok (.iload_n 2, 1) := by decide +kernel
theorem gdX9_connects_91 : decode cX9_connects 91 = .ok (.invokestatic 40, 3) := by decide +kernel
theorem gdX9_connects_94 : decode cX9_connects 94 = .ok (.ifCond .eq 10, 3) := by decide +kernel
theorem gdX9_connects_104 : decode cX9_connects 104 = .ok (.lload 8, 2) := by decide +kernel
theorem gdX9_connects_106 : decode cX9_connects 106 = .ok (.lstore 5, 2) := by decide +kernel
theorem gdX9_connects_108 : decode cX9_connects 108 = .ok (.iinc 7 1, 3) := by decide +kernel
theorem gdX9_connects_111 : decode cX9_connects 111 = .ok (.goto (-102), 3) := by decide +kernel
theorem gdX9_connects_0 : decode cX9_connects 0 = .ok (.iload_n 1, 1) := by decide +kernel
theorem gdX9_connects_1 : decode cX9_connects 1 = .ok (.invokestatic 34, 3) := by decide +kernel
theorem gdX9_connects_4 : decode cX9_connects 4 = .ok (.lstore 5, 2) := by decide +kernel
theorem gdX9_connects_6 : decode cX9_connects 6 = .ok (.iconst 0, 1) := by decide +kernel
theorem gdX9_connects_7 : decode cX9_connects 7 = .ok (.istore 7, 2) := by decide +kernel
theorem gdX9_visit_0 : decode cX9_visit 0 = .ok (.aload_n 0, 1) := by decide +kernel
theorem gdX9_visit_1 : decode cX9_visit 1 = .ok (.getfield 17, 3) := by decide +kernel
theorem gdX9_visit_4 : decode cX9_visit 4 = .ok (.iload_n 1, 1) := by decide +kernel
theorem gdX9_visit_5 : decode cX9_visit 5 = .ok (.iaload, 1) := by decide +kernel
theorem gdX9_visit_6 : decode cX9_visit 6 = .ok (.bipush (-9), 2) := by decide +kernel
theorem gdX9_visit_8 : decode cX9_visit 8 = .ok (.if_icmp .eq 4, 3) := by decide +kernel
theorem gdX9_visit_12 : decode cX9_visit 12 = .ok (.aload_n 0, 1) := by decide +kernel
theorem gdX9_visit_13 : decode cX9_visit 13 = .ok (.getfield 17, 3) := by decide +kernel
theorem gdX9_visit_16 : decode cX9_visit 16 = .ok (.iload_n 1, 1) := by decide +kernel
theorem gdX9_visit_17 : decode cX9_visit 17 = .ok (.iload_n 2, 1) := by decide +kernel
theorem gdX9_visit_18 : decode cX9_visit 18 = .ok (.iastore, 1) := by decide +kernel
theorem gdX9_visit_19 : decode cX9_visit 19 = .ok (.aload_n 0, 1) := by decide +kernel
theorem gdX9_visit_20 : decode cX9_visit 20 = .ok (.getfield 21, 3) := by decide +kernel
theorem gdX9_visit_23 : decode cX9_visit 23 = .ok (.aload_n 0, 1) := by decide +kernel
theorem gdX9_visit_24 : decode cX9_visit 24 = .ok (.getfield 58, 3) := by decide +kernel
theorem gdX9_visit_27 : decode cX9_visit 27 = .ok (.iload_n 1, 1) := by decide +kernel
theorem gdX9_visit_28 : decode cX9_visit 28 = .ok (.iastore, 1) := by decide +kernel
theorem gdX9_visit_29 : decode cX9_visit 29 = .ok (.aload_n 0, 1) := by decide +kernel
theorem gdX9_visit_30 : decode cX9_visit 30 = .ok (.dup, 1) := by decide +kernel
theorem gdX9_visit_31 : decode cX9_visit 31 = .ok (.getfield 58, 3) := by decide +kernel
theorem gdX9_visit_34 : decode cX9_visit 34 = .ok (.iconst 1, 1) := by decide +kernel
theorem gdX9_visit_35 : decode cX9_visit 35 = .ok (.iadd, 1) := by decide +kernel
theorem gdX9_visit_36 : decode cX9_visit 36 = .ok (.putfield 58, 3) := by decide +kernel
theorem gdX9_visit_39 : decode cX9_visit 39 = .ok (.return_, 1) := by decide +kernel
theorem gdX9_visit_11 : decode cX9_visit 11 = .ok (.return_, 1) := by decide +kernel
theorem gdX9_leave_57 : decode cX9_leave 57 = .ok (.return_, 1) := by decide +kernel
theorem gdX9_leave_39 : decode cX9_leave 39 = .ok (.aload_n 0, 1) := by decide +kernel
theorem gdX9_leave_40 : decode cX9_leave 40 = .ok (.getfield 24, 3) := by decide +kernel
theorem gdX9_leave_43 : decode cX9_leave 43 = .ok (.iload_n 1, 1) := by decide +kernel
theorem gdX9_leave_44 : decode cX9_leave 44 = .ok (.iaload, 1) := by decide +kernel
theorem gdX9_leave_45 : decode cX9_leave 45 = .ok (.ifCond .le 12, 3) := by decide +kernel
theorem gdX9_leave_48 : decode cX9_leave 48 = .ok (.aload_n 0, 1) := by decide +kernel
theorem gdX9_leave_49 : decode cX9_leave 49 = .ok (.iload_n 1, 1) := by decide +kernel
theorem gdX9_leave_50 : decode cX9_leave 50 = .ok (.bipush 64, 2) := by decide +kernel
theorem gdX9_leave_52 : decode cX9_leave 52 = .ok (.iload_n 1, 1) := by decide +kernel
theorem gdX9_leave_53 : decode cX9_leave 53 = .ok (.iadd, 1) := by decide +kernel
theorem gdX9_leave_54 : decode cX9_leave 54 = .ok (.invokevirtual 62, 3) := by decide +kernel
theorem gdX9_leave_33 : decode cX9_leave 33 = .ok (.iinc 2 1, 3) := by decide +kernel
theorem gdX9_leave_36 : decode cX9_leave 36 = .ok (.goto (-34), 3) := by decide +kernel
theorem gdX9_leave_2 : decode cX9_leave 2 = .ok (.iload_n 2, 1) := by decide +kernel
theorem gdX9_leave_3 : decode cX9_leave 3 = .ok (.iconst 4, 1) := by decide +kernel
theorem gdX9_leave_4 : decode cX9_leave 4 = .ok (.if_icmp .ge 35, 3) := by decide +kernel
theorem gdX9_leave_7 : decode cX9_leave 7 = .ok (.aload_n 0, 1) := by decide +kernel
theorem gdX9_leave_8 : decode cX9_leave 8 = .ok (.getfield 11, 3) := by decide +kernel
theorem gdX9_leave_11 : decode cX9_leave 11 = .ok (.iload_n 2, 1) := by decide +kernel
theorem gdX9_leave_12 : decode cX9_leave 12 = .ok (.laload, 1) := by decide +kernel
theorem gdX9_leave_13 : decode cX9_leave 13 = .ok (.iload_n 1, 1) := by decide +kernel
theorem gdX9_leave_14 : decode cX9_leave 14 = .ok (.invokestatic 40, 3) := by decide +kernel
theorem gdX9_leave_17 : decode cX9_leave 17 = .ok (.ifCond .eq 16, 3) := by decide +kernel
theorem gdX9_leave_20 : decode cX9_leave 20 = .ok (.aload_n 0, 1) := by decide +kernel
theorem gdX9_leave_21 : decode cX9_leave 21 = .ok (.iload_n 1, 1) := by decide +kernel
theorem gdX9_leave_22 : decode cX9_leave 22 = .ok (.iload_n 2, 1) := by decide +kernel
theorem gdX9_leave_23 : decode cX9_leave 23 = .ok (.invokestatic 72, 3) := by decide +kernel
theorem gdX9_leave_26 : decode cX9_leave 26 = .ok (.bipush 64, 2) := by decide +kernel
theorem gdX9_leave_28 : decode cX9_leave 28 = .ok (.iload_n 1, 1) := by decide +kernel
theorem gdX9_leave_29 : decode cX9_leave 29 = .ok (.iadd, 1) := by decide +kernel
theorem gdX9_leave_30 : decode cX9_leave 30 = .ok (.invokevirtual 62, 3) := by decide +kernel
theorem gdX9_leave_0 : decode cX9_leave 0 = .ok (.iconst 0, 1) := by decide +kernel
theorem gdX9_leave_1 : decode cX9_leave 1 = .ok (.istore_n 2, 1) := by decide +kernel
theorem okm_X5_add : okM yX5_add cX5_add 5 (some .int) 3 := ⟨w_718, w_95, by decide +kernel, by decide +kernel, by decide +kernel⟩
theorem okw_X5_add : okV yX5_add := ⟨w_716, w_717⟩
theorem okm_X4_routeOf : okM yX4_routeOf cX4_routeOf 3 none 2 := ⟨w_906, w_97, by decide +kernel, by decide +kernel, by decide +kernel⟩
theorem okw_X4_routeOf : okV yX4_routeOf := ⟨w_904, w_905⟩
theorem okm_J7_rangeCheck_23922 : okM yJ7_rangeCheck_23922 cJ7_rangeCheck_23922 3 none 3 := ⟨w_534, w_92, by decide +kernel, by decide +kernel, by decide +kernel⟩
theorem okm_J7_fill_fda19 : okM yJ7_fill_fda19 cJ7_fill_fda19 5 none 4 := ⟨w_531, w_92, by decide +kernel, by decide +kernel, by decide +kernel⟩
theorem okm_X8_layOut : okM yX8_layOut cX8_layOut 3 none 2 := ⟨w_528, w_90, by decide +kernel, by decide +kernel, by decide +kernel⟩
theorem okw_X8_layOut : okV yX8_layOut := ⟨w_526, w_527⟩
theorem okm_X7_numberAt : okM yX7_numberAt cX7_numberAt 6 (some .int) 4 := ⟨w_763, w_96, by decide +kernel, by decide +kernel, by decide +kernel⟩
theorem okm_X7_add : okM yX7_add cX7_add 8 (some .int) 4 := ⟨w_759, w_96, by decide +kernel, by decide +kernel, by decide +kernel⟩
theorem okw_X7_add : okV yX7_add := ⟨w_757, w_758⟩
theorem okm_X4_showOn : okM yX4_showOn cX4_showOn 3 none 2 := ⟨w_954, w_97, by decide +kernel, by decide +kernel, by decide +kernel⟩
theorem okw_X4_showOn : okV yX4_showOn := ⟨w_952, w_953⟩
theorem okm_X11_lowered : okM yX11_lowered cX11_lowered 2 (some .int) 2 := ⟨w_947, w_89, by decide +kernel, by decide +kernel, by decide +kernel⟩
theorem okm_X3_around : okM yX3_around cX3_around 4 (some .long) 1 := ⟨w_925, w_93, by decide +kernel, by decide +kernel, by decide +kernel⟩
theorem okm_X9_visit : okM yX9_visit cX9_visit 3 none 2 := ⟨w_1349, w_102, by decide +kernel, by decide +kernel, by decide +kernel⟩
theorem okw_X9_visit : okV yX9_visit := ⟨w_1348, w_31⟩
noncomputable def s_X11_over (o : OO) (x1 : Int) : Option (Int × OO) := qB (s_X4_exists o x1) (fun r1 => qEq r1 0 (some ((-1), o)) (qB (s_X4_isOf o x1 1) (fun r3 => qEq r3 0 (qB2 (s_X11_found o 3) (fun r10 o12 => some (r10, o12))) (qB (s_X4_cells o x1) (fun p5 => qNm (st2 o 0 16 p5) (fun o7 => qB (s_X4_lengthOf o7 x1) (fun r8 => some (r8, o7))))))))
set_option maxHeartbeats 4000000 in
set_option maxRecDepth 100000 in
theorem c_X11_over (l : Launch) (g : GG) (ad : Nat → Nat) (o : OO) (x1 : Int) (v : Int × OO) (h : s_X11_over o x1 = some v) : CI l g yX11_over cX11_over 2 (some .int) 1 23 (wC g ad o) [.ref (ad 0), iv x1] v.1 (wC g ad v.2) := by
  refine met_I (by decide) (Nat.le_of_ble_eq_true rfl) ?_
  intro X E hQ
  show Go X 0 (wC g ad o) [(0, .ref (ad 0)), (1, iv x1)] []
  unfold s_X11_over at h
  refine g_aload_n E gdX11_over_0 rfl 0 rfl ?_
  refine g_get (T := TX11) E fw_X11 0 (wC_0 g ad o) rfl 6 (by decide) w_464 rfl rfl gdX11_over_1 ?_
  refine g_iload_n E gdX11_over_4 rfl 1 rfl ?_
  obtain ⟨r1, hc2, h⟩ := qB_of h
  refine g_Vi (r := r1) (As := [iv x1]) (rest := []) (w := wC g ad o) E (c_X4_exists l g ad o x1 r1 hc2) okm_X4_exists okw_X4_exists w_882 rfl (wC_32 g ad o) rfl rfl (Nat.le_of_ble_eq_true rfl) ⟨Nat.le_of_ble_eq_true rfl, Nat.le_of_ble_eq_true rfl⟩ gdX11_over_5 ?_
  refine g_if_ne E 13 gdX11_over_8 (by decide) h (fun h => ?_) (fun h => ?_)
  ·
    refine g_aload_n E gdX11_over_13 rfl 0 rfl ?_
    refine g_get (T := TX11) E fw_X11 0 (wC_0 g ad o) rfl 6 (by decide) w_464 rfl rfl gdX11_over_14 ?_
    refine g_iload_n E gdX11_over_17 rfl 1 rfl ?_
    refine g_iconst E gdX11_over_18 ?_
    obtain ⟨r3, hc4, h⟩ := qB_of h
    refine g_Vi (r := r3) (As := [iv x1, iv 1]) (rest := []) (w := wC g ad o) E (c_X4_isOf l g ad o x1 1 r3 hc4) okm_X4_isOf okw_X4_isOf w_886 rfl (wC_32 g ad o) rfl rfl (Nat.le_of_ble_eq_true rfl) ⟨Nat.le_of_ble_eq_true rfl, Nat.le_of_ble_eq_true rfl⟩ gdX11_over_19 ?_
    refine g_if_ne E 31 gdX11_over_22 (by decide) h (fun h => ?_) (fun h => ?_)
    ·
      refine g_aload_n E gdX11_over_31 rfl 0 rfl ?_
      refine g_aload_n E gdX11_over_32 rfl 0 rfl ?_
      refine g_get (T := TX11) E fw_X11 0 (wC_0 g ad o) rfl 6 (by decide) w_464 rfl rfl gdX11_over_33 ?_
      refine g_iload_n E gdX11_over_36 rfl 1 rfl ?_
      obtain ⟨p5, hc6, h⟩ := qB_of h
      refine g_Vl (r := p5) (As := [iv x1]) (rest := [.ref (ad 0)]) (w := wC g ad o) E (c_X4_cells l g ad o x1 p5 hc6) okm_X4_cells okw_X4_cells w_890 rfl (wC_32 g ad o) rfl rfl (Nat.le_of_ble_eq_true rfl) ⟨Nat.le_of_ble_eq_true rfl, Nat.le_of_ble_eq_true rfl⟩ gdX11_over_37 ?_
      obtain ⟨o7, e_o7, h⟩ := qNm_of h
      refine g_putl (T := TX11) (ws' := wC g ad o7) E fw_X11 tyX11 tyX11_ok nmX11 0 (wC_0 g ad o) rfl 16 (by decide) w_474 rfl rfl (by decide +kernel) (Nat.le_of_ble_eq_true rfl) (by rw [e_o7]; exact wC_p0_16 g ad o _) gdX11_over_40 ?_
      refine g_aload_n E gdX11_over_43 rfl 0 rfl ?_
      refine g_get (T := TX11) E fw_X11 0 (wC_0 g ad o7) rfl 6 (by decide) w_464 rfl rfl gdX11_over_44 ?_
      refine g_iload_n E gdX11_over_47 rfl 1 rfl ?_
      obtain ⟨r8, hc9, h⟩ := qB_of h
      refine g_Vi (r := r8) (As := [iv x1]) (rest := []) (w := wC g ad o7) E (c_X4_lengthOf l g ad o7 x1 r8 hc9) okm_X4_lengthOf okw_X4_lengthOf w_1023 rfl (wC_32 g ad o7) rfl rfl (Nat.le_of_ble_eq_true rfl) ⟨Nat.le_of_ble_eq_true rfl, Nat.le_of_ble_eq_true rfl⟩ gdX11_over_48 ?_
      exact g_iret E hQ (by rw [← Option.some.inj h]) (by rw [← Option.some.inj h]) gdX11_over_51
    ·
      refine g_aload_n E gdX11_over_25 rfl 0 rfl ?_
      refine g_iconst E gdX11_over_26 ?_
      obtain ⟨r10, o12, hc11, h⟩ := qB2_of h
      refine g_Vi (r := r10) (As := [iv 3]) (rest := []) (w := wC g ad o12) E (c_X11_found l g ad o 3 (r10, o12) hc11) okm_X11_found okw_X11_found w_521 rfl (wC_0 g ad o) rfl rfl (Nat.le_of_ble_eq_true rfl) ⟨Nat.le_of_ble_eq_true rfl, Nat.le_of_ble_eq_true rfl⟩ gdX11_over_27 ?_
      exact g_iret E hQ (by rw [← Option.some.inj h]) (by rw [← Option.some.inj h]) gdX11_over_30
  ·
    refine g_iconst E gdX11_over_11 ?_
    exact g_iret E hQ (by rw [← Option.some.inj h]) (by rw [← Option.some.inj h]) gdX11_over_12
noncomputable def b_X11_owed_79 (o : OO) (z1 : Int64) (x3 : Int) : Option (Int × OO) := qNm (st2 o 0 15 z1) (fun o1 => some (x3, o1))
noncomputable def b_X11_owed_73 (o : OO) (z1 : Int64) (x3 : Int) (x4 : Int) : Option ((Int64 × Int × Int) ⊕ ((Int64 × Int))) := some (.inl (z1, x3, x4 + 1))
noncomputable def l_X11_owed_7 (o : OO) (z1 : Int64) (x3 : Int) (x4 : Int) : Option ((Int64 × Int × Int) ⊕ ((Int64 × Int))) := qB (s_X4_number o) (fun r2 => qLt x4 r2 (qB (s_X4_isOf o x4 3) (fun r4 => qEq r4 0 (b_X11_owed_73 o z1 x3 x4) (qB (s_X4_amountOf o x4) (fun r6 => qNm (z1 + (jl r6)) (fun m8 => qB (s_X4_kindOf o x4) (fun r9 => qEq r9 3 (qB (s_X11_isVoidTaking o x4) (fun r11 => qEq r11 0 (b_X11_owed_73 o m8 x3 x4) (b_X11_owed_73 o m8 (x3 + 1) x4))) (b_X11_owed_73 o m8 x3 x4))))))) (some (.inr ((z1, x3)))))
noncomputable def e_X11_owed_7 (o : OO) (z1 : Int64) (x3 : Int) (x4 : Int) : Option (Int × OO) := qB (loopW (fun s => l_X11_owed_7 o s.1 s.2.1 s.2.2) (z1, x3, x4)) (fun r => b_X11_owed_79 o r.1 r.2)
noncomputable def s_X11_owed (o : OO) : Option (Int × OO) := qNm ((0 : Int64)) (fun m13 => e_X11_owed_7 o m13 0 0)
set_option maxHeartbeats 4000000 in
set_option maxRecDepth 100000 in
theorem c_X11_owed (l : Launch) (g : GG) (ad : Nat → Nat) (o : OO) (v : Int × OO) (h : s_X11_owed o = some v) : CI l g yX11_owed cX11_owed 5 (some .int) 5 111 (wC g ad o) [.ref (ad 0)] v.1 (wC g ad v.2) := by
  refine met_I (by decide) (Nat.le_of_ble_eq_true rfl) ?_
  intro X E hQ
  show Go X 0 (wC g ad o) [(0, .ref (ad 0))] []
  have j79 : ∀ (o : OO) (z1 : Int64) (x3 : Int), b_X11_owed_79 o z1 x3 = some v → Go X 79 (wC g ad o) [(0, .ref (ad 0)), (1, .long z1), (3, iv x3)] [] := by
    intro o z1 x3 h
    unfold b_X11_owed_79 at h
    refine g_aload_n E gdX11_owed_79 rfl 0 rfl ?_
    refine g_lload_n E gdX11_owed_80 rfl 1 rfl ?_
    obtain ⟨o1, e_o1, h⟩ := qNm_of h
    refine g_putl (T := TX11) (ws' := wC g ad o1) E fw_X11 tyX11 tyX11_ok nmX11 0 (wC_0 g ad o) rfl 15 (by decide) w_473 rfl rfl (by decide +kernel) (Nat.le_of_ble_eq_true rfl) (by rw [e_o1]; exact wC_p0_15 g ad o _) gdX11_owed_81 ?_
    refine g_iload_n E gdX11_owed_84 rfl 2 rfl ?_
    exact g_iret E hQ (by rw [← Option.some.inj h]) (by rw [← Option.some.inj h]) gdX11_owed_85
  have j73 : ∀ (o : OO) (z1 : Int64) (x3 : Int) (x4 : Int) (v : (Int64 × Int × Int) ⊕ ((Int64 × Int))), b_X11_owed_73 o z1 x3 x4 = some v → (∀ (z1 : Int64) (x3 : Int) (x4 : Int), v = .inl (z1, x3, x4) → Go X 7 (wC g ad o) [(0, .ref (ad 0)), (1, .long z1), (3, iv x3), (4, iv x4)] []) → (∀ (z1 : Int64) (x3 : Int), v = .inr ((z1, x3)) → Go X 79 (wC g ad o) [(0, .ref (ad 0)), (1, .long z1), (3, iv x3)] []) → Go X 73 (wC g ad o) [(0, .ref (ad 0)), (1, .long z1), (3, iv x3), (4, iv x4)] [] := by
    intro o z1 x3 x4 v h k0 k1
    unfold b_X11_owed_73 at h
    refine g_iinc E [(4, iv (x4 + 1)), (0, .ref (ad 0)), (1, .long z1), (3, iv x3)] gdX11_owed_73 3 rfl (by decide) rfl ?_
    refine g_goto E 7 gdX11_owed_76 (by decide) ?_
    refine g_sub E [1, 2, 3, 0] rfl ?_
    exact k0 z1 x3 (x4 + 1) (Option.some.inj h).symm
  have l7 : ∀ (o : OO) (r : (Int64 × Int)) (s0 : Int64 × Int × Int), loopW (fun s => l_X11_owed_7 o s.1 s.2.1 s.2.2) s0 = some r → (∀ (z1 : Int64) (x3 : Int), r = ((z1, x3)) → Go X 79 (wC g ad o) [(0, .ref (ad 0)), (1, .long z1), (3, iv x3)] []) → Go X 7 (wC g ad o) [(0, .ref (ad 0)), (1, .long s0.1), (3, iv s0.2.1), (4, iv s0.2.2)] [] := by
    intro o r s0 h k1
    refine loop_rule (Head := fun s0 => Go X 7 (wC g ad o) [(0, .ref (ad 0)), (1, .long s0.1), (3, iv s0.2.1), (4, iv s0.2.2)] []) h ?_
    intro s v h kk kx
    obtain ⟨z1, x3, x4⟩ := s
    have h : l_X11_owed_7 o z1 x3 x4 = some v := h
    have k0 : ∀ (z1 : Int64) (x3 : Int) (x4 : Int), v = .inl (z1, x3, x4) → Go X 7 (wC g ad o) [(0, .ref (ad 0)), (1, .long z1), (3, iv x3), (4, iv x4)] [] := fun z1 x3 x4 e => kk (z1, x3, x4) e
    have k1 : ∀ (z1 : Int64) (x3 : Int), v = .inr ((z1, x3)) → Go X 79 (wC g ad o) [(0, .ref (ad 0)), (1, .long z1), (3, iv x3)] [] := fun z1 x3 e => k1 z1 x3 (kx _ e).symm
    unfold l_X11_owed_7 at h
    refine g_iload E gdX11_owed_7 3 rfl ?_
    refine g_aload_n E gdX11_owed_9 rfl 0 rfl ?_
    refine g_get (T := TX11) E fw_X11 0 (wC_0 g ad o) rfl 6 (by decide) w_464 rfl rfl gdX11_owed_10 ?_
    obtain ⟨r2, hc3, h⟩ := qB_of h
    refine g_Vi (r := r2) (As := []) (rest := [iv x4]) (w := wC g ad o) E (c_X4_number l g ad o r2 hc3) okm_X4_number okw_X4_number w_790 rfl (wC_32 g ad o) rfl rfl (Nat.le_of_ble_eq_true rfl) ⟨Nat.le_of_ble_eq_true rfl, Nat.le_of_ble_eq_true rfl⟩ gdX11_owed_13 ?_
    refine g_icmp_ge E 79 gdX11_owed_16 (by decide) h (fun h => ?_) (fun h => ?_)
    ·
      refine g_sub E [0, 1, 2] rfl ?_
      exact k1 z1 x3 (Option.some.inj h).symm
    ·
      refine g_aload_n E gdX11_owed_19 rfl 0 rfl ?_
      refine g_get (T := TX11) E fw_X11 0 (wC_0 g ad o) rfl 6 (by decide) w_464 rfl rfl gdX11_owed_20 ?_
      refine g_iload E gdX11_owed_23 3 rfl ?_
      refine g_iconst E gdX11_owed_25 ?_
      obtain ⟨r4, hc5, h⟩ := qB_of h
      refine g_Vi (r := r4) (As := [iv x4, iv 3]) (rest := []) (w := wC g ad o) E (c_X4_isOf l g ad o x4 3 r4 hc5) okm_X4_isOf okw_X4_isOf w_886 rfl (wC_32 g ad o) rfl rfl (Nat.le_of_ble_eq_true rfl) ⟨Nat.le_of_ble_eq_true rfl, Nat.le_of_ble_eq_true rfl⟩ gdX11_owed_26 ?_
      refine g_if_ne E 35 gdX11_owed_29 (by decide) h (fun h => ?_) (fun h => ?_)
      ·
        refine g_lload_n E gdX11_owed_35 rfl 1 rfl ?_
        refine g_aload_n E gdX11_owed_36 rfl 0 rfl ?_
        refine g_get (T := TX11) E fw_X11 0 (wC_0 g ad o) rfl 6 (by decide) w_464 rfl rfl gdX11_owed_37 ?_
        refine g_iload E gdX11_owed_40 3 rfl ?_
        obtain ⟨r6, hc7, h⟩ := qB_of h
        refine g_Vi (r := r6) (As := [iv x4]) (rest := [.long z1]) (w := wC g ad o) E (c_X4_amountOf l g ad o x4 r6 hc7) okm_X4_amountOf okw_X4_amountOf w_1046 rfl (wC_32 g ad o) rfl rfl (Nat.le_of_ble_eq_true rfl) ⟨Nat.le_of_ble_eq_true rfl, Nat.le_of_ble_eq_true rfl⟩ gdX11_owed_42 ?_
        refine g_i2l E gdX11_owed_45 ?_
        refine g_ladd E gdX11_owed_46 ?_
        obtain ⟨m8, e_m8, h⟩ := qNm_of h
        refine g_nml e_m8 ?_
        refine g_lstore_n E [(1, .long m8), (0, .ref (ad 0)), (3, iv x3), (4, iv x4)] gdX11_owed_47 rfl (by decide) rfl ?_
        refine g_aload_n E gdX11_owed_48 rfl 1 rfl ?_
        refine g_get (T := TX11) E fw_X11 0 (wC_0 g ad o) rfl 6 (by decide) w_464 rfl rfl gdX11_owed_49 ?_
        refine g_iload E gdX11_owed_52 3 rfl ?_
        obtain ⟨r9, hc10, h⟩ := qB_of h
        refine g_Vi (r := r9) (As := [iv x4]) (rest := []) (w := wC g ad o) E (c_X4_kindOf l g ad o x4 r9 hc10) okm_X4_kindOf okw_X4_kindOf w_979 rfl (wC_32 g ad o) rfl rfl (Nat.le_of_ble_eq_true rfl) ⟨Nat.le_of_ble_eq_true rfl, Nat.le_of_ble_eq_true rfl⟩ gdX11_owed_54 ?_
        refine g_iconst E gdX11_owed_57 ?_
        refine g_icmp_ne E 73 gdX11_owed_58 (by decide) h (fun h => ?_) (fun h => ?_)
        ·
          refine g_sub E [1, 0, 2, 3] rfl ?_
          exact j73 o m8 x3 x4 v h k0 k1
        ·
          refine g_aload_n E gdX11_owed_61 rfl 1 rfl ?_
          refine g_iload E gdX11_owed_62 3 rfl ?_
          obtain ⟨r11, hc12, h⟩ := qB_of h
          refine g_Vi (r := r11) (As := [iv x4]) (rest := []) (w := wC g ad o) E (c_X11_isVoidTaking l g ad o x4 r11 hc12) okm_X11_isVoidTaking okw_X11_isVoidTaking w_1242 rfl (wC_0 g ad o) rfl rfl (Nat.le_of_ble_eq_true rfl) ⟨Nat.le_of_ble_eq_true rfl, Nat.le_of_ble_eq_true rfl⟩ gdX11_owed_64 ?_
          refine g_if_eq E 73 gdX11_owed_67 (by decide) h (fun h => ?_) (fun h => ?_)
          ·
            refine g_sub E [1, 0, 2, 3] rfl ?_
            exact j73 o m8 x3 x4 v h k0 k1
          ·
            refine g_iinc E [(3, iv (x3 + 1)), (1, .long m8), (0, .ref (ad 0)), (4, iv x4)] gdX11_owed_70 2 rfl (by decide) rfl ?_
            refine g_sub E [2, 1, 0, 3] rfl ?_
            exact j73 o m8 (x3 + 1) x4 v h k0 k1
      ·
        refine g_goto E 73 gdX11_owed_32 (by decide) ?_
        exact j73 o z1 x3 x4 v h k0 k1
  have j7 : ∀ (o : OO) (z1 : Int64) (x3 : Int) (x4 : Int), e_X11_owed_7 o z1 x3 x4 = some v → Go X 7 (wC g ad o) [(0, .ref (ad 0)), (1, .long z1), (3, iv x3), (4, iv x4)] [] := by
    intro o z1 x3 x4 h
    unfold e_X11_owed_7 at h
    obtain ⟨r, hr, h⟩ := qB_of h
    refine l7 o r _ hr ?_
    ·
      intro u0 u1 e
      subst e
      have h : b_X11_owed_79 o u0 u1 = some v := h
      exact j79 o u0 u1 h
  unfold s_X11_owed at h
  refine g_lconst (v := 0) E gdX11_owed_0 (by decide) ?_
  obtain ⟨m13, e_m13, h⟩ := qNm_of h
  refine g_nml e_m13 ?_
  refine g_lstore_n E [(1, .long m13), (0, .ref (ad 0))] gdX11_owed_1 rfl (by decide) rfl ?_
  refine g_iconst E gdX11_owed_2 ?_
  refine g_istore_n E [(3, iv 0), (1, .long m13), (0, .ref (ad 0))] gdX11_owed_3 rfl (by decide) rfl ?_
  refine g_iconst E gdX11_owed_4 ?_
  refine g_istore E [(4, iv 0), (3, iv 0), (1, .long m13), (0, .ref (ad 0))] gdX11_owed_5 (by decide) rfl ?_
  refine g_sub E [3, 2, 1, 0] rfl ?_
  exact j7 o m13 0 0 h
noncomputable def b_X11_park_68 (o : OO) (y0 : Int) : Option (Int × OO) := some (y0, o)
noncomputable def s_X11_park (o : OO) (x1 : Int) : Option (Int × OO) := qB (s_X4_exists o x1) (fun r1 => qEq r1 0 (some ((-1), o)) (qB (s_X4_isOf o x1 1) (fun r3 => qEq r3 0 (qB2 (s_X11_found o 3) (fun r14 o16 => some (r14, o16))) (qB (s_X4_cells o x1) (fun p5 => qB (s_X3_parksIn o p5) (fun r7 => qB2 (s_X11_tell o r7) (fun r9 o11 => qB (s_X11_inForce o11 6) (fun r12 => qLt r12 r7 (b_X11_park_68 o11 0) (b_X11_park_68 o11 1)))))))))
set_option maxHeartbeats 4000000 in
set_option maxRecDepth 100000 in
theorem c_X11_park (l : Launch) (g : GG) (ad : Nat → Nat) (o : OO) (x1 : Int) (v : Int × OO) (h : s_X11_park o x1 = some v) : CI l g yX11_park cX11_park 3 (some .int) 3 70 (wC g ad o) [.ref (ad 0), iv x1] v.1 (wC g ad v.2) := by
  refine met_I (by decide) (Nat.le_of_ble_eq_true rfl) ?_
  intro X E hQ
  show Go X 0 (wC g ad o) [(0, .ref (ad 0)), (1, iv x1)] []
  have j68 : ∀ (o : OO) (y0 : Int), b_X11_park_68 o y0 = some v → Go X 68 (wC g ad o) [] [iv y0] := by
    intro o y0 h
    unfold b_X11_park_68 at h
    exact g_iret E hQ (by rw [← Option.some.inj h]) (by rw [← Option.some.inj h]) gdX11_park_68
  unfold s_X11_park at h
  refine g_aload_n E gdX11_park_0 rfl 0 rfl ?_
  refine g_get (T := TX11) E fw_X11 0 (wC_0 g ad o) rfl 6 (by decide) w_464 rfl rfl gdX11_park_1 ?_
  refine g_iload_n E gdX11_park_4 rfl 1 rfl ?_
  obtain ⟨r1, hc2, h⟩ := qB_of h
  refine g_Vi (r := r1) (As := [iv x1]) (rest := []) (w := wC g ad o) E (c_X4_exists l g ad o x1 r1 hc2) okm_X4_exists okw_X4_exists w_882 rfl (wC_32 g ad o) rfl rfl (Nat.le_of_ble_eq_true rfl) ⟨Nat.le_of_ble_eq_true rfl, Nat.le_of_ble_eq_true rfl⟩ gdX11_park_5 ?_
  refine g_if_ne E 13 gdX11_park_8 (by decide) h (fun h => ?_) (fun h => ?_)
  ·
    refine g_aload_n E gdX11_park_13 rfl 0 rfl ?_
    refine g_get (T := TX11) E fw_X11 0 (wC_0 g ad o) rfl 6 (by decide) w_464 rfl rfl gdX11_park_14 ?_
    refine g_iload_n E gdX11_park_17 rfl 1 rfl ?_
    refine g_iconst E gdX11_park_18 ?_
    obtain ⟨r3, hc4, h⟩ := qB_of h
    refine g_Vi (r := r3) (As := [iv x1, iv 1]) (rest := []) (w := wC g ad o) E (c_X4_isOf l g ad o x1 1 r3 hc4) okm_X4_isOf okw_X4_isOf w_886 rfl (wC_32 g ad o) rfl rfl (Nat.le_of_ble_eq_true rfl) ⟨Nat.le_of_ble_eq_true rfl, Nat.le_of_ble_eq_true rfl⟩ gdX11_park_19 ?_
    refine g_if_ne E 31 gdX11_park_22 (by decide) h (fun h => ?_) (fun h => ?_)
    ·
      refine g_aload_n E gdX11_park_31 rfl 0 rfl ?_
      refine g_get (T := TX11) E fw_X11 0 (wC_0 g ad o) rfl 2 (by decide) w_460 rfl rfl gdX11_park_32 ?_
      refine g_aload_n E gdX11_park_35 rfl 0 rfl ?_
      refine g_get (T := TX11) E fw_X11 0 (wC_0 g ad o) rfl 6 (by decide) w_464 rfl rfl gdX11_park_36 ?_
      refine g_iload_n E gdX11_park_39 rfl 1 rfl ?_
      obtain ⟨p5, hc6, h⟩ := qB_of h
      refine g_Vl (r := p5) (As := [iv x1]) (rest := [.ref (ad 7)]) (w := wC g ad o) E (c_X4_cells l g ad o x1 p5 hc6) okm_X4_cells okw_X4_cells w_890 rfl (wC_32 g ad o) rfl rfl (Nat.le_of_ble_eq_true rfl) ⟨Nat.le_of_ble_eq_true rfl, Nat.le_of_ble_eq_true rfl⟩ gdX11_park_40 ?_
      obtain ⟨r7, hc8, h⟩ := qB_of h
      refine g_Vi (r := r7) (As := [.long p5]) (rest := []) (w := wC g ad o) E (c_X3_parksIn l g ad o p5 r7 hc8) okm_X3_parksIn okw_X3_parksIn w_1221 rfl (wC_7 g ad o) rfl rfl (Nat.le_of_ble_eq_true rfl) ⟨Nat.le_of_ble_eq_true rfl, Nat.le_of_ble_eq_true rfl⟩ gdX11_park_43 ?_
      refine g_istore_n E [(2, iv r7), (0, .ref (ad 0)), (1, iv x1)] gdX11_park_46 rfl (by decide) rfl ?_
      refine g_aload_n E gdX11_park_47 rfl 1 rfl ?_
      refine g_iload_n E gdX11_park_48 rfl 0 rfl ?_
      obtain ⟨r9, o11, hc10, h⟩ := qB2_of h
      refine g_Vi (r := r9) (As := [iv r7]) (rest := []) (w := wC g ad o11) E (c_X11_tell l g ad o r7 (r9, o11) hc10) okm_X11_tell okw_X11_tell w_551 rfl (wC_0 g ad o) rfl rfl (Nat.le_of_ble_eq_true rfl) ⟨Nat.le_of_ble_eq_true rfl, Nat.le_of_ble_eq_true rfl⟩ gdX11_park_49 ?_
      refine g_pop E gdX11_park_52 rfl ?_
      refine g_iload_n E gdX11_park_53 rfl 0 rfl ?_
      refine g_aload_n E gdX11_park_54 rfl 1 rfl ?_
      refine g_bipush E gdX11_park_55 (by decide) ?_
      obtain ⟨r12, hc13, h⟩ := qB_of h
      refine g_Vi (r := r12) (As := [iv 6]) (rest := [iv r7]) (w := wC g ad o11) E (c_X11_inForce l g ad o11 6 r12 hc13) okm_X11_inForce okw_X11_inForce w_809 rfl (wC_0 g ad o11) rfl rfl (Nat.le_of_ble_eq_true rfl) ⟨Nat.le_of_ble_eq_true rfl, Nat.le_of_ble_eq_true rfl⟩ gdX11_park_57 ?_
      refine g_icmp_gt E 67 gdX11_park_60 (by decide) h (fun h => ?_) (fun h => ?_)
      ·
        refine g_iconst E gdX11_park_67 ?_
        refine g_sub E [] rfl ?_
        exact j68 o11 0 h
      ·
        refine g_iconst E gdX11_park_63 ?_
        refine g_goto E 68 gdX11_park_64 (by decide) ?_
        refine g_sub E [] rfl ?_
        exact j68 o11 1 h
    ·
      refine g_aload_n E gdX11_park_25 rfl 0 rfl ?_
      refine g_iconst E gdX11_park_26 ?_
      obtain ⟨r14, o16, hc15, h⟩ := qB2_of h
      refine g_Vi (r := r14) (As := [iv 3]) (rest := []) (w := wC g ad o16) E (c_X11_found l g ad o 3 (r14, o16) hc15) okm_X11_found okw_X11_found w_521 rfl (wC_0 g ad o) rfl rfl (Nat.le_of_ble_eq_true rfl) ⟨Nat.le_of_ble_eq_true rfl, Nat.le_of_ble_eq_true rfl⟩ gdX11_park_27 ?_
      exact g_iret E hQ (by rw [← Option.some.inj h]) (by rw [← Option.some.inj h]) gdX11_park_30
  ·
    refine g_iconst E gdX11_park_11 ?_
    exact g_iret E hQ (by rw [← Option.some.inj h]) (by rw [← Option.some.inj h]) gdX11_park_12
noncomputable def s_X5_add (o : OO) (x1 : Int) (x2 : Int) (x3 : Int) : Option (Int × OO) := qNm (st1 o 23 4 ((o.1 23 4) + 1)) (fun o1 => qIn (o.1 23 4) 40 (qNm (st1 o1 24 ((o.1 23 4).toNat) (-9)) (fun o3 => qIn (o.1 23 4) 40 (qNm (st1 o3 25 ((o.1 23 4).toNat) x1) (fun o5 => qIn (o.1 23 4) 40 (qZ x2 (qNm (st1 o5 26 ((o.1 23 4).toNat) x2) (fun o8 => qIn (o.1 23 4) 40 (qNm (st1 o8 27 ((o.1 23 4).toNat) x3) (fun o10 => some (o.1 23 4, o10)))))))))))
set_option maxHeartbeats 4000000 in
set_option maxRecDepth 100000 in
theorem c_X5_add (l : Launch) (g : GG) (ad : Nat → Nat) (o : OO) (x1 : Int) (x2 : Int) (x3 : Int) (v : Int × OO) (h : s_X5_add o x1 x2 x3 = some v) : CI l g yX5_add cX5_add 5 (some .int) 0 0 (wC g ad o) [.ref (ad 23), iv x1, iv x2, iv x3] v.1 (wC g ad v.2) := by
  refine met_I (by decide) (Nat.le_of_ble_eq_true rfl) ?_
  intro X E hQ
  show Go X 0 (wC g ad o) [(0, .ref (ad 23)), (1, iv x1), (2, iv x2), (3, iv x3)] []
  unfold s_X5_add at h
  refine g_aload_n E gdX5_add_0 rfl 0 rfl ?_
  refine g_get (T := TX5) E fw_X5 23 (wC_23 g ad o) rfl 4 (by decide) w_214 rfl rfl gdX5_add_1 ?_
  refine g_istore E [(4, iv (o.1 23 4)), (0, .ref (ad 23)), (1, iv x1), (2, iv x2), (3, iv x3)] gdX5_add_4 (by decide) rfl ?_
  refine g_aload_n E gdX5_add_6 rfl 1 rfl ?_
  refine g_dup E gdX5_add_7 rfl ?_
  refine g_get (T := TX5) E fw_X5 23 (wC_23 g ad o) rfl 4 (by decide) w_214 rfl rfl gdX5_add_8 ?_
  refine g_iconst E gdX5_add_11 ?_
  refine g_iadd E gdX5_add_12 ?_
  obtain ⟨o1, e_o1, h⟩ := qNm_of h
  refine g_puti (T := TX5) (ws' := wC g ad o1) E fw_X5 tyX5 tyX5_ok nmX5 23 (wC_23 g ad o) rfl 4 (by decide) w_214 rfl rfl (by decide +kernel) (Nat.le_of_ble_eq_true rfl) (by rw [e_o1]; exact wC_p23_4 g ad o _) gdX5_add_13 ?_
  refine g_aload_n E gdX5_add_16 rfl 1 rfl ?_
  refine g_get (T := TX5) E fw_X5 23 (wC_23 g ad o1) rfl 0 (by decide) w_210 rfl rfl gdX5_add_17 ?_
  refine g_iload E gdX5_add_20 0 rfl ?_
  refine g_bipush E gdX5_add_22 (by decide) ?_
  obtain ⟨hi2, h⟩ := qIn_of h
  obtain ⟨o3, e_o3, h⟩ := qNm_of h
  refine g_iast (ws' := wC g ad o3) E 24 (wC_24 g ad o1) (by decide) hi2 (by rw [e_o3]; exact wC_s24 g ad o1 _ _) gdX5_add_24 ?_
  refine g_aload_n E gdX5_add_25 rfl 1 rfl ?_
  refine g_get (T := TX5) E fw_X5 23 (wC_23 g ad o3) rfl 1 (by decide) w_211 rfl rfl gdX5_add_26 ?_
  refine g_iload E gdX5_add_29 0 rfl ?_
  refine g_iload_n E gdX5_add_31 rfl 2 rfl ?_
  obtain ⟨hi4, h⟩ := qIn_of h
  obtain ⟨o5, e_o5, h⟩ := qNm_of h
  refine g_iast (ws' := wC g ad o5) E 25 (wC_25 g ad o3) (by decide) hi4 (by rw [e_o5]; exact wC_s25 g ad o3 _ _) gdX5_add_32 ?_
  refine g_aload_n E gdX5_add_33 rfl 1 rfl ?_
  refine g_get (T := TX5) E fw_X5 23 (wC_23 g ad o5) rfl 2 (by decide) w_212 rfl rfl gdX5_add_34 ?_
  refine g_iload E gdX5_add_37 0 rfl ?_
  refine g_iload_n E gdX5_add_39 rfl 3 rfl ?_
  obtain ⟨hi6, h⟩ := qIn_of h
  obtain ⟨hz7, h⟩ := qZ_of h
  obtain ⟨o8, e_o8, h⟩ := qNm_of h
  refine g_zast (ws' := wC g ad o8) E 26 (wC_26 g ad o5) (by decide) hi6 hz7 (by rw [e_o8]; exact wC_s26 g ad o5 _ _) gdX5_add_40 ?_
  refine g_aload_n E gdX5_add_41 rfl 1 rfl ?_
  refine g_get (T := TX5) E fw_X5 23 (wC_23 g ad o8) rfl 3 (by decide) w_213 rfl rfl gdX5_add_42 ?_
  refine g_iload E gdX5_add_45 0 rfl ?_
  refine g_iload_n E gdX5_add_47 rfl 4 rfl ?_
  obtain ⟨hi9, h⟩ := qIn_of h
  obtain ⟨o10, e_o10, h⟩ := qNm_of h
  refine g_iast (ws' := wC g ad o10) E 27 (wC_27 g ad o8) (by decide) hi9 (by rw [e_o10]; exact wC_s27 g ad o8 _ _) gdX5_add_48 ?_
  refine g_iload E gdX5_add_49 0 rfl ?_
  exact g_iret E hQ (by rw [← Option.some.inj h]) (by rw [← Option.some.inj h]) gdX5_add_51
noncomputable def b_X11_person_46 (o : OO) : Option (Int × OO) := some ((-1), o)
noncomputable def b_X11_person_110 (o : OO) (x5 : Int) : Option (Int × OO) := some (x5, o)
noncomputable def b_X11_person_84 (o : OO) (x1 : Int) (x2 : Int) (x3 : Int) (x4 : Int) : Option (Int × OO) := qB2 (s_X5_add o x2 x3 x4) (fun r1 o3 => qEq x1 (-9) (b_X11_person_110 o3 r1) (qB (s_X11_settle o3 r1 x1) (fun o6 => b_X11_person_110 o6 r1)))
noncomputable def b_X11_person_34 (o : OO) (x1 : Int) (x2 : Int) (x3 : Int) (x4 : Int) : Option (Int × OO) := qLt x4 0 (b_X11_person_46 o) (qLt 9 x4 (b_X11_person_46 o) (qB (s_X5_number o) (fun r7 => qLt r7 40 (qEq x1 (-9) (b_X11_person_84 o x1 x2 x3 x4) (qB (s_X1_roomsLeft o x1) (fun r9 => qLt r9 1 (some ((-4), o)) (b_X11_person_84 o x1 x2 x3 x4)))) (some ((-2), o)))))
noncomputable def b_X11_person_19 (o : OO) (x1 : Int) (x2 : Int) (x3 : Int) (x4 : Int) : Option (Int × OO) := qEq x2 (-9) (b_X11_person_34 o x1 x2 x3 x4) (qB (s_X3_isCell x2) (fun r11 => qEq r11 0 (some ((-1), o)) (b_X11_person_34 o x1 x2 x3 x4)))
noncomputable def s_X11_person (o : OO) (x1 : Int) (x2 : Int) (x3 : Int) (x4 : Int) : Option (Int × OO) := qEq x1 (-9) (b_X11_person_19 o x1 x2 x3 x4) (qB (s_X1_exists o x1) (fun r13 => qEq r13 0 (some ((-1), o)) (b_X11_person_19 o x1 x2 x3 x4)))
set_option maxHeartbeats 4000000 in
set_option maxRecDepth 100000 in
theorem c_X11_person (l : Launch) (g : GG) (ad : Nat → Nat) (o : OO) (x1 : Int) (x2 : Int) (x3 : Int) (x4 : Int) (v : Int × OO) (h : s_X11_person o x1 x2 x3 x4 = some v) : CI l g yX11_person cX11_person 6 (some .int) 2 44 (wC g ad o) [.ref (ad 0), iv x1, iv x2, iv x3, iv x4] v.1 (wC g ad v.2) := by
  refine met_I (by decide) (Nat.le_of_ble_eq_true rfl) ?_
  intro X E hQ
  show Go X 0 (wC g ad o) [(0, .ref (ad 0)), (1, iv x1), (2, iv x2), (3, iv x3), (4, iv x4)] []
  have j46 : ∀ (o : OO), b_X11_person_46 o = some v → Go X 46 (wC g ad o) [] [] := by
    intro o h
    unfold b_X11_person_46 at h
    refine g_iconst E gdX11_person_46 ?_
    exact g_iret E hQ (by rw [← Option.some.inj h]) (by rw [← Option.some.inj h]) gdX11_person_47
  have j110 : ∀ (o : OO) (x5 : Int), b_X11_person_110 o x5 = some v → Go X 110 (wC g ad o) [(5, iv x5)] [] := by
    intro o x5 h
    unfold b_X11_person_110 at h
    refine g_iload E gdX11_person_110 0 rfl ?_
    exact g_iret E hQ (by rw [← Option.some.inj h]) (by rw [← Option.some.inj h]) gdX11_person_112
  have j84 : ∀ (o : OO) (x1 : Int) (x2 : Int) (x3 : Int) (x4 : Int), b_X11_person_84 o x1 x2 x3 x4 = some v → Go X 84 (wC g ad o) [(0, .ref (ad 0)), (1, iv x1), (2, iv x2), (3, iv x3), (4, iv x4)] [] := by
    intro o x1 x2 x3 x4 h
    unfold b_X11_person_84 at h
    refine g_aload_n E gdX11_person_84 rfl 0 rfl ?_
    refine g_get (T := TX11) E fw_X11 0 (wC_0 g ad o) rfl 4 (by decide) w_462 rfl rfl gdX11_person_85 ?_
    refine g_iload_n E gdX11_person_88 rfl 2 rfl ?_
    refine g_iload_n E gdX11_person_89 rfl 3 rfl ?_
    refine g_iload E gdX11_person_90 4 rfl ?_
    obtain ⟨r1, o3, hc2, h⟩ := qB2_of h
    refine g_Vi (r := r1) (As := [iv x2, iv x3, iv x4]) (rest := []) (w := wC g ad o3) E (c_X5_add l g ad o x2 x3 x4 (r1, o3) hc2) okm_X5_add okw_X5_add w_715 rfl (wC_23 g ad o) rfl rfl (Nat.le_of_ble_eq_true rfl) ⟨Nat.le_of_ble_eq_true rfl, Nat.le_of_ble_eq_true rfl⟩ gdX11_person_92 ?_
    refine g_istore E [(5, iv r1), (0, .ref (ad 0)), (1, iv x1), (2, iv x2), (3, iv x3), (4, iv x4)] gdX11_person_95 (by decide) rfl ?_
    refine g_iload_n E gdX11_person_97 rfl 2 rfl ?_
    refine g_bipush E gdX11_person_98 (by decide) ?_
    refine g_icmp_eq E 110 gdX11_person_100 (by decide) h (fun h => ?_) (fun h => ?_)
    ·
      refine g_sub E [0] rfl ?_
      exact j110 o3 r1 h
    ·
      refine g_aload_n E gdX11_person_103 rfl 1 rfl ?_
      refine g_iload E gdX11_person_104 0 rfl ?_
      refine g_iload_n E gdX11_person_106 rfl 2 rfl ?_
      obtain ⟨o6, hc5, h⟩ := qB_of h
      refine g_Vv (As := [iv r1, iv x1]) (rest := []) (w := wC g ad o6) E (c_X11_settle l g ad o3 r1 x1 o6 hc5) okm_X11_settle okw_X11_settle w_719 rfl (wC_0 g ad o3) rfl rfl (Nat.le_of_ble_eq_true rfl) ⟨Nat.le_of_ble_eq_true rfl, Nat.le_of_ble_eq_true rfl⟩ gdX11_person_107 ?_
      refine g_sub E [0] rfl ?_
      exact j110 o6 r1 h
  have j34 : ∀ (o : OO) (x1 : Int) (x2 : Int) (x3 : Int) (x4 : Int), b_X11_person_34 o x1 x2 x3 x4 = some v → Go X 34 (wC g ad o) [(0, .ref (ad 0)), (1, iv x1), (2, iv x2), (3, iv x3), (4, iv x4)] [] := by
    intro o x1 x2 x3 x4 h
    unfold b_X11_person_34 at h
    refine g_iload E gdX11_person_34 4 rfl ?_
    refine g_if_lt E 46 gdX11_person_36 (by decide) h (fun h => ?_) (fun h => ?_)
    ·
      refine g_sub E [] rfl ?_
      exact j46 o h
    ·
      refine g_iload E gdX11_person_39 4 rfl ?_
      refine g_bipush E gdX11_person_41 (by decide) ?_
      refine g_icmp_le E 48 gdX11_person_43 (by decide) h (fun h => ?_) (fun h => ?_)
      ·
        refine g_aload_n E gdX11_person_48 rfl 0 rfl ?_
        refine g_get (T := TX11) E fw_X11 0 (wC_0 g ad o) rfl 4 (by decide) w_462 rfl rfl gdX11_person_49 ?_
        obtain ⟨r7, hc8, h⟩ := qB_of h
        refine g_Vi (r := r7) (As := []) (rest := []) (w := wC g ad o) E (c_X5_number l g ad o r7 hc8) okm_X5_number okw_X5_number w_703 rfl (wC_23 g ad o) rfl rfl (Nat.le_of_ble_eq_true rfl) ⟨Nat.le_of_ble_eq_true rfl, Nat.le_of_ble_eq_true rfl⟩ gdX11_person_52 ?_
        refine g_bipush E gdX11_person_55 (by decide) ?_
        refine g_icmp_lt E 63 gdX11_person_57 (by decide) h (fun h => ?_) (fun h => ?_)
        ·
          refine g_iload_n E gdX11_person_63 rfl 1 rfl ?_
          refine g_bipush E gdX11_person_64 (by decide) ?_
          refine g_icmp_eq E 84 gdX11_person_66 (by decide) h (fun h => ?_) (fun h => ?_)
          ·
            exact j84 o x1 x2 x3 x4 h
          ·
            refine g_aload_n E gdX11_person_69 rfl 0 rfl ?_
            refine g_get (T := TX11) E fw_X11 0 (wC_0 g ad o) rfl 3 (by decide) w_461 rfl rfl gdX11_person_70 ?_
            refine g_iload_n E gdX11_person_73 rfl 1 rfl ?_
            obtain ⟨r9, hc10, h⟩ := qB_of h
            refine g_Vi (r := r9) (As := [iv x1]) (rest := []) (w := wC g ad o) E (c_X1_roomsLeft l g ad o x1 r9 hc10) okm_X1_roomsLeft okw_X1_roomsLeft w_707 rfl (wC_10 g ad o) rfl rfl (Nat.le_of_ble_eq_true rfl) ⟨Nat.le_of_ble_eq_true rfl, Nat.le_of_ble_eq_true rfl⟩ gdX11_person_74 ?_
            refine g_iconst E gdX11_person_77 ?_
            refine g_icmp_ge E 84 gdX11_person_78 (by decide) h (fun h => ?_) (fun h => ?_)
            ·
              exact j84 o x1 x2 x3 x4 h
            ·
              refine g_bipush E gdX11_person_81 (by decide) ?_
              exact g_iret E hQ (by rw [← Option.some.inj h]) (by rw [← Option.some.inj h]) gdX11_person_83
        ·
          refine g_bipush E gdX11_person_60 (by decide) ?_
          exact g_iret E hQ (by rw [← Option.some.inj h]) (by rw [← Option.some.inj h]) gdX11_person_62
      ·
        refine g_sub E [] rfl ?_
        exact j46 o h
  have j19 : ∀ (o : OO) (x1 : Int) (x2 : Int) (x3 : Int) (x4 : Int), b_X11_person_19 o x1 x2 x3 x4 = some v → Go X 19 (wC g ad o) [(0, .ref (ad 0)), (1, iv x1), (2, iv x2), (3, iv x3), (4, iv x4)] [] := by
    intro o x1 x2 x3 x4 h
    unfold b_X11_person_19 at h
    refine g_iload_n E gdX11_person_19 rfl 2 rfl ?_
    refine g_bipush E gdX11_person_20 (by decide) ?_
    refine g_icmp_eq E 34 gdX11_person_22 (by decide) h (fun h => ?_) (fun h => ?_)
    ·
      exact j34 o x1 x2 x3 x4 h
    ·
      refine g_iload_n E gdX11_person_25 rfl 2 rfl ?_
      obtain ⟨r11, hc12, h⟩ := qB_of h
      refine g_Si (r := r11) (As := [iv x2]) (rest := []) (w := wC g ad o) E (c_X3_isCell l g (wC g ad o) x2 r11 hc12) okm_X3_isCell w_622 w_621 rfl rfl (Nat.le_of_ble_eq_true rfl) ⟨Nat.le_of_ble_eq_true rfl, Nat.le_of_ble_eq_true rfl⟩ gdX11_person_26 ?_
      refine g_if_ne E 34 gdX11_person_29 (by decide) h (fun h => ?_) (fun h => ?_)
      ·
        exact j34 o x1 x2 x3 x4 h
      ·
        refine g_iconst E gdX11_person_32 ?_
        exact g_iret E hQ (by rw [← Option.some.inj h]) (by rw [← Option.some.inj h]) gdX11_person_33
  unfold s_X11_person at h
  refine g_iload_n E gdX11_person_0 rfl 1 rfl ?_
  refine g_bipush E gdX11_person_1 (by decide) ?_
  refine g_icmp_eq E 19 gdX11_person_3 (by decide) h (fun h => ?_) (fun h => ?_)
  ·
    exact j19 o x1 x2 x3 x4 h
  ·
    refine g_aload_n E gdX11_person_6 rfl 0 rfl ?_
    refine g_get (T := TX11) E fw_X11 0 (wC_0 g ad o) rfl 3 (by decide) w_461 rfl rfl gdX11_person_7 ?_
    refine g_iload_n E gdX11_person_10 rfl 1 rfl ?_
    obtain ⟨r13, hc14, h⟩ := qB_of h
    refine g_Vi (r := r13) (As := [iv x1]) (rest := []) (w := wC g ad o) E (c_X1_exists l g ad o x1 r13 hc14) okm_X1_exists okw_X1_exists w_667 rfl (wC_10 g ad o) rfl rfl (Nat.le_of_ble_eq_true rfl) ⟨Nat.le_of_ble_eq_true rfl, Nat.le_of_ble_eq_true rfl⟩ gdX11_person_11 ?_
    refine g_if_ne E 19 gdX11_person_14 (by decide) h (fun h => ?_) (fun h => ?_)
    ·
      exact j19 o x1 x2 x3 x4 h
    ·
      refine g_iconst E gdX11_person_17 ?_
      exact g_iret E hQ (by rw [← Option.some.inj h]) (by rw [← Option.some.inj h]) gdX11_person_18
noncomputable def s_X8_exchange__4 (o : OO) (x1 : Int) (x2 : Int) (x3 : Int) : Option (Int × OO) := qIn ((x1 * 40) + x2) 240 (qNm (o.1 6 ((x1 * 40) + x2).toNat) (fun n2 => qIn ((x1 * 40) + x2) 240 (qNm (st1 o 6 (((x1 * 40) + x2).toNat) x3) (fun o4 => some (n2, o4)))))
set_option maxHeartbeats 4000000 in
set_option maxRecDepth 100000 in
theorem c_X8_exchange__4 (l : Launch) (g : GG) (ad : Nat → Nat) (o : OO) (x1 : Int) (x2 : Int) (x3 : Int) (v : Int × OO) (h : s_X8_exchange__4 o x1 x2 x3 = some v) : CI l g yX8_exchange cX8_exchange 5 (some .int) 0 0 (wC g ad o) [.ref (ad 4), iv x1, iv x2, iv x3] v.1 (wC g ad v.2) := by
  refine met_I (by decide) (Nat.le_of_ble_eq_true rfl) ?_
  intro X E hQ
  show Go X 0 (wC g ad o) [(0, .ref (ad 4)), (1, iv x1), (2, iv x2), (3, iv x3)] []
  unfold s_X8_exchange__4 at h
  refine g_aload_n E gdX8_exchange_0 rfl 0 rfl ?_
  refine g_get (T := TX8) E fw_X8 4 (wC_4 g ad o) rfl 3 (by decide) w_129 rfl rfl gdX8_exchange_1 ?_
  refine g_iload_n E gdX8_exchange_4 rfl 1 rfl ?_
  refine g_bipush E gdX8_exchange_5 (by decide) ?_
  refine g_imul E gdX8_exchange_7 ?_
  refine g_iload_n E gdX8_exchange_8 rfl 2 rfl ?_
  refine g_iadd E gdX8_exchange_9 ?_
  obtain ⟨hi1, h⟩ := qIn_of h
  refine g_iald E 6 (wC_6 g ad o) (by decide) hi1 gdX8_exchange_10 ?_
  obtain ⟨n2, e_n2, h⟩ := qNm_of h
  refine g_nmi e_n2 ?_
  refine g_istore E [(4, iv n2), (0, .ref (ad 4)), (1, iv x1), (2, iv x2), (3, iv x3)] gdX8_exchange_11 (by decide) rfl ?_
  refine g_aload_n E gdX8_exchange_13 rfl 1 rfl ?_
  refine g_get (T := TX8) E fw_X8 4 (wC_4 g ad o) rfl 3 (by decide) w_129 rfl rfl gdX8_exchange_14 ?_
  refine g_iload_n E gdX8_exchange_17 rfl 2 rfl ?_
  refine g_bipush E gdX8_exchange_18 (by decide) ?_
  refine g_imul E gdX8_exchange_20 ?_
  refine g_iload_n E gdX8_exchange_21 rfl 3 rfl ?_
  refine g_iadd E gdX8_exchange_22 ?_
  refine g_iload_n E gdX8_exchange_23 rfl 4 rfl ?_
  obtain ⟨hi3, h⟩ := qIn_of h
  obtain ⟨o4, e_o4, h⟩ := qNm_of h
  refine g_iast (ws' := wC g ad o4) E 6 (wC_6 g ad o) (by decide) hi3 (by rw [e_o4]; exact wC_s6 g ad o _ _) gdX8_exchange_24 ?_
  refine g_iload E gdX8_exchange_25 0 rfl ?_
  exact g_iret E hQ (by rw [← Option.some.inj h]) (by rw [← Option.some.inj h]) gdX8_exchange_27
noncomputable def s_X11_put (o : OO) (x1 : Int) (x2 : Int) (x3 : Int) : Option (Int × OO) := qB (s_X8_exists__4 o x1) (fun r1 => qEq r1 0 (some ((-1), o)) (qB (s_X8_isThere__4 o x1) (fun r3 => qEq r3 0 (qB2 (s_X11_found o 1) (fun r13 o15 => some (r13, o15))) (qB (s_X8_holds o x1 x2) (fun r5 => qEq r5 0 (qB2 (s_X11_found o 2) (fun r10 o12 => some (r10, o12))) (qB2 (s_X8_exchange__4 o x1 x2 (jb x3)) (fun r7 o9 => some (r7 + 1000, o9))))))))
set_option maxHeartbeats 4000000 in
set_option maxRecDepth 100000 in
theorem c_X11_put (l : Launch) (g : GG) (ad : Nat → Nat) (o : OO) (x1 : Int) (x2 : Int) (x3 : Int) (v : Int × OO) (h : s_X11_put o x1 x2 x3 = some v) : CI l g yX11_put cX11_put 4 (some .int) 1 24 (wC g ad o) [.ref (ad 0), iv x1, iv x2, iv x3] v.1 (wC g ad v.2) := by
  refine met_I (by decide) (Nat.le_of_ble_eq_true rfl) ?_
  intro X E hQ
  show Go X 0 (wC g ad o) [(0, .ref (ad 0)), (1, iv x1), (2, iv x2), (3, iv x3)] []
  unfold s_X11_put at h
  refine g_aload_n E gdX11_put_0 rfl 0 rfl ?_
  refine g_get (T := TX11) E fw_X11 0 (wC_0 g ad o) rfl 1 (by decide) w_459 rfl rfl gdX11_put_1 ?_
  refine g_iload_n E gdX11_put_4 rfl 1 rfl ?_
  obtain ⟨r1, hc2, h⟩ := qB_of h
  refine g_Vi (r := r1) (As := [iv x1]) (rest := []) (w := wC g ad o) E (c_X8_exists__4 l g ad o x1 r1 hc2) okm_X8_exists okw_X8_exists w_517 rfl (wC_4 g ad o) rfl rfl (Nat.le_of_ble_eq_true rfl) ⟨Nat.le_of_ble_eq_true rfl, Nat.le_of_ble_eq_true rfl⟩ gdX11_put_5 ?_
  refine g_if_ne E 13 gdX11_put_8 (by decide) h (fun h => ?_) (fun h => ?_)
  ·
    refine g_aload_n E gdX11_put_13 rfl 0 rfl ?_
    refine g_get (T := TX11) E fw_X11 0 (wC_0 g ad o) rfl 1 (by decide) w_459 rfl rfl gdX11_put_14 ?_
    refine g_iload_n E gdX11_put_17 rfl 1 rfl ?_
    obtain ⟨r3, hc4, h⟩ := qB_of h
    refine g_Vi (r := r3) (As := [iv x1]) (rest := []) (w := wC g ad o) E (c_X8_isThere__4 l g ad o x1 r3 hc4) okm_X8_isThere okw_X8_isThere w_539 rfl (wC_4 g ad o) rfl rfl (Nat.le_of_ble_eq_true rfl) ⟨Nat.le_of_ble_eq_true rfl, Nat.le_of_ble_eq_true rfl⟩ gdX11_put_18 ?_
    refine g_if_ne E 30 gdX11_put_21 (by decide) h (fun h => ?_) (fun h => ?_)
    ·
      refine g_aload_n E gdX11_put_30 rfl 0 rfl ?_
      refine g_get (T := TX11) E fw_X11 0 (wC_0 g ad o) rfl 1 (by decide) w_459 rfl rfl gdX11_put_31 ?_
      refine g_iload_n E gdX11_put_34 rfl 1 rfl ?_
      refine g_iload_n E gdX11_put_35 rfl 2 rfl ?_
      obtain ⟨r5, hc6, h⟩ := qB_of h
      refine g_Vi (r := r5) (As := [iv x1, iv x2]) (rest := []) (w := wC g ad o) E (c_X8_holds l g ad o x1 x2 r5 hc6) okm_X8_holds okw_X8_holds w_543 rfl (wC_4 g ad o) rfl rfl (Nat.le_of_ble_eq_true rfl) ⟨Nat.le_of_ble_eq_true rfl, Nat.le_of_ble_eq_true rfl⟩ gdX11_put_36 ?_
      refine g_if_ne E 48 gdX11_put_39 (by decide) h (fun h => ?_) (fun h => ?_)
      ·
        refine g_aload_n E gdX11_put_48 rfl 0 rfl ?_
        refine g_get (T := TX11) E fw_X11 0 (wC_0 g ad o) rfl 1 (by decide) w_459 rfl rfl gdX11_put_49 ?_
        refine g_iload_n E gdX11_put_52 rfl 1 rfl ?_
        refine g_iload_n E gdX11_put_53 rfl 2 rfl ?_
        refine g_iload_n E gdX11_put_54 rfl 3 rfl ?_
        refine g_i2b E gdX11_put_55 ?_
        obtain ⟨r7, o9, hc8, h⟩ := qB2_of h
        refine g_Vi (r := r7) (As := [iv x1, iv x2, iv (jb x3)]) (rest := []) (w := wC g ad o9) E (c_X8_exchange__4 l g ad o x1 x2 (jb x3) (r7, o9) hc8) okm_X8_exchange okw_X8_exchange w_547 rfl (wC_4 g ad o) rfl rfl (Nat.le_of_ble_eq_true rfl) ⟨Nat.le_of_ble_eq_true rfl, Nat.le_of_ble_eq_true rfl⟩ gdX11_put_56 ?_
        refine g_sipush E gdX11_put_59 (by decide) ?_
        refine g_iadd E gdX11_put_62 ?_
        exact g_iret E hQ (by rw [← Option.some.inj h]) (by rw [← Option.some.inj h]) gdX11_put_63
      ·
        refine g_aload_n E gdX11_put_42 rfl 0 rfl ?_
        refine g_iconst E gdX11_put_43 ?_
        obtain ⟨r10, o12, hc11, h⟩ := qB2_of h
        refine g_Vi (r := r10) (As := [iv 2]) (rest := []) (w := wC g ad o12) E (c_X11_found l g ad o 2 (r10, o12) hc11) okm_X11_found okw_X11_found w_521 rfl (wC_0 g ad o) rfl rfl (Nat.le_of_ble_eq_true rfl) ⟨Nat.le_of_ble_eq_true rfl, Nat.le_of_ble_eq_true rfl⟩ gdX11_put_44 ?_
        exact g_iret E hQ (by rw [← Option.some.inj h]) (by rw [← Option.some.inj h]) gdX11_put_47
    ·
      refine g_aload_n E gdX11_put_24 rfl 0 rfl ?_
      refine g_iconst E gdX11_put_25 ?_
      obtain ⟨r13, o15, hc14, h⟩ := qB2_of h
      refine g_Vi (r := r13) (As := [iv 1]) (rest := []) (w := wC g ad o15) E (c_X11_found l g ad o 1 (r13, o15) hc14) okm_X11_found okw_X11_found w_521 rfl (wC_0 g ad o) rfl rfl (Nat.le_of_ble_eq_true rfl) ⟨Nat.le_of_ble_eq_true rfl, Nat.le_of_ble_eq_true rfl⟩ gdX11_put_26 ?_
      exact g_iret E hQ (by rw [← Option.some.inj h]) (by rw [← Option.some.inj h]) gdX11_put_29
  ·
    refine g_iconst E gdX11_put_11 ?_
    exact g_iret E hQ (by rw [← Option.some.inj h]) (by rw [← Option.some.inj h]) gdX11_put_12
noncomputable def s_X4_routeOf (o : OO) (x1 : Int) (x2 : Int) : Option (OO) := qIn x1 24 (qNm (st1 o 36 x1.toNat 1) (fun o2 => qIn (x1 * 64) 1536 (qNm (st1 o2 37 ((x1 * 64).toNat) x2) (fun o4 => qB (s_X3_bit x2) (fun p5 => qIn x1 24 (qNm (st2 o4 38 x1.toNat p5) (fun o8 => some o8)))))))
set_option maxHeartbeats 4000000 in
set_option maxRecDepth 100000 in
theorem c_X4_routeOf (l : Launch) (g : GG) (ad : Nat → Nat) (o : OO) (x1 : Int) (x2 : Int) (v : OO) (h : s_X4_routeOf o x1 x2 = some v) : CV l g yX4_routeOf cX4_routeOf 3 1 20 (wC g ad o) [.ref (ad 32), iv x1, iv x2] (wC g ad v) := by
  refine met_V (by decide) (Nat.le_of_ble_eq_true rfl) ?_
  intro X E hQ
  show Go X 0 (wC g ad o) [(0, .ref (ad 32)), (1, iv x1), (2, iv x2)] []
  unfold s_X4_routeOf at h
  refine g_aload_n E gdX4_routeOf_0 rfl 0 rfl ?_
  refine g_get (T := TX4) E fw_X4 32 (wC_32 g ad o) rfl 3 (by decide) w_254 rfl rfl gdX4_routeOf_1 ?_
  refine g_iload_n E gdX4_routeOf_4 rfl 1 rfl ?_
  refine g_iconst E gdX4_routeOf_5 ?_
  obtain ⟨hi1, h⟩ := qIn_of h
  obtain ⟨o2, e_o2, h⟩ := qNm_of h
  refine g_iast (ws' := wC g ad o2) E 36 (wC_36 g ad o) (by decide) hi1 (by rw [e_o2]; exact wC_s36 g ad o _ _) gdX4_routeOf_6 ?_
  refine g_aload_n E gdX4_routeOf_7 rfl 0 rfl ?_
  refine g_get (T := TX4) E fw_X4 32 (wC_32 g ad o2) rfl 4 (by decide) w_255 rfl rfl gdX4_routeOf_8 ?_
  refine g_iload_n E gdX4_routeOf_11 rfl 1 rfl ?_
  refine g_bipush E gdX4_routeOf_12 (by decide) ?_
  refine g_imul E gdX4_routeOf_14 ?_
  refine g_iload_n E gdX4_routeOf_15 rfl 2 rfl ?_
  obtain ⟨hi3, h⟩ := qIn_of h
  obtain ⟨o4, e_o4, h⟩ := qNm_of h
  refine g_iast (ws' := wC g ad o4) E 37 (wC_37 g ad o2) (by decide) hi3 (by rw [e_o4]; exact wC_s37 g ad o2 _ _) gdX4_routeOf_16 ?_
  refine g_aload_n E gdX4_routeOf_17 rfl 0 rfl ?_
  refine g_get (T := TX4) E fw_X4 32 (wC_32 g ad o4) rfl 5 (by decide) w_256 rfl rfl gdX4_routeOf_18 ?_
  refine g_iload_n E gdX4_routeOf_21 rfl 1 rfl ?_
  refine g_iload_n E gdX4_routeOf_22 rfl 2 rfl ?_
  obtain ⟨p5, hc6, h⟩ := qB_of h
  refine g_Sl (r := p5) (As := [iv x2]) (rest := [iv x1, .ref (ad 38)]) (w := wC g ad o4) E (c_X3_bit l g (wC g ad o4) x2 p5 hc6) okm_X3_bit w_842 w_877 rfl rfl (Nat.le_of_ble_eq_true rfl) ⟨Nat.le_of_ble_eq_true rfl, Nat.le_of_ble_eq_true rfl⟩ gdX4_routeOf_23 ?_
  obtain ⟨hi7, h⟩ := qIn_of h
  obtain ⟨o8, e_o8, h⟩ := qNm_of h
  refine g_last (ws' := wC g ad o8) E 38 (wC_38 g ad o4) (by decide) hi7 (by rw [e_o8]; exact wC_s38 g ad o4 _ _) gdX4_routeOf_26 ?_
  exact g_vret E hQ (by rw [← Option.some.inj h]) gdX4_routeOf_27
noncomputable def b_X11_ramp_18 (o : OO) : Option (Int × OO) := some ((-1), o)
noncomputable def b_X11_ramp_104 (o : OO) : Option (Int × OO) := some ((-4), o)
noncomputable def b_X11_ramp_86 (o : OO) (x1 : Int) (x2 : Int) (y0 : Int) : Option (Int × OO) := qB (s_X3_isWater o x2) (fun r1 => qEq r1 0 (qEq y0 0 (b_X11_ramp_104 o) (qB2 (s_X4_add o 2 (o.1 0 13) x1) (fun r3 o5 => qB (s_X4_routeOf o5 r3 x2) (fun o8 => some (r3, o8))))) (b_X11_ramp_104 o))
noncomputable def b_X11_ramp_85 (o : OO) (x1 : Int) (x2 : Int) : Option (Int × OO) := b_X11_ramp_86 o x1 x2 0
noncomputable def s_X11_ramp (o : OO) (x1 : Int) (x2 : Int) : Option (Int × OO) := qB (s_X4_exists o x1) (fun r9 => qEq r9 0 (b_X11_ramp_18 o) (qB (s_X3_isCell x2) (fun r11 => qEq r11 0 (b_X11_ramp_18 o) (qB (s_X4_number o) (fun r13 => qLt r13 24 (qB (s_X4_isOf o x1 1) (fun r15 => qEq r15 0 (qB2 (s_X11_found o 3) (fun r25 o27 => some (r25, o27))) (qB (s_X4_cells o x1) (fun p17 => qB (s_X3_spread p17) (fun p19 => qB (s_X3_has p19 x2) (fun r21 => qEq r21 0 (b_X11_ramp_85 o x1 x2) (qB (s_X3_has p17 x2) (fun r23 => qEq r23 0 (b_X11_ramp_86 o x1 x2 1) (b_X11_ramp_85 o x1 x2))))))))) (some ((-2), o)))))))
set_option maxHeartbeats 4000000 in
set_option maxRecDepth 100000 in
theorem c_X11_ramp (l : Launch) (g : GG) (ad : Nat → Nat) (o : OO) (x1 : Int) (x2 : Int) (v : Int × OO) (h : s_X11_ramp o x1 x2 = some v) : CI l g yX11_ramp cX11_ramp 7 (some .int) 2 42 (wC g ad o) [.ref (ad 0), iv x1, iv x2] v.1 (wC g ad v.2) := by
  refine met_I (by decide) (Nat.le_of_ble_eq_true rfl) ?_
  intro X E hQ
  show Go X 0 (wC g ad o) [(0, .ref (ad 0)), (1, iv x1), (2, iv x2)] []
  have j18 : ∀ (o : OO), b_X11_ramp_18 o = some v → Go X 18 (wC g ad o) [] [] := by
    intro o h
    unfold b_X11_ramp_18 at h
    refine g_iconst E gdX11_ramp_18 ?_
    exact g_iret E hQ (by rw [← Option.some.inj h]) (by rw [← Option.some.inj h]) gdX11_ramp_19
  have j104 : ∀ (o : OO), b_X11_ramp_104 o = some v → Go X 104 (wC g ad o) [] [] := by
    intro o h
    unfold b_X11_ramp_104 at h
    refine g_bipush E gdX11_ramp_104 (by decide) ?_
    exact g_iret E hQ (by rw [← Option.some.inj h]) (by rw [← Option.some.inj h]) gdX11_ramp_106
  have j86 : ∀ (o : OO) (x1 : Int) (x2 : Int) (y0 : Int), b_X11_ramp_86 o x1 x2 y0 = some v → Go X 86 (wC g ad o) [(0, .ref (ad 0)), (1, iv x1), (2, iv x2)] [iv y0] := by
    intro o x1 x2 y0 h
    unfold b_X11_ramp_86 at h
    refine g_istore E [(5, iv y0), (0, .ref (ad 0)), (1, iv x1), (2, iv x2)] gdX11_ramp_86 (by decide) rfl ?_
    refine g_aload_n E gdX11_ramp_88 rfl 1 rfl ?_
    refine g_get (T := TX11) E fw_X11 0 (wC_0 g ad o) rfl 2 (by decide) w_460 rfl rfl gdX11_ramp_89 ?_
    refine g_iload_n E gdX11_ramp_92 rfl 3 rfl ?_
    obtain ⟨r1, hc2, h⟩ := qB_of h
    refine g_Vi (r := r1) (As := [iv x2]) (rest := []) (w := wC g ad o) E (c_X3_isWater l g ad o x2 r1 hc2) okm_X3_isWater okw_X3_isWater w_651 rfl (wC_7 g ad o) rfl rfl (Nat.le_of_ble_eq_true rfl) ⟨Nat.le_of_ble_eq_true rfl, Nat.le_of_ble_eq_true rfl⟩ gdX11_ramp_93 ?_
    refine g_if_ne E 104 gdX11_ramp_96 (by decide) h (fun h => ?_) (fun h => ?_)
    ·
      refine g_sub E [] rfl ?_
      exact j104 o h
    ·
      refine g_iload E gdX11_ramp_99 0 rfl ?_
      refine g_if_ne E 107 gdX11_ramp_101 (by decide) h (fun h => ?_) (fun h => ?_)
      ·
        refine g_aload_n E gdX11_ramp_107 rfl 1 rfl ?_
        refine g_get (T := TX11) E fw_X11 0 (wC_0 g ad o) rfl 6 (by decide) w_464 rfl rfl gdX11_ramp_108 ?_
        refine g_iconst E gdX11_ramp_111 ?_
        refine g_aload_n E gdX11_ramp_112 rfl 1 rfl ?_
        refine g_get (T := TX11) E fw_X11 0 (wC_0 g ad o) rfl 13 (by decide) w_471 rfl rfl gdX11_ramp_113 ?_
        refine g_iload_n E gdX11_ramp_116 rfl 2 rfl ?_
        obtain ⟨r3, o5, hc4, h⟩ := qB2_of h
        refine g_Vi (r := r3) (As := [iv 2, iv (o.1 0 13), iv x1]) (rest := []) (w := wC g ad o5) E (c_X4_add l g ad o 2 (o.1 0 13) x1 (r3, o5) hc4) okm_X4_add okw_X4_add w_869 rfl (wC_32 g ad o) rfl rfl (Nat.le_of_ble_eq_true rfl) ⟨Nat.le_of_ble_eq_true rfl, Nat.le_of_ble_eq_true rfl⟩ gdX11_ramp_117 ?_
        refine g_istore E [(6, iv r3), (5, iv y0), (0, .ref (ad 0)), (1, iv x1), (2, iv x2)] gdX11_ramp_120 (by decide) rfl ?_
        refine g_aload_n E gdX11_ramp_122 rfl 2 rfl ?_
        refine g_get (T := TX11) E fw_X11 0 (wC_0 g ad o5) rfl 6 (by decide) w_464 rfl rfl gdX11_ramp_123 ?_
        refine g_iload E gdX11_ramp_126 0 rfl ?_
        refine g_iload_n E gdX11_ramp_128 rfl 4 rfl ?_
        obtain ⟨o8, hc7, h⟩ := qB_of h
        refine g_Vv (As := [iv r3, iv x2]) (rest := []) (w := wC g ad o8) E (c_X4_routeOf l g ad o5 r3 x2 o8 hc7) okm_X4_routeOf okw_X4_routeOf w_903 rfl (wC_32 g ad o5) rfl rfl (Nat.le_of_ble_eq_true rfl) ⟨Nat.le_of_ble_eq_true rfl, Nat.le_of_ble_eq_true rfl⟩ gdX11_ramp_129 ?_
        refine g_iload E gdX11_ramp_132 0 rfl ?_
        exact g_iret E hQ (by rw [← Option.some.inj h]) (by rw [← Option.some.inj h]) gdX11_ramp_134
      ·
        refine g_sub E [] rfl ?_
        exact j104 o h
  have j85 : ∀ (o : OO) (x1 : Int) (x2 : Int), b_X11_ramp_85 o x1 x2 = some v → Go X 85 (wC g ad o) [(0, .ref (ad 0)), (1, iv x1), (2, iv x2)] [] := by
    intro o x1 x2 h
    unfold b_X11_ramp_85 at h
    refine g_iconst E gdX11_ramp_85 ?_
    exact j86 o x1 x2 0 h
  unfold s_X11_ramp at h
  refine g_aload_n E gdX11_ramp_0 rfl 0 rfl ?_
  refine g_get (T := TX11) E fw_X11 0 (wC_0 g ad o) rfl 6 (by decide) w_464 rfl rfl gdX11_ramp_1 ?_
  refine g_iload_n E gdX11_ramp_4 rfl 1 rfl ?_
  obtain ⟨r9, hc10, h⟩ := qB_of h
  refine g_Vi (r := r9) (As := [iv x1]) (rest := []) (w := wC g ad o) E (c_X4_exists l g ad o x1 r9 hc10) okm_X4_exists okw_X4_exists w_882 rfl (wC_32 g ad o) rfl rfl (Nat.le_of_ble_eq_true rfl) ⟨Nat.le_of_ble_eq_true rfl, Nat.le_of_ble_eq_true rfl⟩ gdX11_ramp_5 ?_
  refine g_if_eq E 18 gdX11_ramp_8 (by decide) h (fun h => ?_) (fun h => ?_)
  ·
    refine g_sub E [] rfl ?_
    exact j18 o h
  ·
    refine g_iload_n E gdX11_ramp_11 rfl 2 rfl ?_
    obtain ⟨r11, hc12, h⟩ := qB_of h
    refine g_Si (r := r11) (As := [iv x2]) (rest := []) (w := wC g ad o) E (c_X3_isCell l g (wC g ad o) x2 r11 hc12) okm_X3_isCell w_622 w_621 rfl rfl (Nat.le_of_ble_eq_true rfl) ⟨Nat.le_of_ble_eq_true rfl, Nat.le_of_ble_eq_true rfl⟩ gdX11_ramp_12 ?_
    refine g_if_ne E 20 gdX11_ramp_15 (by decide) h (fun h => ?_) (fun h => ?_)
    ·
      refine g_aload_n E gdX11_ramp_20 rfl 0 rfl ?_
      refine g_get (T := TX11) E fw_X11 0 (wC_0 g ad o) rfl 6 (by decide) w_464 rfl rfl gdX11_ramp_21 ?_
      obtain ⟨r13, hc14, h⟩ := qB_of h
      refine g_Vi (r := r13) (As := []) (rest := []) (w := wC g ad o) E (c_X4_number l g ad o r13 hc14) okm_X4_number okw_X4_number w_790 rfl (wC_32 g ad o) rfl rfl (Nat.le_of_ble_eq_true rfl) ⟨Nat.le_of_ble_eq_true rfl, Nat.le_of_ble_eq_true rfl⟩ gdX11_ramp_24 ?_
      refine g_bipush E gdX11_ramp_27 (by decide) ?_
      refine g_icmp_lt E 35 gdX11_ramp_29 (by decide) h (fun h => ?_) (fun h => ?_)
      ·
        refine g_aload_n E gdX11_ramp_35 rfl 0 rfl ?_
        refine g_get (T := TX11) E fw_X11 0 (wC_0 g ad o) rfl 6 (by decide) w_464 rfl rfl gdX11_ramp_36 ?_
        refine g_iload_n E gdX11_ramp_39 rfl 1 rfl ?_
        refine g_iconst E gdX11_ramp_40 ?_
        obtain ⟨r15, hc16, h⟩ := qB_of h
        refine g_Vi (r := r15) (As := [iv x1, iv 1]) (rest := []) (w := wC g ad o) E (c_X4_isOf l g ad o x1 1 r15 hc16) okm_X4_isOf okw_X4_isOf w_886 rfl (wC_32 g ad o) rfl rfl (Nat.le_of_ble_eq_true rfl) ⟨Nat.le_of_ble_eq_true rfl, Nat.le_of_ble_eq_true rfl⟩ gdX11_ramp_41 ?_
        refine g_if_ne E 53 gdX11_ramp_44 (by decide) h (fun h => ?_) (fun h => ?_)
        ·
          refine g_aload_n E gdX11_ramp_53 rfl 0 rfl ?_
          refine g_get (T := TX11) E fw_X11 0 (wC_0 g ad o) rfl 6 (by decide) w_464 rfl rfl gdX11_ramp_54 ?_
          refine g_iload_n E gdX11_ramp_57 rfl 1 rfl ?_
          obtain ⟨p17, hc18, h⟩ := qB_of h
          refine g_Vl (r := p17) (As := [iv x1]) (rest := []) (w := wC g ad o) E (c_X4_cells l g ad o x1 p17 hc18) okm_X4_cells okw_X4_cells w_890 rfl (wC_32 g ad o) rfl rfl (Nat.le_of_ble_eq_true rfl) ⟨Nat.le_of_ble_eq_true rfl, Nat.le_of_ble_eq_true rfl⟩ gdX11_ramp_58 ?_
          refine g_lstore_n E [(3, .long p17), (0, .ref (ad 0)), (1, iv x1), (2, iv x2)] gdX11_ramp_61 rfl (by decide) rfl ?_
          refine g_lload_n E gdX11_ramp_62 rfl 0 rfl ?_
          obtain ⟨p19, hc20, h⟩ := qB_of h
          refine g_Sl (r := p19) (As := [.long p17]) (rest := []) (w := wC g ad o) E (c_X3_spread l g (wC g ad o) p17 p19 hc20) okm_X3_spread w_895 w_894 rfl rfl (Nat.le_of_ble_eq_true rfl) ⟨Nat.le_of_ble_eq_true rfl, Nat.le_of_ble_eq_true rfl⟩ gdX11_ramp_63 ?_
          refine g_iload_n E gdX11_ramp_66 rfl 3 rfl ?_
          obtain ⟨r21, hc22, h⟩ := qB_of h
          refine g_Si (r := r21) (As := [.long p19, iv x2]) (rest := []) (w := wC g ad o) E (c_X3_has l g (wC g ad o) p19 x2 r21 hc22) okm_X3_has w_839 w_902 rfl rfl (Nat.le_of_ble_eq_true rfl) ⟨Nat.le_of_ble_eq_true rfl, Nat.le_of_ble_eq_true rfl⟩ gdX11_ramp_67 ?_
          refine g_if_eq E 85 gdX11_ramp_70 (by decide) h (fun h => ?_) (fun h => ?_)
          ·
            refine g_sub E [1, 2, 3] rfl ?_
            exact j85 o x1 x2 h
          ·
            refine g_lload_n E gdX11_ramp_73 rfl 0 rfl ?_
            refine g_iload_n E gdX11_ramp_74 rfl 3 rfl ?_
            obtain ⟨r23, hc24, h⟩ := qB_of h
            refine g_Si (r := r23) (As := [.long p17, iv x2]) (rest := []) (w := wC g ad o) E (c_X3_has l g (wC g ad o) p17 x2 r23 hc24) okm_X3_has w_839 w_902 rfl rfl (Nat.le_of_ble_eq_true rfl) ⟨Nat.le_of_ble_eq_true rfl, Nat.le_of_ble_eq_true rfl⟩ gdX11_ramp_75 ?_
            refine g_if_ne E 85 gdX11_ramp_78 (by decide) h (fun h => ?_) (fun h => ?_)
            ·
              refine g_sub E [1, 2, 3] rfl ?_
              exact j85 o x1 x2 h
            ·
              refine g_iconst E gdX11_ramp_81 ?_
              refine g_goto E 86 gdX11_ramp_82 (by decide) ?_
              refine g_sub E [1, 2, 3] rfl ?_
              exact j86 o x1 x2 1 h
        ·
          refine g_aload_n E gdX11_ramp_47 rfl 0 rfl ?_
          refine g_iconst E gdX11_ramp_48 ?_
          obtain ⟨r25, o27, hc26, h⟩ := qB2_of h
          refine g_Vi (r := r25) (As := [iv 3]) (rest := []) (w := wC g ad o27) E (c_X11_found l g ad o 3 (r25, o27) hc26) okm_X11_found okw_X11_found w_521 rfl (wC_0 g ad o) rfl rfl (Nat.le_of_ble_eq_true rfl) ⟨Nat.le_of_ble_eq_true rfl, Nat.le_of_ble_eq_true rfl⟩ gdX11_ramp_49 ?_
          exact g_iret E hQ (by rw [← Option.some.inj h]) (by rw [← Option.some.inj h]) gdX11_ramp_52
      ·
        refine g_bipush E gdX11_ramp_32 (by decide) ?_
        exact g_iret E hQ (by rw [← Option.some.inj h]) (by rw [← Option.some.inj h]) gdX11_ramp_34
    ·
      refine g_sub E [] rfl ?_
      exact j18 o h
noncomputable def s_J7_rangeCheck_23922 (x0 : Int) (x1 : Int) (x2 : Int) : Option (Unit) := qLt x2 x1 (none) (qLt x1 0 (none) (qLt x0 x2 (none) (some ())))
set_option maxHeartbeats 4000000 in
set_option maxRecDepth 100000 in
theorem c_J7_rangeCheck_23922 (l : Launch) (g : GG) (ws : va_W) (x0 : Int) (x1 : Int) (x2 : Int) (v : Unit) (h : s_J7_rangeCheck_23922 x0 x1 x2 = some v) : CV l g yJ7_rangeCheck_23922 cJ7_rangeCheck_23922 3 0 0 ws [iv x0, iv x1, iv x2] ws := by
  refine met_V (by decide) (Nat.le_of_ble_eq_true rfl) ?_
  intro X E hQ
  show Go X 0 ws [(0, iv x0), (1, iv x1), (2, iv x2)] []
  unfold s_J7_rangeCheck_23922 at h
  refine g_iload_n E gdJ7_rangeCheck_23922_0 rfl 1 rfl ?_
  refine g_iload_n E gdJ7_rangeCheck_23922_1 rfl 2 rfl ?_
  refine g_icmp_le E 46 gdJ7_rangeCheck_23922_2 (by decide) h (fun h => ?_) (fun h => ?_)
  ·
    refine g_iload_n E gdJ7_rangeCheck_23922_46 rfl 1 rfl ?_
    refine g_if_ge E 59 gdJ7_rangeCheck_23922_47 (by decide) h (fun h => ?_) (fun h => ?_)
    ·
      refine g_iload_n E gdJ7_rangeCheck_23922_59 rfl 2 rfl ?_
      refine g_iload_n E gdJ7_rangeCheck_23922_60 rfl 0 rfl ?_
      refine g_icmp_le E 73 gdJ7_rangeCheck_23922_61 (by decide) h (fun h => ?_) (fun h => ?_)
      ·
        exact g_vret E hQ rfl gdJ7_rangeCheck_23922_73
      ·
        cases h
    ·
      cases h
  ·
    cases h
noncomputable def b_J7_fill_fda19_27 (o : OO) : Option (OO) := some o
noncomputable def l_J7_fill_fda19_10 (x2 : Int) (x3 : Int) (o : OO) (x4 : Int) : Option ((OO × Int) ⊕ ((OO))) := qLt x4 x2 (qIn x4 240 (qNm (st1 o 3 x4.toNat x3) (fun o2 => some (.inl (o2, x4 + 1))))) (some (.inr (o)))
noncomputable def e_J7_fill_fda19_10 (o : OO) (x2 : Int) (x3 : Int) (x4 : Int) : Option (OO) := qB (loopW (fun s => l_J7_fill_fda19_10 x2 x3 s.1 s.2) (o, x4)) (fun r => b_J7_fill_fda19_27 r)
noncomputable def s_J7_fill_fda19 (o : OO) (x1 : Int) (x2 : Int) (x3 : Int) : Option (OO) := qB (s_J7_rangeCheck_23922 240 x1 x2) (fun _ => e_J7_fill_fda19_10 o x2 x3 x1)
set_option maxHeartbeats 4000000 in
set_option maxRecDepth 100000 in
theorem c_J7_fill_fda19 (l : Launch) (g : GG) (ad : Nat → Nat) (o : OO) (x1 : Int) (x2 : Int) (x3 : Int) (v : OO) (h : s_J7_fill_fda19 o x1 x2 x3 = some v) : CV l g yJ7_fill_fda19 cJ7_fill_fda19 5 1 22 (wC g ad o) [.ref (ad 3), iv x1, iv x2, iv x3] (wC g ad v) := by
  refine met_V (by decide) (Nat.le_of_ble_eq_true rfl) ?_
  intro X E hQ
  show Go X 0 (wC g ad o) [(0, .ref (ad 3)), (1, iv x1), (2, iv x2), (3, iv x3)] []
  have j27 : ∀ (o : OO), b_J7_fill_fda19_27 o = some v → Go X 27 (wC g ad o) [] [] := by
    intro o h
    unfold b_J7_fill_fda19_27 at h
    exact g_vret E hQ (by rw [← Option.some.inj h]) gdJ7_fill_fda19_27
  have l10 : ∀ (x2 : Int) (x3 : Int) (r : (OO)) (s0 : OO × Int), loopW (fun s => l_J7_fill_fda19_10 x2 x3 s.1 s.2) s0 = some r → (∀ (o : OO), r = (o) → Go X 27 (wC g ad o) [] []) → Go X 10 (wC g ad s0.1) [(0, .ref (ad 3)), (2, iv x2), (3, iv x3), (4, iv s0.2)] [] := by
    intro x2 x3 r s0 h k1
    refine loop_rule (Head := fun s0 => Go X 10 (wC g ad s0.1) [(0, .ref (ad 3)), (2, iv x2), (3, iv x3), (4, iv s0.2)] []) h ?_
    intro s v h kk kx
    obtain ⟨o, x4⟩ := s
    have h : l_J7_fill_fda19_10 x2 x3 o x4 = some v := h
    have k0 : ∀ (o : OO) (x4 : Int), v = .inl (o, x4) → Go X 10 (wC g ad o) [(0, .ref (ad 3)), (2, iv x2), (3, iv x3), (4, iv x4)] [] := fun o x4 e => kk (o, x4) e
    have k1 : ∀ (o : OO), v = .inr (o) → Go X 27 (wC g ad o) [] [] := fun o e => k1 o (kx _ e).symm
    unfold l_J7_fill_fda19_10 at h
    refine g_iload E gdJ7_fill_fda19_10 3 rfl ?_
    refine g_iload_n E gdJ7_fill_fda19_12 rfl 1 rfl ?_
    refine g_icmp_ge E 27 gdJ7_fill_fda19_13 (by decide) h (fun h => ?_) (fun h => ?_)
    ·
      refine g_sub E [] rfl ?_
      exact k1 o (Option.some.inj h).symm
    ·
      refine g_aload_n E gdJ7_fill_fda19_16 rfl 0 rfl ?_
      refine g_iload E gdJ7_fill_fda19_17 3 rfl ?_
      refine g_iload_n E gdJ7_fill_fda19_19 rfl 2 rfl ?_
      obtain ⟨hi1, h⟩ := qIn_of h
      obtain ⟨o2, e_o2, h⟩ := qNm_of h
      refine g_iast (ws' := wC g ad o2) E 3 (wC_3 g ad o) (by decide) hi1 (by rw [e_o2]; exact wC_s3 g ad o _ _) gdJ7_fill_fda19_20 ?_
      refine g_iinc E [(4, iv (x4 + 1)), (0, .ref (ad 3)), (2, iv x2), (3, iv x3)] gdJ7_fill_fda19_21 3 rfl (by decide) rfl ?_
      refine g_goto E 10 gdJ7_fill_fda19_24 (by decide) ?_
      refine g_sub E [1, 2, 3, 0] rfl ?_
      exact k0 o2 (x4 + 1) (Option.some.inj h).symm
  have j10 : ∀ (o : OO) (x2 : Int) (x3 : Int) (x4 : Int), e_J7_fill_fda19_10 o x2 x3 x4 = some v → Go X 10 (wC g ad o) [(0, .ref (ad 3)), (2, iv x2), (3, iv x3), (4, iv x4)] [] := by
    intro o x2 x3 x4 h
    unfold e_J7_fill_fda19_10 at h
    obtain ⟨r, hr, h⟩ := qB_of h
    refine l10 x2 x3 r _ hr ?_
    ·
      intro u0 e
      have e := e.symm
      subst e
      have h : b_J7_fill_fda19_27 u0 = some v := h
      exact j27 u0 h
  unfold s_J7_fill_fda19 at h
  refine g_aload_n E gdJ7_fill_fda19_0 rfl 0 rfl ?_
  refine g_alen (N := 240) E 3 (wC_3 g ad o) gdJ7_fill_fda19_1 ?_
  refine g_iload_n E gdJ7_fill_fda19_2 rfl 1 rfl ?_
  refine g_iload_n E gdJ7_fill_fda19_3 rfl 2 rfl ?_
  obtain ⟨r3, hc4, h⟩ := qB_of h
  refine g_Sv (As := [iv 240, iv x1, iv x2]) (rest := []) (w := wC g ad o) E (c_J7_rangeCheck_23922 l g (wC g ad o) 240 x1 x2 r3 hc4) okm_J7_rangeCheck_23922 w_533 w_532 rfl rfl (Nat.le_of_ble_eq_true rfl) ⟨Nat.le_of_ble_eq_true rfl, Nat.le_of_ble_eq_true rfl⟩ gdJ7_fill_fda19_4 ?_
  refine g_iload_n E gdJ7_fill_fda19_7 rfl 1 rfl ?_
  refine g_istore E [(4, iv x1), (0, .ref (ad 3)), (1, iv x1), (2, iv x2), (3, iv x3)] gdJ7_fill_fda19_8 (by decide) rfl ?_
  refine g_sub E [1, 3, 4, 0] rfl ?_
  exact j10 o x2 x3 x1 h
noncomputable def s_X8_layOut (o : OO) (x1 : Int) (x2 : Int) : Option (OO) := qIn x1 6 (qNm (st1 o 2 x1.toNat x2) (fun o2 => qB (s_J7_fill_fda19 o2 (x1 * 40) ((x1 * 40) + x2) (o2.1 1 1)) (fun o5 => some o5)))
set_option maxHeartbeats 4000000 in
set_option maxRecDepth 100000 in
theorem c_X8_layOut (l : Launch) (g : GG) (ad : Nat → Nat) (o : OO) (x1 : Int) (x2 : Int) (v : OO) (h : s_X8_layOut o x1 x2 = some v) : CV l g yX8_layOut cX8_layOut 3 2 46 (wC g ad o) [.ref (ad 1), iv x1, iv x2] (wC g ad v) := by
  refine met_V (by decide) (Nat.le_of_ble_eq_true rfl) ?_
  intro X E hQ
  show Go X 0 (wC g ad o) [(0, .ref (ad 1)), (1, iv x1), (2, iv x2)] []
  unfold s_X8_layOut at h
  refine g_aload_n E gdX8_layOut_0 rfl 0 rfl ?_
  refine g_get (T := TX8) E fw_X8 1 (wC_1 g ad o) rfl 2 (by decide) w_128 rfl rfl gdX8_layOut_1 ?_
  refine g_iload_n E gdX8_layOut_4 rfl 1 rfl ?_
  refine g_iload_n E gdX8_layOut_5 rfl 2 rfl ?_
  obtain ⟨hi1, h⟩ := qIn_of h
  obtain ⟨o2, e_o2, h⟩ := qNm_of h
  refine g_iast (ws' := wC g ad o2) E 2 (wC_2 g ad o) (by decide) hi1 (by rw [e_o2]; exact wC_s2 g ad o _ _) gdX8_layOut_6 ?_
  refine g_aload_n E gdX8_layOut_7 rfl 0 rfl ?_
  refine g_get (T := TX8) E fw_X8 1 (wC_1 g ad o2) rfl 3 (by decide) w_129 rfl rfl gdX8_layOut_8 ?_
  refine g_iload_n E gdX8_layOut_11 rfl 1 rfl ?_
  refine g_bipush E gdX8_layOut_12 (by decide) ?_
  refine g_imul E gdX8_layOut_14 ?_
  refine g_iload_n E gdX8_layOut_15 rfl 1 rfl ?_
  refine g_bipush E gdX8_layOut_16 (by decide) ?_
  refine g_imul E gdX8_layOut_18 ?_
  refine g_iload_n E gdX8_layOut_19 rfl 2 rfl ?_
  refine g_iadd E gdX8_layOut_20 ?_
  refine g_aload_n E gdX8_layOut_21 rfl 0 rfl ?_
  refine g_get (T := TX8) E fw_X8 1 (wC_1 g ad o2) rfl 1 (by decide) w_127 rfl rfl gdX8_layOut_22 ?_
  obtain ⟨o5, hc4, h⟩ := qB_of h
  refine g_Sv (As := [.ref (ad 3), iv (x1 * 40), iv ((x1 * 40) + x2), iv (o2.1 1 1)]) (rest := []) (w := wC g ad o5) E (c_J7_fill_fda19 l g ad o2 (x1 * 40) ((x1 * 40) + x2) (o2.1 1 1) o5 hc4) okm_J7_fill_fda19 w_530 w_529 rfl rfl (Nat.le_of_ble_eq_true rfl) ⟨Nat.le_of_ble_eq_true rfl, Nat.le_of_ble_eq_true rfl⟩ gdX8_layOut_25 ?_
  exact g_vret E hQ (by rw [← Option.some.inj h]) gdX8_layOut_28
noncomputable def b_X11_row_17 (o : OO) : Option (Int × OO) := some ((-1), o)
noncomputable def s_X11_row (o : OO) (x1 : Int) (x2 : Int) : Option (Int × OO) := qB (s_X8_exists o x1) (fun r1 => qEq r1 0 (b_X11_row_17 o) (qLt 40 x2 (b_X11_row_17 o) (qLt x2 0 (qB2 (s_X11_found o 5) (fun r6 o8 => some (r6, o8))) (qB (s_X8_layOut o x1 x2) (fun o5 => some (x2, o5))))))
set_option maxHeartbeats 4000000 in
set_option maxRecDepth 100000 in
theorem c_X11_row (l : Launch) (g : GG) (ad : Nat → Nat) (o : OO) (x1 : Int) (x2 : Int) (v : Int × OO) (h : s_X11_row o x1 x2 = some v) : CI l g yX11_row cX11_row 3 (some .int) 3 68 (wC g ad o) [.ref (ad 0), iv x1, iv x2] v.1 (wC g ad v.2) := by
  refine met_I (by decide) (Nat.le_of_ble_eq_true rfl) ?_
  intro X E hQ
  show Go X 0 (wC g ad o) [(0, .ref (ad 0)), (1, iv x1), (2, iv x2)] []
  have j17 : ∀ (o : OO), b_X11_row_17 o = some v → Go X 17 (wC g ad o) [] [] := by
    intro o h
    unfold b_X11_row_17 at h
    refine g_iconst E gdX11_row_17 ?_
    exact g_iret E hQ (by rw [← Option.some.inj h]) (by rw [← Option.some.inj h]) gdX11_row_18
  unfold s_X11_row at h
  refine g_aload_n E gdX11_row_0 rfl 0 rfl ?_
  refine g_get (T := TX11) E fw_X11 0 (wC_0 g ad o) rfl 0 (by decide) w_458 rfl rfl gdX11_row_1 ?_
  refine g_iload_n E gdX11_row_4 rfl 1 rfl ?_
  obtain ⟨r1, hc2, h⟩ := qB_of h
  refine g_Vi (r := r1) (As := [iv x1]) (rest := []) (w := wC g ad o) E (c_X8_exists l g ad o x1 r1 hc2) okm_X8_exists okw_X8_exists w_517 rfl (wC_1 g ad o) rfl rfl (Nat.le_of_ble_eq_true rfl) ⟨Nat.le_of_ble_eq_true rfl, Nat.le_of_ble_eq_true rfl⟩ gdX11_row_5 ?_
  refine g_if_eq E 17 gdX11_row_8 (by decide) h (fun h => ?_) (fun h => ?_)
  ·
    refine g_sub E [] rfl ?_
    exact j17 o h
  ·
    refine g_iload_n E gdX11_row_11 rfl 2 rfl ?_
    refine g_bipush E gdX11_row_12 (by decide) ?_
    refine g_icmp_le E 19 gdX11_row_14 (by decide) h (fun h => ?_) (fun h => ?_)
    ·
      refine g_iload_n E gdX11_row_19 rfl 2 rfl ?_
      refine g_if_ge E 29 gdX11_row_20 (by decide) h (fun h => ?_) (fun h => ?_)
      ·
        refine g_aload_n E gdX11_row_29 rfl 0 rfl ?_
        refine g_get (T := TX11) E fw_X11 0 (wC_0 g ad o) rfl 0 (by decide) w_458 rfl rfl gdX11_row_30 ?_
        refine g_iload_n E gdX11_row_33 rfl 1 rfl ?_
        refine g_iload_n E gdX11_row_34 rfl 2 rfl ?_
        obtain ⟨o5, hc4, h⟩ := qB_of h
        refine g_Vv (As := [iv x1, iv x2]) (rest := []) (w := wC g ad o5) E (c_X8_layOut l g ad o x1 x2 o5 hc4) okm_X8_layOut okw_X8_layOut w_525 rfl (wC_1 g ad o) rfl rfl (Nat.le_of_ble_eq_true rfl) ⟨Nat.le_of_ble_eq_true rfl, Nat.le_of_ble_eq_true rfl⟩ gdX11_row_35 ?_
        refine g_iload_n E gdX11_row_38 rfl 2 rfl ?_
        exact g_iret E hQ (by rw [← Option.some.inj h]) (by rw [← Option.some.inj h]) gdX11_row_39
      ·
        refine g_aload_n E gdX11_row_23 rfl 0 rfl ?_
        refine g_iconst E gdX11_row_24 ?_
        obtain ⟨r6, o8, hc7, h⟩ := qB2_of h
        refine g_Vi (r := r6) (As := [iv 5]) (rest := []) (w := wC g ad o8) E (c_X11_found l g ad o 5 (r6, o8) hc7) okm_X11_found okw_X11_found w_521 rfl (wC_0 g ad o) rfl rfl (Nat.le_of_ble_eq_true rfl) ⟨Nat.le_of_ble_eq_true rfl, Nat.le_of_ble_eq_true rfl⟩ gdX11_row_25 ?_
        exact g_iret E hQ (by rw [← Option.some.inj h]) (by rw [← Option.some.inj h]) gdX11_row_28
    ·
      refine g_sub E [] rfl ?_
      exact j17 o h
noncomputable def b_J7_fill_fda19__31_27 (o : OO) : Option (OO) := some o
noncomputable def l_J7_fill_fda19__31_10 (x2 : Int) (x3 : Int) (o : OO) (x4 : Int) : Option ((OO × Int) ⊕ ((OO))) := qLt x4 x2 (qIn x4 128 (qNm (st1 o 31 x4.toNat x3) (fun o2 => some (.inl (o2, x4 + 1))))) (some (.inr (o)))
noncomputable def e_J7_fill_fda19__31_10 (o : OO) (x2 : Int) (x3 : Int) (x4 : Int) : Option (OO) := qB (loopW (fun s => l_J7_fill_fda19__31_10 x2 x3 s.1 s.2) (o, x4)) (fun r => b_J7_fill_fda19__31_27 r)
noncomputable def s_J7_fill_fda19__31 (o : OO) (x1 : Int) (x2 : Int) (x3 : Int) : Option (OO) := qB (s_J7_rangeCheck_23922 128 x1 x2) (fun _ => e_J7_fill_fda19__31_10 o x2 x3 x1)
set_option maxHeartbeats 4000000 in
set_option maxRecDepth 100000 in
theorem c_J7_fill_fda19__31 (l : Launch) (g : GG) (ad : Nat → Nat) (o : OO) (x1 : Int) (x2 : Int) (x3 : Int) (v : OO) (h : s_J7_fill_fda19__31 o x1 x2 x3 = some v) : CV l g yJ7_fill_fda19 cJ7_fill_fda19 5 1 22 (wC g ad o) [.ref (ad 31), iv x1, iv x2, iv x3] (wC g ad v) := by
  refine met_V (by decide) (Nat.le_of_ble_eq_true rfl) ?_
  intro X E hQ
  show Go X 0 (wC g ad o) [(0, .ref (ad 31)), (1, iv x1), (2, iv x2), (3, iv x3)] []
  have j27 : ∀ (o : OO), b_J7_fill_fda19__31_27 o = some v → Go X 27 (wC g ad o) [] [] := by
    intro o h
    unfold b_J7_fill_fda19__31_27 at h
    exact g_vret E hQ (by rw [← Option.some.inj h]) gdJ7_fill_fda19_27
  have l10 : ∀ (x2 : Int) (x3 : Int) (r : (OO)) (s0 : OO × Int), loopW (fun s => l_J7_fill_fda19__31_10 x2 x3 s.1 s.2) s0 = some r → (∀ (o : OO), r = (o) → Go X 27 (wC g ad o) [] []) → Go X 10 (wC g ad s0.1) [(0, .ref (ad 31)), (2, iv x2), (3, iv x3), (4, iv s0.2)] [] := by
    intro x2 x3 r s0 h k1
    refine loop_rule (Head := fun s0 => Go X 10 (wC g ad s0.1) [(0, .ref (ad 31)), (2, iv x2), (3, iv x3), (4, iv s0.2)] []) h ?_
    intro s v h kk kx
    obtain ⟨o, x4⟩ := s
    have h : l_J7_fill_fda19__31_10 x2 x3 o x4 = some v := h
    have k0 : ∀ (o : OO) (x4 : Int), v = .inl (o, x4) → Go X 10 (wC g ad o) [(0, .ref (ad 31)), (2, iv x2), (3, iv x3), (4, iv x4)] [] := fun o x4 e => kk (o, x4) e
    have k1 : ∀ (o : OO), v = .inr (o) → Go X 27 (wC g ad o) [] [] := fun o e => k1 o (kx _ e).symm
    unfold l_J7_fill_fda19__31_10 at h
    refine g_iload E gdJ7_fill_fda19_10 3 rfl ?_
    refine g_iload_n E gdJ7_fill_fda19_12 rfl 1 rfl ?_
    refine g_icmp_ge E 27 gdJ7_fill_fda19_13 (by decide) h (fun h => ?_) (fun h => ?_)
    ·
      refine g_sub E [] rfl ?_
      exact k1 o (Option.some.inj h).symm
    ·
      refine g_aload_n E gdJ7_fill_fda19_16 rfl 0 rfl ?_
      refine g_iload E gdJ7_fill_fda19_17 3 rfl ?_
      refine g_iload_n E gdJ7_fill_fda19_19 rfl 2 rfl ?_
      obtain ⟨hi1, h⟩ := qIn_of h
      obtain ⟨o2, e_o2, h⟩ := qNm_of h
      refine g_iast (ws' := wC g ad o2) E 31 (wC_31 g ad o) (by decide) hi1 (by rw [e_o2]; exact wC_s31 g ad o _ _) gdJ7_fill_fda19_20 ?_
      refine g_iinc E [(4, iv (x4 + 1)), (0, .ref (ad 31)), (2, iv x2), (3, iv x3)] gdJ7_fill_fda19_21 3 rfl (by decide) rfl ?_
      refine g_goto E 10 gdJ7_fill_fda19_24 (by decide) ?_
      refine g_sub E [1, 2, 3, 0] rfl ?_
      exact k0 o2 (x4 + 1) (Option.some.inj h).symm
  have j10 : ∀ (o : OO) (x2 : Int) (x3 : Int) (x4 : Int), e_J7_fill_fda19__31_10 o x2 x3 x4 = some v → Go X 10 (wC g ad o) [(0, .ref (ad 31)), (2, iv x2), (3, iv x3), (4, iv x4)] [] := by
    intro o x2 x3 x4 h
    unfold e_J7_fill_fda19__31_10 at h
    obtain ⟨r, hr, h⟩ := qB_of h
    refine l10 x2 x3 r _ hr ?_
    ·
      intro u0 e
      have e := e.symm
      subst e
      have h : b_J7_fill_fda19__31_27 u0 = some v := h
      exact j27 u0 h
  unfold s_J7_fill_fda19__31 at h
  refine g_aload_n E gdJ7_fill_fda19_0 rfl 0 rfl ?_
  refine g_alen (N := 128) E 31 (wC_31 g ad o) gdJ7_fill_fda19_1 ?_
  refine g_iload_n E gdJ7_fill_fda19_2 rfl 1 rfl ?_
  refine g_iload_n E gdJ7_fill_fda19_3 rfl 2 rfl ?_
  obtain ⟨r3, hc4, h⟩ := qB_of h
  refine g_Sv (As := [iv 128, iv x1, iv x2]) (rest := []) (w := wC g ad o) E (c_J7_rangeCheck_23922 l g (wC g ad o) 128 x1 x2 r3 hc4) okm_J7_rangeCheck_23922 w_533 w_532 rfl rfl (Nat.le_of_ble_eq_true rfl) ⟨Nat.le_of_ble_eq_true rfl, Nat.le_of_ble_eq_true rfl⟩ gdJ7_fill_fda19_4 ?_
  refine g_iload_n E gdJ7_fill_fda19_7 rfl 1 rfl ?_
  refine g_istore E [(4, iv x1), (0, .ref (ad 31)), (1, iv x1), (2, iv x2), (3, iv x3)] gdJ7_fill_fda19_8 (by decide) rfl ?_
  refine g_sub E [1, 3, 4, 0] rfl ?_
  exact j10 o x2 x3 x1 h
noncomputable def b_X7_numberAt_38 (o : OO) (x4 : Int) : Option (Int) := some x4
noncomputable def l_X7_numberAt_6 (o : OO) (x1 : Int) (x2 : Int) (x3 : Int) (x4 : Int) (x5 : Int) : Option ((Int × Int) ⊕ ((Int))) := qLt x5 (x2 + x3) (qB (s_X8_at__4 o x1 x5) (fun r1 => qNm (((10 * x4) + r1) - 48) (fun n3 => some (.inl (n3, x5 + 1))))) (some (.inr (x4)))
noncomputable def e_X7_numberAt_6 (o : OO) (x1 : Int) (x2 : Int) (x3 : Int) (x4 : Int) (x5 : Int) : Option (Int) := qB (loopW (fun s => l_X7_numberAt_6 o x1 x2 x3 s.1 s.2) (x4, x5)) (fun r => b_X7_numberAt_38 o r)
noncomputable def s_X7_numberAt (o : OO) (x1 : Int) (x2 : Int) (x3 : Int) : Option (Int) := e_X7_numberAt_6 o x1 x2 x3 0 x2
set_option maxHeartbeats 4000000 in
set_option maxRecDepth 100000 in
theorem c_X7_numberAt (l : Launch) (g : GG) (ad : Nat → Nat) (o : OO) (x1 : Int) (x2 : Int) (x3 : Int) (v : Int) (h : s_X7_numberAt o x1 x2 x3 = some v) : CI l g yX7_numberAt cX7_numberAt 6 (some .int) 1 22 (wC g ad o) [.ref (ad 4), iv x1, iv x2, iv x3] v (wC g ad o) := by
  refine met_I (by decide) (Nat.le_of_ble_eq_true rfl) ?_
  intro X E hQ
  show Go X 0 (wC g ad o) [(0, .ref (ad 4)), (1, iv x1), (2, iv x2), (3, iv x3)] []
  have j38 : ∀ (x4 : Int), b_X7_numberAt_38 o x4 = some v → Go X 38 (wC g ad o) [(4, iv x4)] [] := by
    intro x4 h
    unfold b_X7_numberAt_38 at h
    refine g_iload E gdX7_numberAt_38 0 rfl ?_
    exact g_iret E hQ (Option.some.inj h) rfl gdX7_numberAt_40
  have l6 : ∀ (x1 : Int) (x2 : Int) (x3 : Int) (r : (Int)) (s0 : Int × Int), loopW (fun s => l_X7_numberAt_6 o x1 x2 x3 s.1 s.2) s0 = some r → (∀ (x4 : Int), r = (x4) → Go X 38 (wC g ad o) [(4, iv x4)] []) → Go X 6 (wC g ad o) [(0, .ref (ad 4)), (1, iv x1), (2, iv x2), (3, iv x3), (4, iv s0.1), (5, iv s0.2)] [] := by
    intro x1 x2 x3 r s0 h k1
    refine loop_rule (Head := fun s0 => Go X 6 (wC g ad o) [(0, .ref (ad 4)), (1, iv x1), (2, iv x2), (3, iv x3), (4, iv s0.1), (5, iv s0.2)] []) h ?_
    intro s v h kk kx
    obtain ⟨x4, x5⟩ := s
    have h : l_X7_numberAt_6 o x1 x2 x3 x4 x5 = some v := h
    have k0 : ∀ (x4 : Int) (x5 : Int), v = .inl (x4, x5) → Go X 6 (wC g ad o) [(0, .ref (ad 4)), (1, iv x1), (2, iv x2), (3, iv x3), (4, iv x4), (5, iv x5)] [] := fun x4 x5 e => kk (x4, x5) e
    have k1 : ∀ (x4 : Int), v = .inr (x4) → Go X 38 (wC g ad o) [(4, iv x4)] [] := fun x4 e => k1 x4 (kx _ e).symm
    unfold l_X7_numberAt_6 at h
    refine g_iload E gdX7_numberAt_6 5 rfl ?_
    refine g_iload_n E gdX7_numberAt_8 rfl 2 rfl ?_
    refine g_iload_n E gdX7_numberAt_9 rfl 3 rfl ?_
    refine g_iadd E gdX7_numberAt_10 ?_
    refine g_icmp_ge E 38 gdX7_numberAt_11 (by decide) h (fun h => ?_) (fun h => ?_)
    ·
      refine g_sub E [4] rfl ?_
      exact k1 x4 (Option.some.inj h).symm
    ·
      refine g_bipush E gdX7_numberAt_14 (by decide) ?_
      refine g_iload E gdX7_numberAt_16 4 rfl ?_
      refine g_imul E gdX7_numberAt_18 ?_
      refine g_aload_n E gdX7_numberAt_19 rfl 0 rfl ?_
      refine g_iload_n E gdX7_numberAt_20 rfl 1 rfl ?_
      refine g_iload E gdX7_numberAt_21 5 rfl ?_
      obtain ⟨r1, hc2, h⟩ := qB_of h
      refine g_Vi (r := r1) (As := [iv x1, iv x5]) (rest := [iv (10 * x4)]) (w := wC g ad o) E (c_X8_at__4 l g ad o x1 x5 r1 hc2) okm_X8_at okw_X8_at w_597 rfl (wC_4 g ad o) rfl rfl (Nat.le_of_ble_eq_true rfl) ⟨Nat.le_of_ble_eq_true rfl, Nat.le_of_ble_eq_true rfl⟩ gdX7_numberAt_23 ?_
      refine g_iadd E gdX7_numberAt_26 ?_
      refine g_bipush E gdX7_numberAt_27 (by decide) ?_
      refine g_isub E gdX7_numberAt_29 ?_
      obtain ⟨n3, e_n3, h⟩ := qNm_of h
      refine g_nmi e_n3 ?_
      refine g_istore E [(4, iv n3), (0, .ref (ad 4)), (1, iv x1), (2, iv x2), (3, iv x3), (5, iv x5)] gdX7_numberAt_30 (by decide) rfl ?_
      refine g_iinc E [(5, iv (x5 + 1)), (4, iv n3), (0, .ref (ad 4)), (1, iv x1), (2, iv x2), (3, iv x3)] gdX7_numberAt_32 5 rfl (by decide) rfl ?_
      refine g_goto E 6 gdX7_numberAt_35 (by decide) ?_
      refine g_sub E [2, 3, 4, 5, 1, 0] rfl ?_
      exact k0 n3 (x5 + 1) (Option.some.inj h).symm
  have j6 : ∀ (x1 : Int) (x2 : Int) (x3 : Int) (x4 : Int) (x5 : Int), e_X7_numberAt_6 o x1 x2 x3 x4 x5 = some v → Go X 6 (wC g ad o) [(0, .ref (ad 4)), (1, iv x1), (2, iv x2), (3, iv x3), (4, iv x4), (5, iv x5)] [] := by
    intro x1 x2 x3 x4 x5 h
    unfold e_X7_numberAt_6 at h
    obtain ⟨r, hr, h⟩ := qB_of h
    refine l6 x1 x2 x3 r _ hr ?_
    ·
      intro u0 e
      have e := e.symm
      subst e
      have h : b_X7_numberAt_38 o u0 = some v := h
      exact j38 u0 h
  unfold s_X7_numberAt at h
  refine g_iconst E gdX7_numberAt_0 ?_
  refine g_istore E [(4, iv 0), (0, .ref (ad 4)), (1, iv x1), (2, iv x2), (3, iv x3)] gdX7_numberAt_1 (by decide) rfl ?_
  refine g_iload_n E gdX7_numberAt_3 rfl 3 rfl ?_
  refine g_istore E [(5, iv x2), (4, iv 0), (0, .ref (ad 4)), (1, iv x1), (2, iv x2), (3, iv x3)] gdX7_numberAt_4 (by decide) rfl ?_
  refine g_sub E [2, 3, 4, 5, 1, 0] rfl ?_
  exact j6 x1 x2 x3 0 x2 h
noncomputable def b_X7_add_125 (o : OO) (x5 : Int) : Option (Int × OO) := some (x5, o)
noncomputable def b_X7_add_119 (o : OO) (x2 : Int) (x5 : Int) (x6 : Int) : Option ((OO × Int) ⊕ ((OO))) := some (.inl (o, x6 + 1))
noncomputable def l_X7_add_56 (x2 : Int) (x5 : Int) (o : OO) (x6 : Int) : Option ((OO × Int) ⊕ ((OO))) := qB (s_X8_sizeOf__4 o x2) (fun r1 => qLt x6 r1 (qB (s_X8_at__4 o x2 x6) (fun r3 => qB (s_X7_letterOf r3) (fun r5 => qEq r5 (-9) (b_X7_add_119 o x2 x5 x6) (qB (s_X7_digitsAt o x2 (x6 + 1)) (fun r7 => qB (s_X7_numberAt o x2 (x6 + 1) r7) (fun r9 => qIn ((x5 * 8) + r5) 128 (qNm (st1 o 31 (((x5 * 8) + r5).toNat) r9) (fun o12 => b_X7_add_119 o12 x2 x5 x6)))))))) (some (.inr (o))))
noncomputable def e_X7_add_56 (o : OO) (x2 : Int) (x5 : Int) (x6 : Int) : Option (Int × OO) := qB (loopW (fun s => l_X7_add_56 x2 x5 s.1 s.2) (o, x6)) (fun r => b_X7_add_125 r x5)
noncomputable def s_X7_add (o : OO) (x2 : Int) (x3 : Int) (x4 : Int) : Option (Int × OO) := qNm (st1 o 28 3 ((o.1 28 3) + 1)) (fun o13 => qIn (o.1 28 3) 16 (qNm (st1 o13 29 ((o.1 28 3).toNat) x3) (fun o15 => qIn (o.1 28 3) 16 (qNm (st1 o15 30 ((o.1 28 3).toNat) x4) (fun o17 => qB (s_J7_fill_fda19__31 o17 ((o.1 28 3) * 8) (((o.1 28 3) + 1) * 8) (-1)) (fun o20 => e_X7_add_56 o20 x2 (o.1 28 3) 0))))))
set_option maxHeartbeats 4000000 in
set_option maxRecDepth 100000 in
theorem c_X7_add (l : Launch) (g : GG) (ad : Nat → Nat) (o : OO) (x2 : Int) (x3 : Int) (x4 : Int) (v : Int × OO) (h : s_X7_add o x2 x3 x4 = some v) : CI l g yX7_add cX7_add 8 (some .int) 2 47 (wC g ad o) [.ref (ad 28), .ref (ad 4), iv x2, iv x3, iv x4] v.1 (wC g ad v.2) := by
  refine met_I (by decide) (Nat.le_of_ble_eq_true rfl) ?_
  intro X E hQ
  show Go X 0 (wC g ad o) [(0, .ref (ad 28)), (1, .ref (ad 4)), (2, iv x2), (3, iv x3), (4, iv x4)] []
  have j125 : ∀ (o : OO) (x5 : Int), b_X7_add_125 o x5 = some v → Go X 125 (wC g ad o) [(5, iv x5)] [] := by
    intro o x5 h
    unfold b_X7_add_125 at h
    refine g_iload E gdX7_add_125 0 rfl ?_
    exact g_iret E hQ (by rw [← Option.some.inj h]) (by rw [← Option.some.inj h]) gdX7_add_127
  have j119 : ∀ (o : OO) (x2 : Int) (x5 : Int) (x6 : Int) (v : (OO × Int) ⊕ ((OO))), b_X7_add_119 o x2 x5 x6 = some v → (∀ (o : OO) (x6 : Int), v = .inl (o, x6) → Go X 56 (wC g ad o) [(0, .ref (ad 28)), (1, .ref (ad 4)), (2, iv x2), (5, iv x5), (6, iv x6)] []) → (∀ (o : OO), v = .inr (o) → Go X 125 (wC g ad o) [(5, iv x5)] []) → Go X 119 (wC g ad o) [(0, .ref (ad 28)), (1, .ref (ad 4)), (2, iv x2), (5, iv x5), (6, iv x6)] [] := by
    intro o x2 x5 x6 v h k0 k1
    unfold b_X7_add_119 at h
    refine g_iinc E [(6, iv (x6 + 1)), (0, .ref (ad 28)), (1, .ref (ad 4)), (2, iv x2), (5, iv x5)] gdX7_add_119 4 rfl (by decide) rfl ?_
    refine g_goto E 56 gdX7_add_122 (by decide) ?_
    refine g_sub E [1, 2, 3, 4, 0] rfl ?_
    exact k0 o (x6 + 1) (Option.some.inj h).symm
  have l56 : ∀ (x2 : Int) (x5 : Int) (r : (OO)) (s0 : OO × Int), loopW (fun s => l_X7_add_56 x2 x5 s.1 s.2) s0 = some r → (∀ (o : OO), r = (o) → Go X 125 (wC g ad o) [(5, iv x5)] []) → Go X 56 (wC g ad s0.1) [(0, .ref (ad 28)), (1, .ref (ad 4)), (2, iv x2), (5, iv x5), (6, iv s0.2)] [] := by
    intro x2 x5 r s0 h k1
    refine loop_rule (Head := fun s0 => Go X 56 (wC g ad s0.1) [(0, .ref (ad 28)), (1, .ref (ad 4)), (2, iv x2), (5, iv x5), (6, iv s0.2)] []) h ?_
    intro s v h kk kx
    obtain ⟨o, x6⟩ := s
    have h : l_X7_add_56 x2 x5 o x6 = some v := h
    have k0 : ∀ (o : OO) (x6 : Int), v = .inl (o, x6) → Go X 56 (wC g ad o) [(0, .ref (ad 28)), (1, .ref (ad 4)), (2, iv x2), (5, iv x5), (6, iv x6)] [] := fun o x6 e => kk (o, x6) e
    have k1 : ∀ (o : OO), v = .inr (o) → Go X 125 (wC g ad o) [(5, iv x5)] [] := fun o e => k1 o (kx _ e).symm
    unfold l_X7_add_56 at h
    refine g_iload E gdX7_add_56 4 rfl ?_
    refine g_aload_n E gdX7_add_58 rfl 1 rfl ?_
    refine g_iload_n E gdX7_add_59 rfl 2 rfl ?_
    obtain ⟨r1, hc2, h⟩ := qB_of h
    refine g_Vi (r := r1) (As := [iv x2]) (rest := [iv x6]) (w := wC g ad o) E (c_X8_sizeOf__4 l g ad o x2 r1 hc2) okm_X8_sizeOf okw_X8_sizeOf w_593 rfl (wC_4 g ad o) rfl rfl (Nat.le_of_ble_eq_true rfl) ⟨Nat.le_of_ble_eq_true rfl, Nat.le_of_ble_eq_true rfl⟩ gdX7_add_60 ?_
    refine g_icmp_ge E 125 gdX7_add_63 (by decide) h (fun h => ?_) (fun h => ?_)
    ·
      refine g_sub E [3] rfl ?_
      exact k1 o (Option.some.inj h).symm
    ·
      refine g_aload_n E gdX7_add_66 rfl 1 rfl ?_
      refine g_iload_n E gdX7_add_67 rfl 2 rfl ?_
      refine g_iload E gdX7_add_68 4 rfl ?_
      obtain ⟨r3, hc4, h⟩ := qB_of h
      refine g_Vi (r := r3) (As := [iv x2, iv x6]) (rest := []) (w := wC g ad o) E (c_X8_at__4 l g ad o x2 x6 r3 hc4) okm_X8_at okw_X8_at w_597 rfl (wC_4 g ad o) rfl rfl (Nat.le_of_ble_eq_true rfl) ⟨Nat.le_of_ble_eq_true rfl, Nat.le_of_ble_eq_true rfl⟩ gdX7_add_70 ?_
      obtain ⟨r5, hc6, h⟩ := qB_of h
      refine g_Si (r := r5) (As := [iv r3]) (rest := []) (w := wC g ad o) E (c_X7_letterOf l g (wC g ad o) r3 r5 hc6) okm_X7_letterOf w_602 w_601 rfl rfl (Nat.le_of_ble_eq_true rfl) ⟨Nat.le_of_ble_eq_true rfl, Nat.le_of_ble_eq_true rfl⟩ gdX7_add_73 ?_
      refine g_istore E [(7, iv r5), (0, .ref (ad 28)), (1, .ref (ad 4)), (2, iv x2), (5, iv x5), (6, iv x6)] gdX7_add_76 (by decide) rfl ?_
      refine g_iload E gdX7_add_78 0 rfl ?_
      refine g_bipush E gdX7_add_80 (by decide) ?_
      refine g_icmp_ne E 88 gdX7_add_82 (by decide) h (fun h => ?_) (fun h => ?_)
      ·
        refine g_aload_n E gdX7_add_88 rfl 1 rfl ?_
        refine g_get (T := TX7) E fw_X7 28 (wC_28 g ad o) rfl 2 (by decide) w_234 rfl rfl gdX7_add_89 ?_
        refine g_iload E gdX7_add_92 4 rfl ?_
        refine g_bipush E gdX7_add_94 (by decide) ?_
        refine g_imul E gdX7_add_96 ?_
        refine g_iload E gdX7_add_97 0 rfl ?_
        refine g_iadd E gdX7_add_99 ?_
        refine g_aload_n E gdX7_add_100 rfl 2 rfl ?_
        refine g_iload_n E gdX7_add_101 rfl 3 rfl ?_
        refine g_iload E gdX7_add_102 5 rfl ?_
        refine g_iconst E gdX7_add_104 ?_
        refine g_iadd E gdX7_add_105 ?_
        refine g_aload_n E gdX7_add_106 rfl 2 rfl ?_
        refine g_iload_n E gdX7_add_107 rfl 3 rfl ?_
        refine g_iload E gdX7_add_108 5 rfl ?_
        refine g_iconst E gdX7_add_110 ?_
        refine g_iadd E gdX7_add_111 ?_
        obtain ⟨r7, hc8, h⟩ := qB_of h
        refine g_Si (r := r7) (As := [.ref (ad 4), iv x2, iv (x6 + 1)]) (rest := [iv (x6 + 1), iv x2, .ref (ad 4), iv ((x5 * 8) + r5), .ref (ad 31)]) (w := wC g ad o) E (c_X7_digitsAt l g ad o x2 (x6 + 1) r7 hc8) okm_X7_digitsAt w_607 w_606 rfl rfl (Nat.le_of_ble_eq_true rfl) ⟨Nat.le_of_ble_eq_true rfl, Nat.le_of_ble_eq_true rfl⟩ gdX7_add_112 ?_
        obtain ⟨r9, hc10, h⟩ := qB_of h
        refine g_Si (r := r9) (As := [.ref (ad 4), iv x2, iv (x6 + 1), iv r7]) (rest := [iv ((x5 * 8) + r5), .ref (ad 31)]) (w := wC g ad o) E (c_X7_numberAt l g ad o x2 (x6 + 1) r7 r9 hc10) okm_X7_numberAt w_762 w_761 rfl rfl (Nat.le_of_ble_eq_true rfl) ⟨Nat.le_of_ble_eq_true rfl, Nat.le_of_ble_eq_true rfl⟩ gdX7_add_115 ?_
        obtain ⟨hi11, h⟩ := qIn_of h
        obtain ⟨o12, e_o12, h⟩ := qNm_of h
        refine g_iast (ws' := wC g ad o12) E 31 (wC_31 g ad o) (by decide) hi11 (by rw [e_o12]; exact wC_s31 g ad o _ _) gdX7_add_118 ?_
        refine g_sub E [1, 2, 3, 4, 5] rfl ?_
        exact j119 o12 x2 x5 x6 v h k0 k1
      ·
        refine g_goto E 119 gdX7_add_85 (by decide) ?_
        refine g_sub E [1, 2, 3, 4, 5] rfl ?_
        exact j119 o x2 x5 x6 v h k0 k1
  have j56 : ∀ (o : OO) (x2 : Int) (x5 : Int) (x6 : Int), e_X7_add_56 o x2 x5 x6 = some v → Go X 56 (wC g ad o) [(0, .ref (ad 28)), (1, .ref (ad 4)), (2, iv x2), (5, iv x5), (6, iv x6)] [] := by
    intro o x2 x5 x6 h
    unfold e_X7_add_56 at h
    obtain ⟨r, hr, h⟩ := qB_of h
    refine l56 x2 x5 r _ hr ?_
    ·
      intro u0 e
      have e := e.symm
      subst e
      have h : b_X7_add_125 u0 x5 = some v := h
      exact j125 u0 x5 h
  unfold s_X7_add at h
  refine g_aload_n E gdX7_add_0 rfl 0 rfl ?_
  refine g_get (T := TX7) E fw_X7 28 (wC_28 g ad o) rfl 3 (by decide) w_235 rfl rfl gdX7_add_1 ?_
  refine g_istore E [(5, iv (o.1 28 3)), (0, .ref (ad 28)), (1, .ref (ad 4)), (2, iv x2), (3, iv x3), (4, iv x4)] gdX7_add_4 (by decide) rfl ?_
  refine g_aload_n E gdX7_add_6 rfl 1 rfl ?_
  refine g_dup E gdX7_add_7 rfl ?_
  refine g_get (T := TX7) E fw_X7 28 (wC_28 g ad o) rfl 3 (by decide) w_235 rfl rfl gdX7_add_8 ?_
  refine g_iconst E gdX7_add_11 ?_
  refine g_iadd E gdX7_add_12 ?_
  obtain ⟨o13, e_o13, h⟩ := qNm_of h
  refine g_puti (T := TX7) (ws' := wC g ad o13) E fw_X7 tyX7 tyX7_ok nmX7 28 (wC_28 g ad o) rfl 3 (by decide) w_235 rfl rfl (by decide +kernel) (Nat.le_of_ble_eq_true rfl) (by rw [e_o13]; exact wC_p28_3 g ad o _) gdX7_add_13 ?_
  refine g_aload_n E gdX7_add_16 rfl 1 rfl ?_
  refine g_get (T := TX7) E fw_X7 28 (wC_28 g ad o13) rfl 0 (by decide) w_232 rfl rfl gdX7_add_17 ?_
  refine g_iload E gdX7_add_20 0 rfl ?_
  refine g_iload_n E gdX7_add_22 rfl 4 rfl ?_
  obtain ⟨hi14, h⟩ := qIn_of h
  obtain ⟨o15, e_o15, h⟩ := qNm_of h
  refine g_iast (ws' := wC g ad o15) E 29 (wC_29 g ad o13) (by decide) hi14 (by rw [e_o15]; exact wC_s29 g ad o13 _ _) gdX7_add_23 ?_
  refine g_aload_n E gdX7_add_24 rfl 1 rfl ?_
  refine g_get (T := TX7) E fw_X7 28 (wC_28 g ad o15) rfl 1 (by decide) w_233 rfl rfl gdX7_add_25 ?_
  refine g_iload E gdX7_add_28 0 rfl ?_
  refine g_iload E gdX7_add_30 5 rfl ?_
  obtain ⟨hi16, h⟩ := qIn_of h
  obtain ⟨o17, e_o17, h⟩ := qNm_of h
  refine g_iast (ws' := wC g ad o17) E 30 (wC_30 g ad o15) (by decide) hi16 (by rw [e_o17]; exact wC_s30 g ad o15 _ _) gdX7_add_32 ?_
  refine g_aload_n E gdX7_add_33 rfl 1 rfl ?_
  refine g_get (T := TX7) E fw_X7 28 (wC_28 g ad o17) rfl 2 (by decide) w_234 rfl rfl gdX7_add_34 ?_
  refine g_iload E gdX7_add_37 0 rfl ?_
  refine g_bipush E gdX7_add_39 (by decide) ?_
  refine g_imul E gdX7_add_41 ?_
  refine g_iload E gdX7_add_42 0 rfl ?_
  refine g_iconst E gdX7_add_44 ?_
  refine g_iadd E gdX7_add_45 ?_
  refine g_bipush E gdX7_add_46 (by decide) ?_
  refine g_imul E gdX7_add_48 ?_
  refine g_iconst E gdX7_add_49 ?_
  obtain ⟨o20, hc19, h⟩ := qB_of h
  refine g_Sv (As := [.ref (ad 31), iv ((o.1 28 3) * 8), iv (((o.1 28 3) + 1) * 8), iv (-1)]) (rest := []) (w := wC g ad o20) E (c_J7_fill_fda19__31 l g ad o17 ((o.1 28 3) * 8) (((o.1 28 3) + 1) * 8) (-1) o20 hc19) okm_J7_fill_fda19 w_530 w_760 rfl rfl (Nat.le_of_ble_eq_true rfl) ⟨Nat.le_of_ble_eq_true rfl, Nat.le_of_ble_eq_true rfl⟩ gdX7_add_50 ?_
  refine g_iconst E gdX7_add_53 ?_
  refine g_istore E [(6, iv 0), (5, iv (o.1 28 3)), (0, .ref (ad 28)), (1, .ref (ad 4)), (2, iv x2), (3, iv x3), (4, iv x4)] gdX7_add_54 (by decide) rfl ?_
  refine g_sub E [2, 3, 4, 1, 0] rfl ?_
  exact j56 o20 x2 (o.1 28 3) 0 h
noncomputable def b_X11_rule_18 (o : OO) : Option (Int × OO) := some ((-1), o)
noncomputable def s_X11_rule (o : OO) (x1 : Int) (x2 : Int) : Option (Int × OO) := qB (s_X8_exists__4 o x1) (fun r1 => qEq r1 0 (b_X11_rule_18 o) (qB (s_X11_isDay x2) (fun r3 => qEq r3 0 (b_X11_rule_18 o) (qB (s_X7_number o) (fun r5 => qLt r5 16 (qB (s_X8_isThere__4 o x1) (fun r7 => qEq r7 0 (qB2 (s_X11_found o 1) (fun r14 o16 => some (r14, o16))) (qB (s_X7_firstFault o x1) (fun r9 => qEq r9 (-9) (qB2 (s_X7_add o x1 (o.1 0 13) x2) (fun r11 o13 => some (r11, o13))) (some ((-4), o)))))) (some ((-2), o)))))))
set_option maxHeartbeats 4000000 in
set_option maxRecDepth 100000 in
theorem c_X11_rule (l : Launch) (g : GG) (ad : Nat → Nat) (o : OO) (x1 : Int) (x2 : Int) (v : Int × OO) (h : s_X11_rule o x1 x2 = some v) : CI l g yX11_rule cX11_rule 3 (some .int) 3 74 (wC g ad o) [.ref (ad 0), iv x1, iv x2] v.1 (wC g ad v.2) := by
  refine met_I (by decide) (Nat.le_of_ble_eq_true rfl) ?_
  intro X E hQ
  show Go X 0 (wC g ad o) [(0, .ref (ad 0)), (1, iv x1), (2, iv x2)] []
  have j18 : ∀ (o : OO), b_X11_rule_18 o = some v → Go X 18 (wC g ad o) [] [] := by
    intro o h
    unfold b_X11_rule_18 at h
    refine g_iconst E gdX11_rule_18 ?_
    exact g_iret E hQ (by rw [← Option.some.inj h]) (by rw [← Option.some.inj h]) gdX11_rule_19
  unfold s_X11_rule at h
  refine g_aload_n E gdX11_rule_0 rfl 0 rfl ?_
  refine g_get (T := TX11) E fw_X11 0 (wC_0 g ad o) rfl 1 (by decide) w_459 rfl rfl gdX11_rule_1 ?_
  refine g_iload_n E gdX11_rule_4 rfl 1 rfl ?_
  obtain ⟨r1, hc2, h⟩ := qB_of h
  refine g_Vi (r := r1) (As := [iv x1]) (rest := []) (w := wC g ad o) E (c_X8_exists__4 l g ad o x1 r1 hc2) okm_X8_exists okw_X8_exists w_517 rfl (wC_4 g ad o) rfl rfl (Nat.le_of_ble_eq_true rfl) ⟨Nat.le_of_ble_eq_true rfl, Nat.le_of_ble_eq_true rfl⟩ gdX11_rule_5 ?_
  refine g_if_eq E 18 gdX11_rule_8 (by decide) h (fun h => ?_) (fun h => ?_)
  ·
    refine g_sub E [] rfl ?_
    exact j18 o h
  ·
    refine g_iload_n E gdX11_rule_11 rfl 2 rfl ?_
    obtain ⟨r3, hc4, h⟩ := qB_of h
    refine g_Si (r := r3) (As := [iv x2]) (rest := []) (w := wC g ad o) E (c_X11_isDay l g (wC g ad o) x2 r3 hc4) okm_X11_isDay w_685 w_684 rfl rfl (Nat.le_of_ble_eq_true rfl) ⟨Nat.le_of_ble_eq_true rfl, Nat.le_of_ble_eq_true rfl⟩ gdX11_rule_12 ?_
    refine g_if_ne E 20 gdX11_rule_15 (by decide) h (fun h => ?_) (fun h => ?_)
    ·
      refine g_aload_n E gdX11_rule_20 rfl 0 rfl ?_
      refine g_get (T := TX11) E fw_X11 0 (wC_0 g ad o) rfl 5 (by decide) w_463 rfl rfl gdX11_rule_21 ?_
      obtain ⟨r5, hc6, h⟩ := qB_of h
      refine g_Vi (r := r5) (As := []) (rest := []) (w := wC g ad o) E (c_X7_number l g ad o r5 hc6) okm_X7_number okw_X7_number w_752 rfl (wC_28 g ad o) rfl rfl (Nat.le_of_ble_eq_true rfl) ⟨Nat.le_of_ble_eq_true rfl, Nat.le_of_ble_eq_true rfl⟩ gdX11_rule_24 ?_
      refine g_bipush E gdX11_rule_27 (by decide) ?_
      refine g_icmp_lt E 35 gdX11_rule_29 (by decide) h (fun h => ?_) (fun h => ?_)
      ·
        refine g_aload_n E gdX11_rule_35 rfl 0 rfl ?_
        refine g_get (T := TX11) E fw_X11 0 (wC_0 g ad o) rfl 1 (by decide) w_459 rfl rfl gdX11_rule_36 ?_
        refine g_iload_n E gdX11_rule_39 rfl 1 rfl ?_
        obtain ⟨r7, hc8, h⟩ := qB_of h
        refine g_Vi (r := r7) (As := [iv x1]) (rest := []) (w := wC g ad o) E (c_X8_isThere__4 l g ad o x1 r7 hc8) okm_X8_isThere okw_X8_isThere w_539 rfl (wC_4 g ad o) rfl rfl (Nat.le_of_ble_eq_true rfl) ⟨Nat.le_of_ble_eq_true rfl, Nat.le_of_ble_eq_true rfl⟩ gdX11_rule_40 ?_
        refine g_if_ne E 52 gdX11_rule_43 (by decide) h (fun h => ?_) (fun h => ?_)
        ·
          refine g_aload_n E gdX11_rule_52 rfl 0 rfl ?_
          refine g_get (T := TX11) E fw_X11 0 (wC_0 g ad o) rfl 1 (by decide) w_459 rfl rfl gdX11_rule_53 ?_
          refine g_iload_n E gdX11_rule_56 rfl 1 rfl ?_
          obtain ⟨r9, hc10, h⟩ := qB_of h
          refine g_Si (r := r9) (As := [.ref (ad 4), iv x1]) (rest := []) (w := wC g ad o) E (c_X7_firstFault l g ad o x1 r9 hc10) okm_X7_firstFault w_591 w_590 rfl rfl (Nat.le_of_ble_eq_true rfl) ⟨Nat.le_of_ble_eq_true rfl, Nat.le_of_ble_eq_true rfl⟩ gdX11_rule_57 ?_
          refine g_bipush E gdX11_rule_60 (by decide) ?_
          refine g_icmp_eq E 68 gdX11_rule_62 (by decide) h (fun h => ?_) (fun h => ?_)
          ·
            refine g_aload_n E gdX11_rule_68 rfl 0 rfl ?_
            refine g_get (T := TX11) E fw_X11 0 (wC_0 g ad o) rfl 5 (by decide) w_463 rfl rfl gdX11_rule_69 ?_
            refine g_aload_n E gdX11_rule_72 rfl 0 rfl ?_
            refine g_get (T := TX11) E fw_X11 0 (wC_0 g ad o) rfl 1 (by decide) w_459 rfl rfl gdX11_rule_73 ?_
            refine g_iload_n E gdX11_rule_76 rfl 1 rfl ?_
            refine g_aload_n E gdX11_rule_77 rfl 0 rfl ?_
            refine g_get (T := TX11) E fw_X11 0 (wC_0 g ad o) rfl 13 (by decide) w_471 rfl rfl gdX11_rule_78 ?_
            refine g_iload_n E gdX11_rule_81 rfl 2 rfl ?_
            obtain ⟨r11, o13, hc12, h⟩ := qB2_of h
            refine g_Vi (r := r11) (As := [.ref (ad 4), iv x1, iv (o.1 0 13), iv x2]) (rest := []) (w := wC g ad o13) E (c_X7_add l g ad o x1 (o.1 0 13) x2 (r11, o13) hc12) okm_X7_add okw_X7_add w_756 rfl (wC_28 g ad o) rfl rfl (Nat.le_of_ble_eq_true rfl) ⟨Nat.le_of_ble_eq_true rfl, Nat.le_of_ble_eq_true rfl⟩ gdX11_rule_82 ?_
            exact g_iret E hQ (by rw [← Option.some.inj h]) (by rw [← Option.some.inj h]) gdX11_rule_85
          ·
            refine g_bipush E gdX11_rule_65 (by decide) ?_
            exact g_iret E hQ (by rw [← Option.some.inj h]) (by rw [← Option.some.inj h]) gdX11_rule_67
        ·
          refine g_aload_n E gdX11_rule_46 rfl 0 rfl ?_
          refine g_iconst E gdX11_rule_47 ?_
          obtain ⟨r14, o16, hc15, h⟩ := qB2_of h
          refine g_Vi (r := r14) (As := [iv 1]) (rest := []) (w := wC g ad o16) E (c_X11_found l g ad o 1 (r14, o16) hc15) okm_X11_found okw_X11_found w_521 rfl (wC_0 g ad o) rfl rfl (Nat.le_of_ble_eq_true rfl) ⟨Nat.le_of_ble_eq_true rfl, Nat.le_of_ble_eq_true rfl⟩ gdX11_rule_48 ?_
          exact g_iret E hQ (by rw [← Option.some.inj h]) (by rw [← Option.some.inj h]) gdX11_rule_51
      ·
        refine g_bipush E gdX11_rule_32 (by decide) ?_
        exact g_iret E hQ (by rw [← Option.some.inj h]) (by rw [← Option.some.inj h]) gdX11_rule_34
    ·
      refine g_sub E [] rfl ?_
      exact j18 o h
noncomputable def s_X11_set (o : OO) : Option (Int64) := some (o.2 0 16)
set_option maxHeartbeats 4000000 in
set_option maxRecDepth 100000 in
theorem c_X11_set (l : Launch) (g : GG) (ad : Nat → Nat) (o : OO) (v : Int64) (h : s_X11_set o = some v) : CL l g yX11_set cX11_set 1 (some .long) 0 0 (wC g ad o) [.ref (ad 0)] v (wC g ad o) := by
  refine met_L (by decide) (Nat.le_of_ble_eq_true rfl) ?_
  intro X E hQ
  show Go X 0 (wC g ad o) [(0, .ref (ad 0))] []
  unfold s_X11_set at h
  refine g_aload_n E gdX11_set_0 rfl 0 rfl ?_
  refine g_get (T := TX11) E fw_X11 0 (wC_0 g ad o) rfl 16 (by decide) w_474 rfl rfl gdX11_set_1 ?_
  exact g_lret E hQ (Option.some.inj h) rfl gdX11_set_4
noncomputable def s_X3_around (z0 : Int64) : Option (Int64) := qB (s_X3_spreadAside z0) (fun p1 => qB (s_X3_spreadAside p1) (fun p3 => some ((((p3 ||| (jushr p3 (Int32.ofInt 8))) ||| (jushr p3 (Int32.ofInt 16))) ||| (jshl p3 (Int32.ofInt 8))) ||| (jshl p3 (Int32.ofInt 16)))))
set_option maxHeartbeats 4000000 in
set_option maxRecDepth 100000 in
theorem c_X3_around (l : Launch) (g : GG) (ws : va_W) (z0 : Int64) (v : Int64) (h : s_X3_around z0 = some v) : CL l g yX3_around cX3_around 4 (some .long) 1 21 ws [.long z0] v ws := by
  refine met_L (by decide) (Nat.le_of_ble_eq_true rfl) ?_
  intro X E hQ
  show Go X 0 ws [(0, .long z0)] []
  unfold s_X3_around at h
  refine g_lload_n E gdX3_around_0 rfl 0 rfl ?_
  obtain ⟨p1, hc2, h⟩ := qB_of h
  refine g_Sl (r := p1) (As := [.long z0]) (rest := []) (w := ws) E (c_X3_spreadAside l g ws z0 p1 hc2) okm_X3_spreadAside w_898 w_897 rfl rfl (Nat.le_of_ble_eq_true rfl) ⟨Nat.le_of_ble_eq_true rfl, Nat.le_of_ble_eq_true rfl⟩ gdX3_around_1 ?_
  obtain ⟨p3, hc4, h⟩ := qB_of h
  refine g_Sl (r := p3) (As := [.long p1]) (rest := []) (w := ws) E (c_X3_spreadAside l g ws p1 p3 hc4) okm_X3_spreadAside w_898 w_897 rfl rfl (Nat.le_of_ble_eq_true rfl) ⟨Nat.le_of_ble_eq_true rfl, Nat.le_of_ble_eq_true rfl⟩ gdX3_around_4 ?_
  refine g_lstore_n E [(2, .long p3), (0, .long z0)] gdX3_around_7 rfl (by decide) rfl ?_
  refine g_lload_n E gdX3_around_8 rfl 0 rfl ?_
  refine g_lload_n E gdX3_around_9 rfl 0 rfl ?_
  refine g_bipush E gdX3_around_10 (by decide) ?_
  refine g_lushr E gdX3_around_12 ?_
  refine g_lor E gdX3_around_13 ?_
  refine g_lload_n E gdX3_around_14 rfl 0 rfl ?_
  refine g_bipush E gdX3_around_15 (by decide) ?_
  refine g_lushr E gdX3_around_17 ?_
  refine g_lor E gdX3_around_18 ?_
  refine g_lload_n E gdX3_around_19 rfl 0 rfl ?_
  refine g_bipush E gdX3_around_20 (by decide) ?_
  refine g_lshl E gdX3_around_22 ?_
  refine g_lor E gdX3_around_23 ?_
  refine g_lload_n E gdX3_around_24 rfl 0 rfl ?_
  refine g_bipush E gdX3_around_25 (by decide) ?_
  refine g_lshl E gdX3_around_27 ?_
  refine g_lor E gdX3_around_28 ?_
  exact g_lret E hQ (Option.some.inj h) rfl gdX3_around_29
noncomputable def s_X11_lowered (x0 : Int) (x1 : Int) : Option (Int) := qDv (x0 * (100 - x1)) 100 (qR 1 (qR (jq (x0 * (100 - x1)) 100) (some (max 1 (jq (x0 * (100 - x1)) 100)))))
set_option maxHeartbeats 4000000 in
set_option maxRecDepth 100000 in
theorem c_X11_lowered (l : Launch) (g : GG) (ws : va_W) (x0 : Int) (x1 : Int) (v : Int) (h : s_X11_lowered x0 x1 = some v) : CI l g yX11_lowered cX11_lowered 2 (some .int) 1 21 ws [iv x0, iv x1] v ws := by
  refine met_I (by decide) (Nat.le_of_ble_eq_true rfl) ?_
  intro X E hQ
  show Go X 0 ws [(0, iv x0), (1, iv x1)] []
  unfold s_X11_lowered at h
  refine g_iconst E gdX11_lowered_0 ?_
  refine g_iload_n E gdX11_lowered_1 rfl 0 rfl ?_
  refine g_bipush E gdX11_lowered_2 (by decide) ?_
  refine g_iload_n E gdX11_lowered_4 rfl 1 rfl ?_
  refine g_isub E gdX11_lowered_5 ?_
  refine g_imul E gdX11_lowered_6 ?_
  refine g_bipush E gdX11_lowered_7 (by decide) ?_
  obtain ⟨hd1, h⟩ := qDv_of h
  refine g_idiv E hd1 gdX11_lowered_9 ?_
  obtain ⟨ha2, h⟩ := qR_of h
  obtain ⟨ha3, h⟩ := qR_of h
  refine g_mmax E ha2 ha3 w_948 w_949 w_91 w_950 (Nat.le_of_ble_eq_true rfl) (Nat.le_of_ble_eq_true rfl) gdX11_lowered_10 ?_
  exact g_iret E hQ (Option.some.inj h) rfl gdX11_lowered_13
noncomputable def s_X4_showOn (o : OO) (x1 : Int) (x2 : Int) : Option (OO) := qIn x1 24 (qNm (st1 o 40 x1.toNat x2) (fun o2 => some o2))
set_option maxHeartbeats 4000000 in
set_option maxRecDepth 100000 in
theorem c_X4_showOn (l : Launch) (g : GG) (ad : Nat → Nat) (o : OO) (x1 : Int) (x2 : Int) (v : OO) (h : s_X4_showOn o x1 x2 = some v) : CV l g yX4_showOn cX4_showOn 3 0 0 (wC g ad o) [.ref (ad 32), iv x1, iv x2] (wC g ad v) := by
  refine met_V (by decide) (Nat.le_of_ble_eq_true rfl) ?_
  intro X E hQ
  show Go X 0 (wC g ad o) [(0, .ref (ad 32)), (1, iv x1), (2, iv x2)] []
  unfold s_X4_showOn at h
  refine g_aload_n E gdX4_showOn_0 rfl 0 rfl ?_
  refine g_get (T := TX4) E fw_X4 32 (wC_32 g ad o) rfl 7 (by decide) w_258 rfl rfl gdX4_showOn_1 ?_
  refine g_iload_n E gdX4_showOn_4 rfl 1 rfl ?_
  refine g_iload_n E gdX4_showOn_5 rfl 2 rfl ?_
  obtain ⟨hi1, h⟩ := qIn_of h
  obtain ⟨o2, e_o2, h⟩ := qNm_of h
  refine g_iast (ws' := wC g ad o2) E 40 (wC_40 g ad o) (by decide) hi1 (by rw [e_o2]; exact wC_s40 g ad o _ _) gdX4_showOn_6 ?_
  exact g_vret E hQ (by rw [← Option.some.inj h]) gdX4_showOn_7
noncomputable def b_X11_show_170 (o : OO) (x1 : Int) (x4 : Int) : Option (Int × OO) := qB (s_X4_showOn o x1 (o.1 0 13)) (fun o3 => some (x4, o3))
noncomputable def b_X11_show_164 (o : OO) (x1 : Int) (z2 : Int64) (x4 : Int) (x5 : Int) (x6 : Int) : Option ((OO × Int) ⊕ ((OO))) := some (.inl (o, x6 + 1))
noncomputable def l_X11_show_94 (x1 : Int) (z2 : Int64) (x4 : Int) (x5 : Int) (o : OO) (x6 : Int) : Option ((OO × Int) ⊕ ((OO))) := qB (s_X1_number o) (fun r4 => qLt x6 r4 (qB (s_X1_isTaken o x6) (fun r6 => qEq r6 0 (qB (s_X1_cellOfOne o x6) (fun r8 => qB (s_X3_has z2 r8) (fun r10 => qEq r10 0 (b_X11_show_164 o x1 z2 x4 x5 x6) (qB (s_X1_latestWorth o x6) (fun r12 => qB (s_X11_lowered r12 x5) (fun r14 => qB (s_X1_assess o x6 r14 (o.1 0 13)) (fun o18 => b_X11_show_164 o18 x1 z2 x4 x5 x6))))))) (b_X11_show_164 o x1 z2 x4 x5 x6))) (some (.inr (o))))
noncomputable def e_X11_show_94 (o : OO) (x1 : Int) (z2 : Int64) (x4 : Int) (x5 : Int) (x6 : Int) : Option (Int × OO) := qB (loopW (fun s => l_X11_show_94 x1 z2 x4 x5 s.1 s.2) (o, x6)) (fun r => b_X11_show_170 r x1 x4)
noncomputable def s_X11_show (o : OO) (x1 : Int) : Option (Int × OO) := qB (s_X4_exists o x1) (fun r19 => qEq r19 0 (some ((-1), o)) (qB (s_X4_isOf o x1 1) (fun r21 => qEq r21 0 (qB2 (s_X11_found o 3) (fun r35 o37 => some (r35, o37))) (qB (s_X4_shownOn o x1) (fun r23 => qEq r23 (-9) (qB (s_X4_cells o x1) (fun p25 => qB (s_X3_around p25) (fun p27 => qB (s_X1_standingIn o p27) (fun r29 => qB (s_X1_tellingsLeft o) (fun r31 => qLt r31 r29 (some ((-2), o)) (qB (s_X11_inForce o 1) (fun r33 => e_X11_show_94 o x1 p27 r29 r33 0))))))) (some ((-4), o)))))))
set_option maxHeartbeats 4000000 in
set_option maxRecDepth 100000 in
theorem c_X11_show (l : Launch) (g : GG) (ad : Nat → Nat) (o : OO) (x1 : Int) (v : Int × OO) (h : s_X11_show o x1 = some v) : CI l g yX11_show cX11_show 7 (some .int) 3 70 (wC g ad o) [.ref (ad 0), iv x1] v.1 (wC g ad v.2) := by
  refine met_I (by decide) (Nat.le_of_ble_eq_true rfl) ?_
  intro X E hQ
  show Go X 0 (wC g ad o) [(0, .ref (ad 0)), (1, iv x1)] []
  have j170 : ∀ (o : OO) (x1 : Int) (x4 : Int), b_X11_show_170 o x1 x4 = some v → Go X 170 (wC g ad o) [(0, .ref (ad 0)), (1, iv x1), (4, iv x4)] [] := by
    intro o x1 x4 h
    unfold b_X11_show_170 at h
    refine g_aload_n E gdX11_show_170 rfl 0 rfl ?_
    refine g_get (T := TX11) E fw_X11 0 (wC_0 g ad o) rfl 6 (by decide) w_464 rfl rfl gdX11_show_171 ?_
    refine g_iload_n E gdX11_show_174 rfl 1 rfl ?_
    refine g_aload_n E gdX11_show_175 rfl 0 rfl ?_
    refine g_get (T := TX11) E fw_X11 0 (wC_0 g ad o) rfl 13 (by decide) w_471 rfl rfl gdX11_show_176 ?_
    obtain ⟨o3, hc2, h⟩ := qB_of h
    refine g_Vv (As := [iv x1, iv (o.1 0 13)]) (rest := []) (w := wC g ad o3) E (c_X4_showOn l g ad o x1 (o.1 0 13) o3 hc2) okm_X4_showOn okw_X4_showOn w_951 rfl (wC_32 g ad o) rfl rfl (Nat.le_of_ble_eq_true rfl) ⟨Nat.le_of_ble_eq_true rfl, Nat.le_of_ble_eq_true rfl⟩ gdX11_show_179 ?_
    refine g_iload E gdX11_show_182 2 rfl ?_
    exact g_iret E hQ (by rw [← Option.some.inj h]) (by rw [← Option.some.inj h]) gdX11_show_184
  have j164 : ∀ (o : OO) (x1 : Int) (z2 : Int64) (x4 : Int) (x5 : Int) (x6 : Int) (v : (OO × Int) ⊕ ((OO))), b_X11_show_164 o x1 z2 x4 x5 x6 = some v → (∀ (o : OO) (x6 : Int), v = .inl (o, x6) → Go X 94 (wC g ad o) [(0, .ref (ad 0)), (1, iv x1), (2, .long z2), (4, iv x4), (5, iv x5), (6, iv x6)] []) → (∀ (o : OO), v = .inr (o) → Go X 170 (wC g ad o) [(0, .ref (ad 0)), (1, iv x1), (4, iv x4)] []) → Go X 164 (wC g ad o) [(0, .ref (ad 0)), (1, iv x1), (2, .long z2), (4, iv x4), (5, iv x5), (6, iv x6)] [] := by
    intro o x1 z2 x4 x5 x6 v h k0 k1
    unfold b_X11_show_164 at h
    refine g_iinc E [(6, iv (x6 + 1)), (0, .ref (ad 0)), (1, iv x1), (2, .long z2), (4, iv x4), (5, iv x5)] gdX11_show_164 5 rfl (by decide) rfl ?_
    refine g_goto E 94 gdX11_show_167 (by decide) ?_
    refine g_sub E [1, 2, 3, 4, 5, 0] rfl ?_
    exact k0 o (x6 + 1) (Option.some.inj h).symm
  have l94 : ∀ (x1 : Int) (z2 : Int64) (x4 : Int) (x5 : Int) (r : (OO)) (s0 : OO × Int), loopW (fun s => l_X11_show_94 x1 z2 x4 x5 s.1 s.2) s0 = some r → (∀ (o : OO), r = (o) → Go X 170 (wC g ad o) [(0, .ref (ad 0)), (1, iv x1), (4, iv x4)] []) → Go X 94 (wC g ad s0.1) [(0, .ref (ad 0)), (1, iv x1), (2, .long z2), (4, iv x4), (5, iv x5), (6, iv s0.2)] [] := by
    intro x1 z2 x4 x5 r s0 h k1
    refine loop_rule (Head := fun s0 => Go X 94 (wC g ad s0.1) [(0, .ref (ad 0)), (1, iv x1), (2, .long z2), (4, iv x4), (5, iv x5), (6, iv s0.2)] []) h ?_
    intro s v h kk kx
    obtain ⟨o, x6⟩ := s
    have h : l_X11_show_94 x1 z2 x4 x5 o x6 = some v := h
    have k0 : ∀ (o : OO) (x6 : Int), v = .inl (o, x6) → Go X 94 (wC g ad o) [(0, .ref (ad 0)), (1, iv x1), (2, .long z2), (4, iv x4), (5, iv x5), (6, iv x6)] [] := fun o x6 e => kk (o, x6) e
    have k1 : ∀ (o : OO), v = .inr (o) → Go X 170 (wC g ad o) [(0, .ref (ad 0)), (1, iv x1), (4, iv x4)] [] := fun o e => k1 o (kx _ e).symm
    unfold l_X11_show_94 at h
    refine g_iload E gdX11_show_94 5 rfl ?_
    refine g_aload_n E gdX11_show_96 rfl 0 rfl ?_
    refine g_get (T := TX11) E fw_X11 0 (wC_0 g ad o) rfl 3 (by decide) w_461 rfl rfl gdX11_show_97 ?_
    obtain ⟨r4, hc5, h⟩ := qB_of h
    refine g_Vi (r := r4) (As := []) (rest := [iv x6]) (w := wC g ad o) E (c_X1_number l g ad o r4 hc5) okm_X1_number okw_X1_number w_643 rfl (wC_10 g ad o) rfl rfl (Nat.le_of_ble_eq_true rfl) ⟨Nat.le_of_ble_eq_true rfl, Nat.le_of_ble_eq_true rfl⟩ gdX11_show_100 ?_
    refine g_icmp_ge E 170 gdX11_show_103 (by decide) h (fun h => ?_) (fun h => ?_)
    ·
      refine g_sub E [0, 1, 3] rfl ?_
      exact k1 o (Option.some.inj h).symm
    ·
      refine g_aload_n E gdX11_show_106 rfl 0 rfl ?_
      refine g_get (T := TX11) E fw_X11 0 (wC_0 g ad o) rfl 3 (by decide) w_461 rfl rfl gdX11_show_107 ?_
      refine g_iload E gdX11_show_110 5 rfl ?_
      obtain ⟨r6, hc7, h⟩ := qB_of h
      refine g_Vi (r := r6) (As := [iv x6]) (rest := []) (w := wC g ad o) E (c_X1_isTaken l g ad o x6 r6 hc7) okm_X1_isTaken okw_X1_isTaken w_671 rfl (wC_10 g ad o) rfl rfl (Nat.le_of_ble_eq_true rfl) ⟨Nat.le_of_ble_eq_true rfl, Nat.le_of_ble_eq_true rfl⟩ gdX11_show_112 ?_
      refine g_if_ne E 164 gdX11_show_115 (by decide) h (fun h => ?_) (fun h => ?_)
      ·
        exact j164 o x1 z2 x4 x5 x6 v h k0 k1
      ·
        refine g_lload_n E gdX11_show_118 rfl 2 rfl ?_
        refine g_aload_n E gdX11_show_119 rfl 0 rfl ?_
        refine g_get (T := TX11) E fw_X11 0 (wC_0 g ad o) rfl 3 (by decide) w_461 rfl rfl gdX11_show_120 ?_
        refine g_iload E gdX11_show_123 5 rfl ?_
        obtain ⟨r8, hc9, h⟩ := qB_of h
        refine g_Vi (r := r8) (As := [iv x6]) (rest := [.long z2]) (w := wC g ad o) E (c_X1_cellOfOne l g ad o x6 r8 hc9) okm_X1_cellOfOne okw_X1_cellOfOne w_941 rfl (wC_10 g ad o) rfl rfl (Nat.le_of_ble_eq_true rfl) ⟨Nat.le_of_ble_eq_true rfl, Nat.le_of_ble_eq_true rfl⟩ gdX11_show_125 ?_
        obtain ⟨r10, hc11, h⟩ := qB_of h
        refine g_Si (r := r10) (As := [.long z2, iv r8]) (rest := []) (w := wC g ad o) E (c_X3_has l g (wC g ad o) z2 r8 r10 hc11) okm_X3_has w_839 w_902 rfl rfl (Nat.le_of_ble_eq_true rfl) ⟨Nat.le_of_ble_eq_true rfl, Nat.le_of_ble_eq_true rfl⟩ gdX11_show_128 ?_
        refine g_if_ne E 137 gdX11_show_131 (by decide) h (fun h => ?_) (fun h => ?_)
        ·
          refine g_aload_n E gdX11_show_137 rfl 0 rfl ?_
          refine g_get (T := TX11) E fw_X11 0 (wC_0 g ad o) rfl 3 (by decide) w_461 rfl rfl gdX11_show_138 ?_
          refine g_iload E gdX11_show_141 5 rfl ?_
          refine g_aload_n E gdX11_show_143 rfl 0 rfl ?_
          refine g_get (T := TX11) E fw_X11 0 (wC_0 g ad o) rfl 3 (by decide) w_461 rfl rfl gdX11_show_144 ?_
          refine g_iload E gdX11_show_147 5 rfl ?_
          obtain ⟨r12, hc13, h⟩ := qB_of h
          refine g_Vi (r := r12) (As := [iv x6]) (rest := [iv x6, .ref (ad 10)]) (w := wC g ad o) E (c_X1_latestWorth l g ad o x6 r12 hc13) okm_X1_latestWorth okw_X1_latestWorth w_675 rfl (wC_10 g ad o) rfl rfl (Nat.le_of_ble_eq_true rfl) ⟨Nat.le_of_ble_eq_true rfl, Nat.le_of_ble_eq_true rfl⟩ gdX11_show_149 ?_
          refine g_iload E gdX11_show_152 4 rfl ?_
          obtain ⟨r14, hc15, h⟩ := qB_of h
          refine g_Si (r := r14) (As := [iv r12, iv x5]) (rest := [iv x6, .ref (ad 10)]) (w := wC g ad o) E (c_X11_lowered l g (wC g ad o) r12 x5 r14 hc15) okm_X11_lowered w_946 w_945 rfl rfl (Nat.le_of_ble_eq_true rfl) ⟨Nat.le_of_ble_eq_true rfl, Nat.le_of_ble_eq_true rfl⟩ gdX11_show_154 ?_
          refine g_aload_n E gdX11_show_157 rfl 0 rfl ?_
          refine g_get (T := TX11) E fw_X11 0 (wC_0 g ad o) rfl 13 (by decide) w_471 rfl rfl gdX11_show_158 ?_
          obtain ⟨o18, hc17, h⟩ := qB_of h
          refine g_Vv (As := [iv x6, iv r14, iv (o.1 0 13)]) (rest := []) (w := wC g ad o18) E (c_X1_assess l g ad o x6 r14 (o.1 0 13) o18 hc17) okm_X1_assess okw_X1_assess w_679 rfl (wC_10 g ad o) rfl rfl (Nat.le_of_ble_eq_true rfl) ⟨Nat.le_of_ble_eq_true rfl, Nat.le_of_ble_eq_true rfl⟩ gdX11_show_161 ?_
          exact j164 o18 x1 z2 x4 x5 x6 v h k0 k1
        ·
          refine g_goto E 164 gdX11_show_134 (by decide) ?_
          exact j164 o x1 z2 x4 x5 x6 v h k0 k1
  have j94 : ∀ (o : OO) (x1 : Int) (z2 : Int64) (x4 : Int) (x5 : Int) (x6 : Int), e_X11_show_94 o x1 z2 x4 x5 x6 = some v → Go X 94 (wC g ad o) [(0, .ref (ad 0)), (1, iv x1), (2, .long z2), (4, iv x4), (5, iv x5), (6, iv x6)] [] := by
    intro o x1 z2 x4 x5 x6 h
    unfold e_X11_show_94 at h
    obtain ⟨r, hr, h⟩ := qB_of h
    refine l94 x1 z2 x4 x5 r _ hr ?_
    ·
      intro u0 e
      have e := e.symm
      subst e
      have h : b_X11_show_170 u0 x1 x4 = some v := h
      exact j170 u0 x1 x4 h
  unfold s_X11_show at h
  refine g_aload_n E gdX11_show_0 rfl 0 rfl ?_
  refine g_get (T := TX11) E fw_X11 0 (wC_0 g ad o) rfl 6 (by decide) w_464 rfl rfl gdX11_show_1 ?_
  refine g_iload_n E gdX11_show_4 rfl 1 rfl ?_
  obtain ⟨r19, hc20, h⟩ := qB_of h
  refine g_Vi (r := r19) (As := [iv x1]) (rest := []) (w := wC g ad o) E (c_X4_exists l g ad o x1 r19 hc20) okm_X4_exists okw_X4_exists w_882 rfl (wC_32 g ad o) rfl rfl (Nat.le_of_ble_eq_true rfl) ⟨Nat.le_of_ble_eq_true rfl, Nat.le_of_ble_eq_true rfl⟩ gdX11_show_5 ?_
  refine g_if_ne E 13 gdX11_show_8 (by decide) h (fun h => ?_) (fun h => ?_)
  ·
    refine g_aload_n E gdX11_show_13 rfl 0 rfl ?_
    refine g_get (T := TX11) E fw_X11 0 (wC_0 g ad o) rfl 6 (by decide) w_464 rfl rfl gdX11_show_14 ?_
    refine g_iload_n E gdX11_show_17 rfl 1 rfl ?_
    refine g_iconst E gdX11_show_18 ?_
    obtain ⟨r21, hc22, h⟩ := qB_of h
    refine g_Vi (r := r21) (As := [iv x1, iv 1]) (rest := []) (w := wC g ad o) E (c_X4_isOf l g ad o x1 1 r21 hc22) okm_X4_isOf okw_X4_isOf w_886 rfl (wC_32 g ad o) rfl rfl (Nat.le_of_ble_eq_true rfl) ⟨Nat.le_of_ble_eq_true rfl, Nat.le_of_ble_eq_true rfl⟩ gdX11_show_19 ?_
    refine g_if_ne E 31 gdX11_show_22 (by decide) h (fun h => ?_) (fun h => ?_)
    ·
      refine g_aload_n E gdX11_show_31 rfl 0 rfl ?_
      refine g_get (T := TX11) E fw_X11 0 (wC_0 g ad o) rfl 6 (by decide) w_464 rfl rfl gdX11_show_32 ?_
      refine g_iload_n E gdX11_show_35 rfl 1 rfl ?_
      obtain ⟨r23, hc24, h⟩ := qB_of h
      refine g_Vi (r := r23) (As := [iv x1]) (rest := []) (w := wC g ad o) E (c_X4_shownOn l g ad o x1 r23 hc24) okm_X4_shownOn okw_X4_shownOn w_919 rfl (wC_32 g ad o) rfl rfl (Nat.le_of_ble_eq_true rfl) ⟨Nat.le_of_ble_eq_true rfl, Nat.le_of_ble_eq_true rfl⟩ gdX11_show_36 ?_
      refine g_bipush E gdX11_show_39 (by decide) ?_
      refine g_icmp_eq E 47 gdX11_show_41 (by decide) h (fun h => ?_) (fun h => ?_)
      ·
        refine g_aload_n E gdX11_show_47 rfl 0 rfl ?_
        refine g_get (T := TX11) E fw_X11 0 (wC_0 g ad o) rfl 6 (by decide) w_464 rfl rfl gdX11_show_48 ?_
        refine g_iload_n E gdX11_show_51 rfl 1 rfl ?_
        obtain ⟨p25, hc26, h⟩ := qB_of h
        refine g_Vl (r := p25) (As := [iv x1]) (rest := []) (w := wC g ad o) E (c_X4_cells l g ad o x1 p25 hc26) okm_X4_cells okw_X4_cells w_890 rfl (wC_32 g ad o) rfl rfl (Nat.le_of_ble_eq_true rfl) ⟨Nat.le_of_ble_eq_true rfl, Nat.le_of_ble_eq_true rfl⟩ gdX11_show_52 ?_
        obtain ⟨p27, hc28, h⟩ := qB_of h
        refine g_Sl (r := p27) (As := [.long p25]) (rest := []) (w := wC g ad o) E (c_X3_around l g (wC g ad o) p25 p27 hc28) okm_X3_around w_924 w_923 rfl rfl (Nat.le_of_ble_eq_true rfl) ⟨Nat.le_of_ble_eq_true rfl, Nat.le_of_ble_eq_true rfl⟩ gdX11_show_55 ?_
        refine g_lstore_n E [(2, .long p27), (0, .ref (ad 0)), (1, iv x1)] gdX11_show_58 rfl (by decide) rfl ?_
        refine g_aload_n E gdX11_show_59 rfl 1 rfl ?_
        refine g_get (T := TX11) E fw_X11 0 (wC_0 g ad o) rfl 3 (by decide) w_461 rfl rfl gdX11_show_60 ?_
        refine g_lload_n E gdX11_show_63 rfl 0 rfl ?_
        obtain ⟨r29, hc30, h⟩ := qB_of h
        refine g_Vi (r := r29) (As := [.long p27]) (rest := []) (w := wC g ad o) E (c_X1_standingIn l g ad o p27 r29 hc30) okm_X1_standingIn okw_X1_standingIn w_926 rfl (wC_10 g ad o) rfl rfl (Nat.le_of_ble_eq_true rfl) ⟨Nat.le_of_ble_eq_true rfl, Nat.le_of_ble_eq_true rfl⟩ gdX11_show_64 ?_
        refine g_istore E [(4, iv r29), (2, .long p27), (0, .ref (ad 0)), (1, iv x1)] gdX11_show_67 (by decide) rfl ?_
        refine g_iload E gdX11_show_69 0 rfl ?_
        refine g_aload_n E gdX11_show_71 rfl 2 rfl ?_
        refine g_get (T := TX11) E fw_X11 0 (wC_0 g ad o) rfl 3 (by decide) w_461 rfl rfl gdX11_show_72 ?_
        obtain ⟨r31, hc32, h⟩ := qB_of h
        refine g_Vi (r := r31) (As := []) (rest := [iv r29]) (w := wC g ad o) E (c_X1_tellingsLeft l g ad o r31 hc32) okm_X1_tellingsLeft okw_X1_tellingsLeft w_647 rfl (wC_10 g ad o) rfl rfl (Nat.le_of_ble_eq_true rfl) ⟨Nat.le_of_ble_eq_true rfl, Nat.le_of_ble_eq_true rfl⟩ gdX11_show_75 ?_
        refine g_icmp_le E 84 gdX11_show_78 (by decide) h (fun h => ?_) (fun h => ?_)
        ·
          refine g_aload_n E gdX11_show_84 rfl 2 rfl ?_
          refine g_iconst E gdX11_show_85 ?_
          obtain ⟨r33, hc34, h⟩ := qB_of h
          refine g_Vi (r := r33) (As := [iv 1]) (rest := []) (w := wC g ad o) E (c_X11_inForce l g ad o 1 r33 hc34) okm_X11_inForce okw_X11_inForce w_809 rfl (wC_0 g ad o) rfl rfl (Nat.le_of_ble_eq_true rfl) ⟨Nat.le_of_ble_eq_true rfl, Nat.le_of_ble_eq_true rfl⟩ gdX11_show_86 ?_
          refine g_istore E [(5, iv r33), (4, iv r29), (2, .long p27), (0, .ref (ad 0)), (1, iv x1)] gdX11_show_89 (by decide) rfl ?_
          refine g_iconst E gdX11_show_91 ?_
          refine g_istore E [(6, iv 0), (5, iv r33), (4, iv r29), (2, .long p27), (0, .ref (ad 0)), (1, iv x1)] gdX11_show_92 (by decide) rfl ?_
          refine g_sub E [4, 5, 3, 2, 1, 0] rfl ?_
          exact j94 o x1 p27 r29 r33 0 h
        ·
          refine g_bipush E gdX11_show_81 (by decide) ?_
          exact g_iret E hQ (by rw [← Option.some.inj h]) (by rw [← Option.some.inj h]) gdX11_show_83
      ·
        refine g_bipush E gdX11_show_44 (by decide) ?_
        exact g_iret E hQ (by rw [← Option.some.inj h]) (by rw [← Option.some.inj h]) gdX11_show_46
    ·
      refine g_aload_n E gdX11_show_25 rfl 0 rfl ?_
      refine g_iconst E gdX11_show_26 ?_
      obtain ⟨r35, o37, hc36, h⟩ := qB2_of h
      refine g_Vi (r := r35) (As := [iv 3]) (rest := []) (w := wC g ad o37) E (c_X11_found l g ad o 3 (r35, o37) hc36) okm_X11_found okw_X11_found w_521 rfl (wC_0 g ad o) rfl rfl (Nat.le_of_ble_eq_true rfl) ⟨Nat.le_of_ble_eq_true rfl, Nat.le_of_ble_eq_true rfl⟩ gdX11_show_27 ?_
      exact g_iret E hQ (by rw [← Option.some.inj h]) (by rw [← Option.some.inj h]) gdX11_show_30
  ·
    refine g_iconst E gdX11_show_11 ?_
    exact g_iret E hQ (by rw [← Option.some.inj h]) (by rw [← Option.some.inj h]) gdX11_show_12
noncomputable def s_X11_shown (o : OO) (x1 : Int) : Option (Int × OO) := qB (s_X4_exists o x1) (fun r1 => qEq r1 0 (some ((-1), o)) (qB (s_X4_isOf o x1 1) (fun r3 => qEq r3 0 (qB2 (s_X11_found o 3) (fun r7 o9 => some (r7, o9))) (qB (s_X4_shownOn o x1) (fun r5 => some (r5, o))))))
set_option maxHeartbeats 4000000 in
set_option maxRecDepth 100000 in
theorem c_X11_shown (l : Launch) (g : GG) (ad : Nat → Nat) (o : OO) (x1 : Int) (v : Int × OO) (h : s_X11_shown o x1 = some v) : CI l g yX11_shown cX11_shown 2 (some .int) 1 23 (wC g ad o) [.ref (ad 0), iv x1] v.1 (wC g ad v.2) := by
  refine met_I (by decide) (Nat.le_of_ble_eq_true rfl) ?_
  intro X E hQ
  show Go X 0 (wC g ad o) [(0, .ref (ad 0)), (1, iv x1)] []
  unfold s_X11_shown at h
  refine g_aload_n E gdX11_shown_0 rfl 0 rfl ?_
  refine g_get (T := TX11) E fw_X11 0 (wC_0 g ad o) rfl 6 (by decide) w_464 rfl rfl gdX11_shown_1 ?_
  refine g_iload_n E gdX11_shown_4 rfl 1 rfl ?_
  obtain ⟨r1, hc2, h⟩ := qB_of h
  refine g_Vi (r := r1) (As := [iv x1]) (rest := []) (w := wC g ad o) E (c_X4_exists l g ad o x1 r1 hc2) okm_X4_exists okw_X4_exists w_882 rfl (wC_32 g ad o) rfl rfl (Nat.le_of_ble_eq_true rfl) ⟨Nat.le_of_ble_eq_true rfl, Nat.le_of_ble_eq_true rfl⟩ gdX11_shown_5 ?_
  refine g_if_ne E 13 gdX11_shown_8 (by decide) h (fun h => ?_) (fun h => ?_)
  ·
    refine g_aload_n E gdX11_shown_13 rfl 0 rfl ?_
    refine g_get (T := TX11) E fw_X11 0 (wC_0 g ad o) rfl 6 (by decide) w_464 rfl rfl gdX11_shown_14 ?_
    refine g_iload_n E gdX11_shown_17 rfl 1 rfl ?_
    refine g_iconst E gdX11_shown_18 ?_
    obtain ⟨r3, hc4, h⟩ := qB_of h
    refine g_Vi (r := r3) (As := [iv x1, iv 1]) (rest := []) (w := wC g ad o) E (c_X4_isOf l g ad o x1 1 r3 hc4) okm_X4_isOf okw_X4_isOf w_886 rfl (wC_32 g ad o) rfl rfl (Nat.le_of_ble_eq_true rfl) ⟨Nat.le_of_ble_eq_true rfl, Nat.le_of_ble_eq_true rfl⟩ gdX11_shown_19 ?_
    refine g_if_ne E 31 gdX11_shown_22 (by decide) h (fun h => ?_) (fun h => ?_)
    ·
      refine g_aload_n E gdX11_shown_31 rfl 0 rfl ?_
      refine g_get (T := TX11) E fw_X11 0 (wC_0 g ad o) rfl 6 (by decide) w_464 rfl rfl gdX11_shown_32 ?_
      refine g_iload_n E gdX11_shown_35 rfl 1 rfl ?_
      obtain ⟨r5, hc6, h⟩ := qB_of h
      refine g_Vi (r := r5) (As := [iv x1]) (rest := []) (w := wC g ad o) E (c_X4_shownOn l g ad o x1 r5 hc6) okm_X4_shownOn okw_X4_shownOn w_919 rfl (wC_32 g ad o) rfl rfl (Nat.le_of_ble_eq_true rfl) ⟨Nat.le_of_ble_eq_true rfl, Nat.le_of_ble_eq_true rfl⟩ gdX11_shown_36 ?_
      exact g_iret E hQ (by rw [← Option.some.inj h]) (by rw [← Option.some.inj h]) gdX11_shown_39
    ·
      refine g_aload_n E gdX11_shown_25 rfl 0 rfl ?_
      refine g_iconst E gdX11_shown_26 ?_
      obtain ⟨r7, o9, hc8, h⟩ := qB2_of h
      refine g_Vi (r := r7) (As := [iv 3]) (rest := []) (w := wC g ad o9) E (c_X11_found l g ad o 3 (r7, o9) hc8) okm_X11_found okw_X11_found w_521 rfl (wC_0 g ad o) rfl rfl (Nat.le_of_ble_eq_true rfl) ⟨Nat.le_of_ble_eq_true rfl, Nat.le_of_ble_eq_true rfl⟩ gdX11_shown_27 ?_
      exact g_iret E hQ (by rw [← Option.some.inj h]) (by rw [← Option.some.inj h]) gdX11_shown_30
  ·
    refine g_iconst E gdX11_shown_11 ?_
    exact g_iret E hQ (by rw [← Option.some.inj h]) (by rw [← Option.some.inj h]) gdX11_shown_12
noncomputable def b_X9_survey_63 (o : OO) : Option (OO) := some o
noncomputable def b_X9_survey_57 (o : OO) (x2 : Int) (x3 : Int) : Option ((OO × Int) ⊕ ((OO))) := some (.inl (o, x3 + 1))
noncomputable def b_X9_survey_51 (o : OO) (x2 : Int) (x3 : Int) (x4 : Int) : Option ((OO × Int) ⊕ ((OO))) := some (.inl (o, x4 + 1))
noncomputable def l_X9_survey_17 (x2 : Int) (x3 : Int) (o : OO) (x4 : Int) : Option ((OO × Int) ⊕ ((OO))) := qLt x4 64 (qB (s_X3_onward o x4 x3 x2) (fun r1 => qEq r1 (-9) (b_X9_survey_51 o x2 x3 x4) (qIn x3 4 (qNm (o.2 72 x3.toNat) (fun m4 => qB (s_X3_bit x4) (fun p5 => qIn x3 4 (qNm (st2 o 72 x3.toNat (m4 ||| p5)) (fun o8 => b_X9_survey_51 o8 x2 x3 x4)))))))) (some (.inr (o)))
noncomputable def e_X9_survey_17 (o : OO) (x2 : Int) (x3 : Int) (x4 : Int) : Option ((OO × Int) ⊕ ((OO))) := qB (loopW (fun s => l_X9_survey_17 x2 x3 s.1 s.2) (o, x4)) (fun r => b_X9_survey_57 r x2 x3)
noncomputable def l_X9_survey_2 (x2 : Int) (o : OO) (x3 : Int) : Option ((OO × Int) ⊕ ((OO))) := qLt x3 4 (qIn x3 4 (qNm (st2 o 72 x3.toNat (0 : Int64)) (fun o10 => e_X9_survey_17 o10 x2 x3 0))) (some (.inr (o)))
noncomputable def e_X9_survey_2 (o : OO) (x2 : Int) (x3 : Int) : Option (OO) := qB (loopW (fun s => l_X9_survey_2 x2 s.1 s.2) (o, x3)) (fun r => b_X9_survey_63 r)
noncomputable def s_X9_survey (o : OO) (x2 : Int) : Option (OO) := e_X9_survey_2 o x2 0
set_option maxHeartbeats 4000000 in
set_option maxRecDepth 100000 in
theorem c_X9_survey (l : Launch) (g : GG) (ad : Nat → Nat) (o : OO) (x2 : Int) (v : OO) (h : s_X9_survey o x2 = some v) : CV l g yX9_survey cX9_survey 5 3 67 (wC g ad o) [.ref (ad 71), .ref (ad 7), iv x2] (wC g ad v) := by
  refine met_V (by decide) (Nat.le_of_ble_eq_true rfl) ?_
  intro X E hQ
  show Go X 0 (wC g ad o) [(0, .ref (ad 71)), (1, .ref (ad 7)), (2, iv x2)] []
  have j63 : ∀ (o : OO), b_X9_survey_63 o = some v → Go X 63 (wC g ad o) [] [] := by
    intro o h
    unfold b_X9_survey_63 at h
    exact g_vret E hQ (by rw [← Option.some.inj h]) gdX9_survey_63
  have j57 : ∀ (o : OO) (x2 : Int) (x3 : Int) (v : (OO × Int) ⊕ ((OO))), b_X9_survey_57 o x2 x3 = some v → (∀ (o : OO) (x3 : Int), v = .inl (o, x3) → Go X 2 (wC g ad o) [(0, .ref (ad 71)), (1, .ref (ad 7)), (2, iv x2), (3, iv x3)] []) → (∀ (o : OO), v = .inr (o) → Go X 63 (wC g ad o) [] []) → Go X 57 (wC g ad o) [(0, .ref (ad 71)), (1, .ref (ad 7)), (2, iv x2), (3, iv x3)] [] := by
    intro o x2 x3 v h k0 k1
    unfold b_X9_survey_57 at h
    refine g_iinc E [(3, iv (x3 + 1)), (0, .ref (ad 71)), (1, .ref (ad 7)), (2, iv x2)] gdX9_survey_57 3 rfl (by decide) rfl ?_
    refine g_goto E 2 gdX9_survey_60 (by decide) ?_
    refine g_sub E [1, 2, 3, 0] rfl ?_
    exact k0 o (x3 + 1) (Option.some.inj h).symm
  have j51 : ∀ (o : OO) (x2 : Int) (x3 : Int) (x4 : Int) (v : (OO × Int) ⊕ ((OO))), b_X9_survey_51 o x2 x3 x4 = some v → (∀ (o : OO) (x4 : Int), v = .inl (o, x4) → Go X 17 (wC g ad o) [(0, .ref (ad 71)), (1, .ref (ad 7)), (2, iv x2), (3, iv x3), (4, iv x4)] []) → (∀ (o : OO), v = .inr (o) → Go X 57 (wC g ad o) [(0, .ref (ad 71)), (1, .ref (ad 7)), (2, iv x2), (3, iv x3)] []) → Go X 51 (wC g ad o) [(0, .ref (ad 71)), (1, .ref (ad 7)), (2, iv x2), (3, iv x3), (4, iv x4)] [] := by
    intro o x2 x3 x4 v h k0 k1
    unfold b_X9_survey_51 at h
    refine g_iinc E [(4, iv (x4 + 1)), (0, .ref (ad 71)), (1, .ref (ad 7)), (2, iv x2), (3, iv x3)] gdX9_survey_51 4 rfl (by decide) rfl ?_
    refine g_goto E 17 gdX9_survey_54 (by decide) ?_
    refine g_sub E [1, 2, 3, 4, 0] rfl ?_
    exact k0 o (x4 + 1) (Option.some.inj h).symm
  have l17 : ∀ (x2 : Int) (x3 : Int) (r : (OO)) (s0 : OO × Int), loopW (fun s => l_X9_survey_17 x2 x3 s.1 s.2) s0 = some r → (∀ (o : OO), r = (o) → Go X 57 (wC g ad o) [(0, .ref (ad 71)), (1, .ref (ad 7)), (2, iv x2), (3, iv x3)] []) → Go X 17 (wC g ad s0.1) [(0, .ref (ad 71)), (1, .ref (ad 7)), (2, iv x2), (3, iv x3), (4, iv s0.2)] [] := by
    intro x2 x3 r s0 h k1
    refine loop_rule (Head := fun s0 => Go X 17 (wC g ad s0.1) [(0, .ref (ad 71)), (1, .ref (ad 7)), (2, iv x2), (3, iv x3), (4, iv s0.2)] []) h ?_
    intro s v h kk kx
    obtain ⟨o, x4⟩ := s
    have h : l_X9_survey_17 x2 x3 o x4 = some v := h
    have k0 : ∀ (o : OO) (x4 : Int), v = .inl (o, x4) → Go X 17 (wC g ad o) [(0, .ref (ad 71)), (1, .ref (ad 7)), (2, iv x2), (3, iv x3), (4, iv x4)] [] := fun o x4 e => kk (o, x4) e
    have k1 : ∀ (o : OO), v = .inr (o) → Go X 57 (wC g ad o) [(0, .ref (ad 71)), (1, .ref (ad 7)), (2, iv x2), (3, iv x3)] [] := fun o e => k1 o (kx _ e).symm
    unfold l_X9_survey_17 at h
    refine g_iload E gdX9_survey_17 4 rfl ?_
    refine g_bipush E gdX9_survey_19 (by decide) ?_
    refine g_icmp_ge E 57 gdX9_survey_21 (by decide) h (fun h => ?_) (fun h => ?_)
    ·
      refine g_sub E [0, 1, 2, 3] rfl ?_
      exact k1 o (Option.some.inj h).symm
    ·
      refine g_aload_n E gdX9_survey_24 rfl 1 rfl ?_
      refine g_iload E gdX9_survey_25 4 rfl ?_
      refine g_iload_n E gdX9_survey_27 rfl 3 rfl ?_
      refine g_iload_n E gdX9_survey_28 rfl 2 rfl ?_
      obtain ⟨r1, hc2, h⟩ := qB_of h
      refine g_Vi (r := r1) (As := [iv x4, iv x3, iv x2]) (rest := []) (w := wC g ad o) E (c_X3_onward l g ad o x4 x3 x2 r1 hc2) okm_X3_onward okw_X3_onward w_1327 rfl (wC_7 g ad o) rfl rfl (Nat.le_of_ble_eq_true rfl) ⟨Nat.le_of_ble_eq_true rfl, Nat.le_of_ble_eq_true rfl⟩ gdX9_survey_29 ?_
      refine g_bipush E gdX9_survey_32 (by decide) ?_
      refine g_icmp_eq E 51 gdX9_survey_34 (by decide) h (fun h => ?_) (fun h => ?_)
      ·
        exact j51 o x2 x3 x4 v h k0 k1
      ·
        refine g_aload_n E gdX9_survey_37 rfl 0 rfl ?_
        refine g_get (T := TX9) E fw_X9 71 (wC_71 g ad o) rfl 0 (by decide) w_439 rfl rfl gdX9_survey_38 ?_
        refine g_iload_n E gdX9_survey_41 rfl 3 rfl ?_
        refine g_dup2 E gdX9_survey_42 rfl rfl ?_
        obtain ⟨hi3, h⟩ := qIn_of h
        refine g_lald E 72 (wC_72 g ad o) (by decide) hi3 gdX9_survey_43 ?_
        obtain ⟨m4, e_m4, h⟩ := qNm_of h
        refine g_nml e_m4 ?_
        refine g_iload E gdX9_survey_44 4 rfl ?_
        obtain ⟨p5, hc6, h⟩ := qB_of h
        refine g_Sl (r := p5) (As := [iv x4]) (rest := [.long m4, iv x3, .ref (ad 72)]) (w := wC g ad o) E (c_X3_bit l g (wC g ad o) x4 p5 hc6) okm_X3_bit w_842 w_1328 rfl rfl (Nat.le_of_ble_eq_true rfl) ⟨Nat.le_of_ble_eq_true rfl, Nat.le_of_ble_eq_true rfl⟩ gdX9_survey_46 ?_
        refine g_lor E gdX9_survey_49 ?_
        obtain ⟨hi7, h⟩ := qIn_of h
        obtain ⟨o8, e_o8, h⟩ := qNm_of h
        refine g_last (ws' := wC g ad o8) E 72 (wC_72 g ad o) (by decide) hi7 (by rw [e_o8]; exact wC_s72 g ad o _ _) gdX9_survey_50 ?_
        exact j51 o8 x2 x3 x4 v h k0 k1
  have j17 : ∀ (o : OO) (x2 : Int) (x3 : Int) (x4 : Int) (v : (OO × Int) ⊕ ((OO))), e_X9_survey_17 o x2 x3 x4 = some v → (∀ (o : OO) (x3 : Int), v = .inl (o, x3) → Go X 2 (wC g ad o) [(0, .ref (ad 71)), (1, .ref (ad 7)), (2, iv x2), (3, iv x3)] []) → (∀ (o : OO), v = .inr (o) → Go X 63 (wC g ad o) [] []) → Go X 17 (wC g ad o) [(0, .ref (ad 71)), (1, .ref (ad 7)), (2, iv x2), (3, iv x3), (4, iv x4)] [] := by
    intro o x2 x3 x4 v h k0 k1
    unfold e_X9_survey_17 at h
    obtain ⟨r, hr, h⟩ := qB_of h
    refine l17 x2 x3 r _ hr ?_
    ·
      intro u0 e
      have e := e.symm
      subst e
      have h : b_X9_survey_57 u0 x2 x3 = some v := h
      exact j57 u0 x2 x3 v h k0 k1
  have l2 : ∀ (x2 : Int) (r : (OO)) (s0 : OO × Int), loopW (fun s => l_X9_survey_2 x2 s.1 s.2) s0 = some r → (∀ (o : OO), r = (o) → Go X 63 (wC g ad o) [] []) → Go X 2 (wC g ad s0.1) [(0, .ref (ad 71)), (1, .ref (ad 7)), (2, iv x2), (3, iv s0.2)] [] := by
    intro x2 r s0 h k1
    refine loop_rule (Head := fun s0 => Go X 2 (wC g ad s0.1) [(0, .ref (ad 71)), (1, .ref (ad 7)), (2, iv x2), (3, iv s0.2)] []) h ?_
    intro s v h kk kx
    obtain ⟨o, x3⟩ := s
    have h : l_X9_survey_2 x2 o x3 = some v := h
    have k0 : ∀ (o : OO) (x3 : Int), v = .inl (o, x3) → Go X 2 (wC g ad o) [(0, .ref (ad 71)), (1, .ref (ad 7)), (2, iv x2), (3, iv x3)] [] := fun o x3 e => kk (o, x3) e
    have k1 : ∀ (o : OO), v = .inr (o) → Go X 63 (wC g ad o) [] [] := fun o e => k1 o (kx _ e).symm
    unfold l_X9_survey_2 at h
    refine g_iload_n E gdX9_survey_2 rfl 3 rfl ?_
    refine g_iconst E gdX9_survey_3 ?_
    refine g_icmp_ge E 63 gdX9_survey_4 (by decide) h (fun h => ?_) (fun h => ?_)
    ·
      refine g_sub E [] rfl ?_
      exact k1 o (Option.some.inj h).symm
    ·
      refine g_aload_n E gdX9_survey_7 rfl 0 rfl ?_
      refine g_get (T := TX9) E fw_X9 71 (wC_71 g ad o) rfl 0 (by decide) w_439 rfl rfl gdX9_survey_8 ?_
      refine g_iload_n E gdX9_survey_11 rfl 3 rfl ?_
      refine g_lconst (v := 0) E gdX9_survey_12 (by decide) ?_
      obtain ⟨hi9, h⟩ := qIn_of h
      obtain ⟨o10, e_o10, h⟩ := qNm_of h
      refine g_last (ws' := wC g ad o10) E 72 (wC_72 g ad o) (by decide) hi9 (by rw [e_o10]; exact wC_s72 g ad o _ _) gdX9_survey_13 ?_
      refine g_iconst E gdX9_survey_14 ?_
      refine g_istore E [(4, iv 0), (0, .ref (ad 71)), (1, .ref (ad 7)), (2, iv x2), (3, iv x3)] gdX9_survey_15 (by decide) rfl ?_
      refine g_sub E [1, 2, 3, 4, 0] rfl ?_
      exact j17 o10 x2 x3 0 v h k0 k1
  have j2 : ∀ (o : OO) (x2 : Int) (x3 : Int), e_X9_survey_2 o x2 x3 = some v → Go X 2 (wC g ad o) [(0, .ref (ad 71)), (1, .ref (ad 7)), (2, iv x2), (3, iv x3)] [] := by
    intro o x2 x3 h
    unfold e_X9_survey_2 at h
    obtain ⟨r, hr, h⟩ := qB_of h
    refine l2 x2 r _ hr ?_
    ·
      intro u0 e
      have e := e.symm
      subst e
      have h : b_X9_survey_63 u0 = some v := h
      exact j63 u0 h
  unfold s_X9_survey at h
  refine g_iconst E gdX9_survey_0 ?_
  refine g_istore_n E [(3, iv 0), (0, .ref (ad 71)), (1, .ref (ad 7)), (2, iv x2)] gdX9_survey_1 rfl (by decide) rfl ?_
  refine g_sub E [1, 2, 3, 0] rfl ?_
  exact j2 o x2 0 h
noncomputable def b_X9_connects_97 (o : OO) (x2 : Int) (z8 : Int64) : Option (Int) := qB (s_X3_has z8 x2) (fun r1 => qZ r1 (some r1))
noncomputable def b_X9_connects_114 (o : OO) : Option (Int) := qZ 0 (some 0)
noncomputable def l_X9_connects_9 (o : OO) (x2 : Int) (z3 : Int64) (z5 : Int64) (x7 : Int) : Option ((Int64 × Int) ⊕ ((Int64) ⊕ (Unit))) := qLt x7 64 (qNm (o.2 72 (0 : Int).toNat) (fun m3 => qNm (o.2 72 (1 : Int).toNat) (fun m4 => qNm (o.2 72 (2 : Int).toNat) (fun m5 => qNm (o.2 72 (3 : Int).toNat) (fun m6 => qNm ((((z5 ||| (jushr (z5 &&& m3) (Int32.ofInt 8))) ||| (jushr (z5 &&& m4) (Int32.ofInt 1))) ||| (jshl (z5 &&& m5) (Int32.ofInt 1))) ||| (jshl (z5 &&& m6) (Int32.ofInt 8))) (fun m7 => qNm (m7 &&& (z3 ^^^ (-1 : Int64))) (fun m8 => qJe m8 z5 (some (.inr (.inl m8))) (qB (s_X3_has m8 x2) (fun r9 => qEq r9 0 (some (.inl (m8, x7 + 1))) (some (.inr (.inl m8)))))))))))) (some (.inr (.inr ())))
noncomputable def e_X9_connects_9 (o : OO) (x2 : Int) (z3 : Int64) (z5 : Int64) (x7 : Int) : Option (Int) := qB (loopW (fun s => l_X9_connects_9 o x2 z3 s.1 s.2) (z5, x7)) (Sum.elim (fun r => b_X9_connects_97 o x2 r) (fun _ => b_X9_connects_114 o))
noncomputable def s_X9_connects (o : OO) (x1 : Int) (x2 : Int) (z3 : Int64) : Option (Int) := qB (s_X3_bit x1) (fun p11 => e_X9_connects_9 o x2 z3 p11 0)
set_option maxHeartbeats 4000000 in
set_option maxRecDepth 100000 in
theorem c_X9_connects (l : Launch) (g : GG) (ad : Nat → Nat) (o : OO) (x1 : Int) (x2 : Int) (z3 : Int64) (v : Int) (h : s_X9_connects o x1 x2 z3 = some v) : CI l g yX9_connects cX9_connects 10 (some .boolean) 1 22 (wC g ad o) [.ref (ad 71), iv x1, iv x2, .long z3] v (wC g ad o) := by
  refine met_I (by decide) (Nat.le_of_ble_eq_true rfl) ?_
  intro X E hQ
  show Go X 0 (wC g ad o) [(0, .ref (ad 71)), (1, iv x1), (2, iv x2), (3, .long z3)] []
  have j97 : ∀ (x2 : Int) (z8 : Int64), b_X9_connects_97 o x2 z8 = some v → Go X 97 (wC g ad o) [(2, iv x2), (8, .long z8)] [] := by
    intro x2 z8 h
    unfold b_X9_connects_97 at h
    refine g_lload E gdX9_connects_97 1 rfl ?_
    refine g_iload_n E gdX9_connects_99 rfl 0 rfl ?_
    obtain ⟨r1, hc2, h⟩ := qB_of h
    refine g_Si (r := r1) (As := [.long z8, iv x2]) (rest := []) (w := wC g ad o) E (c_X3_has l g (wC g ad o) z8 x2 r1 hc2) okm_X3_has w_839 w_1334 rfl rfl (Nat.le_of_ble_eq_true rfl) ⟨Nat.le_of_ble_eq_true rfl, Nat.le_of_ble_eq_true rfl⟩ gdX9_connects_100 ?_
    obtain ⟨hz, h⟩ := qZ_of h
    exact g_zret E hQ hz (Option.some.inj h) rfl gdX9_connects_103
  have j114 : b_X9_connects_114 o = some v → Go X 114 (wC g ad o) [] [] := by
    intro h
    unfold b_X9_connects_114 at h
    refine g_iconst E gdX9_connects_114 ?_
    obtain ⟨hz, h⟩ := qZ_of h
    exact g_zret E hQ hz (Option.some.inj h) rfl gdX9_connects_115
  have l9 : ∀ (x2 : Int) (z3 : Int64) (r : (Int64) ⊕ (Unit)) (s0 : Int64 × Int), loopW (fun s => l_X9_connects_9 o x2 z3 s.1 s.2) s0 = some r → (∀ (z8 : Int64), r = (.inl z8) → Go X 97 (wC g ad o) [(2, iv x2), (8, .long z8)] []) → (r = (.inr ()) → Go X 114 (wC g ad o) [] []) → Go X 9 (wC g ad o) [(0, .ref (ad 71)), (2, iv x2), (3, .long z3), (5, .long s0.1), (7, iv s0.2)] [] := by
    intro x2 z3 r s0 h k1 k2
    refine loop_rule (Head := fun s0 => Go X 9 (wC g ad o) [(0, .ref (ad 71)), (2, iv x2), (3, .long z3), (5, .long s0.1), (7, iv s0.2)] []) h ?_
    intro s v h kk kx
    obtain ⟨z5, x7⟩ := s
    have h : l_X9_connects_9 o x2 z3 z5 x7 = some v := h
    have k0 : ∀ (z5 : Int64) (x7 : Int), v = .inl (z5, x7) → Go X 9 (wC g ad o) [(0, .ref (ad 71)), (2, iv x2), (3, .long z3), (5, .long z5), (7, iv x7)] [] := fun z5 x7 e => kk (z5, x7) e
    have k1 : ∀ (z8 : Int64), v = .inr (.inl z8) → Go X 97 (wC g ad o) [(2, iv x2), (8, .long z8)] [] := fun z8 e => k1 z8 (kx _ e).symm
    have k2 : v = .inr (.inr ()) → Go X 114 (wC g ad o) [] [] := fun e => k2 (kx _ e).symm
    unfold l_X9_connects_9 at h
    refine g_iload E gdX9_connects_9 4 rfl ?_
    refine g_bipush E gdX9_connects_11 (by decide) ?_
    refine g_icmp_ge E 114 gdX9_connects_13 (by decide) h (fun h => ?_) (fun h => ?_)
    ·
      refine g_sub E [] rfl ?_
      exact k2  (Option.some.inj h).symm
    ·
      refine g_lload E gdX9_connects_16 3 rfl ?_
      refine g_lload E gdX9_connects_18 3 rfl ?_
      refine g_aload_n E gdX9_connects_20 rfl 0 rfl ?_
      refine g_get (T := TX9) E fw_X9 71 (wC_71 g ad o) rfl 0 (by decide) w_439 rfl rfl gdX9_connects_21 ?_
      refine g_iconst E gdX9_connects_24 ?_
      refine g_lald E 72 (wC_72 g ad o) (by decide) ⟨by decide, by decide⟩ gdX9_connects_25 ?_
      obtain ⟨m3, e_m3, h⟩ := qNm_of h
      refine g_nml e_m3 ?_
      refine g_land E gdX9_connects_26 ?_
      refine g_bipush E gdX9_connects_27 (by decide) ?_
      refine g_lushr E gdX9_connects_29 ?_
      refine g_lor E gdX9_connects_30 ?_
      refine g_lload E gdX9_connects_31 3 rfl ?_
      refine g_aload_n E gdX9_connects_33 rfl 0 rfl ?_
      refine g_get (T := TX9) E fw_X9 71 (wC_71 g ad o) rfl 0 (by decide) w_439 rfl rfl gdX9_connects_34 ?_
      refine g_iconst E gdX9_connects_37 ?_
      refine g_lald E 72 (wC_72 g ad o) (by decide) ⟨by decide, by decide⟩ gdX9_connects_38 ?_
      obtain ⟨m4, e_m4, h⟩ := qNm_of h
      refine g_nml e_m4 ?_
      refine g_land E gdX9_connects_39 ?_
      refine g_iconst E gdX9_connects_40 ?_
      refine g_lushr E gdX9_connects_41 ?_
      refine g_lor E gdX9_connects_42 ?_
      refine g_lload E gdX9_connects_43 3 rfl ?_
      refine g_aload_n E gdX9_connects_45 rfl 0 rfl ?_
      refine g_get (T := TX9) E fw_X9 71 (wC_71 g ad o) rfl 0 (by decide) w_439 rfl rfl gdX9_connects_46 ?_
      refine g_iconst E gdX9_connects_49 ?_
      refine g_lald E 72 (wC_72 g ad o) (by decide) ⟨by decide, by decide⟩ gdX9_connects_50 ?_
      obtain ⟨m5, e_m5, h⟩ := qNm_of h
      refine g_nml e_m5 ?_
      refine g_land E gdX9_connects_51 ?_
      refine g_iconst E gdX9_connects_52 ?_
      refine g_lshl E gdX9_connects_53 ?_
      refine g_lor E gdX9_connects_54 ?_
      refine g_lload E gdX9_connects_55 3 rfl ?_
      refine g_aload_n E gdX9_connects_57 rfl 0 rfl ?_
      refine g_get (T := TX9) E fw_X9 71 (wC_71 g ad o) rfl 0 (by decide) w_439 rfl rfl gdX9_connects_58 ?_
      refine g_iconst E gdX9_connects_61 ?_
      refine g_lald E 72 (wC_72 g ad o) (by decide) ⟨by decide, by decide⟩ gdX9_connects_62 ?_
      obtain ⟨m6, e_m6, h⟩ := qNm_of h
      refine g_nml e_m6 ?_
      refine g_land E gdX9_connects_63 ?_
      refine g_bipush E gdX9_connects_64 (by decide) ?_
      refine g_lshl E gdX9_connects_66 ?_
      refine g_lor E gdX9_connects_67 ?_
      obtain ⟨m7, e_m7, h⟩ := qNm_of h
      refine g_nml e_m7 ?_
      refine g_lstore E [(8, .long m7), (0, .ref (ad 71)), (2, iv x2), (3, .long z3), (5, .long z5), (7, iv x7)] gdX9_connects_68 (by decide) rfl ?_
      refine g_lload E gdX9_connects_70 0 rfl ?_
      refine g_lload_n E gdX9_connects_72 rfl 3 rfl ?_
      refine g_ldc2 E gdX9_connects_73 w_1333 ?_
      refine g_lxor E gdX9_connects_76 ?_
      refine g_land E gdX9_connects_77 ?_
      obtain ⟨m8, e_m8, h⟩ := qNm_of h
      refine g_nml e_m8 ?_
      refine g_lstore E [(8, .long m8), (0, .ref (ad 71)), (2, iv x2), (3, .long z3), (5, .long z5), (7, iv x7)] gdX9_connects_78 (by decide) rfl ?_
      refine g_lload E gdX9_connects_80 0 rfl ?_
      refine g_lload E gdX9_connects_82 4 rfl ?_
      refine g_lcmp_eq E 97 gdX9_connects_84 gdX9_connects_85 (by decide) h (fun h => ?_) (fun h => ?_)
      ·
        refine g_sub E [2, 0] rfl ?_
        exact k1 m8 (Option.some.inj h).symm
      ·
        refine g_lload E gdX9_connects_88 0 rfl ?_
        refine g_iload_n E gdX9_connects_90 rfl 2 rfl ?_
        obtain ⟨r9, hc10, h⟩ := qB_of h
        refine g_Si (r := r9) (As := [.long m8, iv x2]) (rest := []) (w := wC g ad o) E (c_X3_has l g (wC g ad o) m8 x2 r9 hc10) okm_X3_has w_839 w_1334 rfl rfl (Nat.le_of_ble_eq_true rfl) ⟨Nat.le_of_ble_eq_true rfl, Nat.le_of_ble_eq_true rfl⟩ gdX9_connects_91 ?_
        refine g_if_eq E 104 gdX9_connects_94 (by decide) h (fun h => ?_) (fun h => ?_)
        ·
          refine g_lload E gdX9_connects_104 0 rfl ?_
          refine g_lstore E [(5, .long m8), (8, .long m8), (0, .ref (ad 71)), (2, iv x2), (3, .long z3), (7, iv x7)] gdX9_connects_106 (by decide) rfl ?_
          refine g_iinc E [(7, iv (x7 + 1)), (5, .long m8), (8, .long m8), (0, .ref (ad 71)), (2, iv x2), (3, .long z3)] gdX9_connects_108 5 rfl (by decide) rfl ?_
          refine g_goto E 9 gdX9_connects_111 (by decide) ?_
          refine g_sub E [3, 4, 5, 1, 0] rfl ?_
          exact k0 m8 (x7 + 1) (Option.some.inj h).symm
        ·
          refine g_sub E [2, 0] rfl ?_
          exact k1 m8 (Option.some.inj h).symm
  have j9 : ∀ (x2 : Int) (z3 : Int64) (z5 : Int64) (x7 : Int), e_X9_connects_9 o x2 z3 z5 x7 = some v → Go X 9 (wC g ad o) [(0, .ref (ad 71)), (2, iv x2), (3, .long z3), (5, .long z5), (7, iv x7)] [] := by
    intro x2 z3 z5 x7 h
    unfold e_X9_connects_9 at h
    obtain ⟨r, hr, h⟩ := qB_of h
    refine l9 x2 z3 r _ hr ?_ ?_
    ·
      intro u0 e
      subst e
      have h : b_X9_connects_97 o x2 u0 = some v := h
      exact j97 x2 u0 h
    ·
      intro e
      subst e
      have h : b_X9_connects_114 o = some v := h
      exact j114  h
  unfold s_X9_connects at h
  refine g_iload_n E gdX9_connects_0 rfl 1 rfl ?_
  obtain ⟨p11, hc12, h⟩ := qB_of h
  refine g_Sl (r := p11) (As := [iv x1]) (rest := []) (w := wC g ad o) E (c_X3_bit l g (wC g ad o) x1 p11 hc12) okm_X3_bit w_842 w_1328 rfl rfl (Nat.le_of_ble_eq_true rfl) ⟨Nat.le_of_ble_eq_true rfl, Nat.le_of_ble_eq_true rfl⟩ gdX9_connects_1 ?_
  refine g_lstore E [(5, .long p11), (0, .ref (ad 71)), (1, iv x1), (2, iv x2), (3, .long z3)] gdX9_connects_4 (by decide) rfl ?_
  refine g_iconst E gdX9_connects_6 ?_
  refine g_istore E [(7, iv 0), (5, .long p11), (0, .ref (ad 71)), (1, iv x1), (2, iv x2), (3, .long z3)] gdX9_connects_7 (by decide) rfl ?_
  refine g_sub E [2, 4, 5, 1, 0] rfl ?_
  exact j9 x2 z3 p11 0 h
noncomputable def b_J7_fill_53178__75_20 (o : OO) : Option (OO) := some o
noncomputable def l_J7_fill_53178__75_5 (x1 : Int) (x3 : Int) (o : OO) (x2 : Int) : Option ((OO × Int) ⊕ ((OO))) := qLt x2 x3 (qIn x2 64 (qNm (st1 o 75 x2.toNat x1) (fun o2 => some (.inl (o2, x2 + 1))))) (some (.inr (o)))
noncomputable def e_J7_fill_53178__75_5 (o : OO) (x1 : Int) (x2 : Int) (x3 : Int) : Option (OO) := qB (loopW (fun s => l_J7_fill_53178__75_5 x1 x3 s.1 s.2) (o, x2)) (fun r => b_J7_fill_53178__75_20 r)
noncomputable def s_J7_fill_53178__75 (o : OO) (x1 : Int) : Option (OO) := e_J7_fill_53178__75_5 o x1 0 64
set_option maxHeartbeats 4000000 in
set_option maxRecDepth 100000 in
theorem c_J7_fill_53178__75 (l : Launch) (g : GG) (ad : Nat → Nat) (o : OO) (x1 : Int) (v : OO) (h : s_J7_fill_53178__75 o x1 = some v) : CV l g yJ7_fill_53178 cJ7_fill_53178 4 0 0 (wC g ad o) [.ref (ad 75), iv x1] (wC g ad v) := by
  refine met_V (by decide) (Nat.le_of_ble_eq_true rfl) ?_
  intro X E hQ
  show Go X 0 (wC g ad o) [(0, .ref (ad 75)), (1, iv x1)] []
  have j20 : ∀ (o : OO), b_J7_fill_53178__75_20 o = some v → Go X 20 (wC g ad o) [] [] := by
    intro o h
    unfold b_J7_fill_53178__75_20 at h
    exact g_vret E hQ (by rw [← Option.some.inj h]) gdJ7_fill_53178_20
  have l5 : ∀ (x1 : Int) (x3 : Int) (r : (OO)) (s0 : OO × Int), loopW (fun s => l_J7_fill_53178__75_5 x1 x3 s.1 s.2) s0 = some r → (∀ (o : OO), r = (o) → Go X 20 (wC g ad o) [] []) → Go X 5 (wC g ad s0.1) [(0, .ref (ad 75)), (1, iv x1), (2, iv s0.2), (3, iv x3)] [] := by
    intro x1 x3 r s0 h k1
    refine loop_rule (Head := fun s0 => Go X 5 (wC g ad s0.1) [(0, .ref (ad 75)), (1, iv x1), (2, iv s0.2), (3, iv x3)] []) h ?_
    intro s v h kk kx
    obtain ⟨o, x2⟩ := s
    have h : l_J7_fill_53178__75_5 x1 x3 o x2 = some v := h
    have k0 : ∀ (o : OO) (x2 : Int), v = .inl (o, x2) → Go X 5 (wC g ad o) [(0, .ref (ad 75)), (1, iv x1), (2, iv x2), (3, iv x3)] [] := fun o x2 e => kk (o, x2) e
    have k1 : ∀ (o : OO), v = .inr (o) → Go X 20 (wC g ad o) [] [] := fun o e => k1 o (kx _ e).symm
    unfold l_J7_fill_53178__75_5 at h
    refine g_iload_n E gdJ7_fill_53178_5 rfl 2 rfl ?_
    refine g_iload_n E gdJ7_fill_53178_6 rfl 3 rfl ?_
    refine g_icmp_ge E 20 gdJ7_fill_53178_7 (by decide) h (fun h => ?_) (fun h => ?_)
    ·
      refine g_sub E [] rfl ?_
      exact k1 o (Option.some.inj h).symm
    ·
      refine g_aload_n E gdJ7_fill_53178_10 rfl 0 rfl ?_
      refine g_iload_n E gdJ7_fill_53178_11 rfl 2 rfl ?_
      refine g_iload_n E gdJ7_fill_53178_12 rfl 1 rfl ?_
      obtain ⟨hi1, h⟩ := qIn_of h
      obtain ⟨o2, e_o2, h⟩ := qNm_of h
      refine g_iast (ws' := wC g ad o2) E 75 (wC_75 g ad o) (by decide) hi1 (by rw [e_o2]; exact wC_s75 g ad o _ _) gdJ7_fill_53178_13 ?_
      refine g_iinc E [(2, iv (x2 + 1)), (0, .ref (ad 75)), (1, iv x1), (3, iv x3)] gdJ7_fill_53178_14 2 rfl (by decide) rfl ?_
      refine g_goto E 5 gdJ7_fill_53178_17 (by decide) ?_
      refine g_sub E [1, 2, 0, 3] rfl ?_
      exact k0 o2 (x2 + 1) (Option.some.inj h).symm
  have j5 : ∀ (o : OO) (x1 : Int) (x2 : Int) (x3 : Int), e_J7_fill_53178__75_5 o x1 x2 x3 = some v → Go X 5 (wC g ad o) [(0, .ref (ad 75)), (1, iv x1), (2, iv x2), (3, iv x3)] [] := by
    intro o x1 x2 x3 h
    unfold e_J7_fill_53178__75_5 at h
    obtain ⟨r, hr, h⟩ := qB_of h
    refine l5 x1 x3 r _ hr ?_
    ·
      intro u0 e
      have e := e.symm
      subst e
      have h : b_J7_fill_53178__75_20 u0 = some v := h
      exact j20 u0 h
  unfold s_J7_fill_53178__75 at h
  refine g_iconst E gdJ7_fill_53178_0 ?_
  refine g_istore_n E [(2, iv 0), (0, .ref (ad 75)), (1, iv x1)] gdJ7_fill_53178_1 rfl (by decide) rfl ?_
  refine g_aload_n E gdJ7_fill_53178_2 rfl 1 rfl ?_
  refine g_alen (N := 64) E 75 (wC_75 g ad o) gdJ7_fill_53178_3 ?_
  refine g_istore_n E [(3, iv 64), (2, iv 0), (0, .ref (ad 75)), (1, iv x1)] gdJ7_fill_53178_4 rfl (by decide) rfl ?_
  refine g_sub E [2, 3, 1, 0] rfl ?_
  exact j5 o x1 0 64 h
noncomputable def b_J7_fill_53178__76_20 (o : OO) : Option (OO) := some o
noncomputable def l_J7_fill_53178__76_5 (x1 : Int) (x3 : Int) (o : OO) (x2 : Int) : Option ((OO × Int) ⊕ ((OO))) := qLt x2 x3 (qIn x2 256 (qNm (st1 o 76 x2.toNat x1) (fun o2 => some (.inl (o2, x2 + 1))))) (some (.inr (o)))
noncomputable def e_J7_fill_53178__76_5 (o : OO) (x1 : Int) (x2 : Int) (x3 : Int) : Option (OO) := qB (loopW (fun s => l_J7_fill_53178__76_5 x1 x3 s.1 s.2) (o, x2)) (fun r => b_J7_fill_53178__76_20 r)
noncomputable def s_J7_fill_53178__76 (o : OO) (x1 : Int) : Option (OO) := e_J7_fill_53178__76_5 o x1 0 256
set_option maxHeartbeats 4000000 in
set_option maxRecDepth 100000 in
theorem c_J7_fill_53178__76 (l : Launch) (g : GG) (ad : Nat → Nat) (o : OO) (x1 : Int) (v : OO) (h : s_J7_fill_53178__76 o x1 = some v) : CV l g yJ7_fill_53178 cJ7_fill_53178 4 0 0 (wC g ad o) [.ref (ad 76), iv x1] (wC g ad v) := by
  refine met_V (by decide) (Nat.le_of_ble_eq_true rfl) ?_
  intro X E hQ
  show Go X 0 (wC g ad o) [(0, .ref (ad 76)), (1, iv x1)] []
  have j20 : ∀ (o : OO), b_J7_fill_53178__76_20 o = some v → Go X 20 (wC g ad o) [] [] := by
    intro o h
    unfold b_J7_fill_53178__76_20 at h
    exact g_vret E hQ (by rw [← Option.some.inj h]) gdJ7_fill_53178_20
  have l5 : ∀ (x1 : Int) (x3 : Int) (r : (OO)) (s0 : OO × Int), loopW (fun s => l_J7_fill_53178__76_5 x1 x3 s.1 s.2) s0 = some r → (∀ (o : OO), r = (o) → Go X 20 (wC g ad o) [] []) → Go X 5 (wC g ad s0.1) [(0, .ref (ad 76)), (1, iv x1), (2, iv s0.2), (3, iv x3)] [] := by
    intro x1 x3 r s0 h k1
    refine loop_rule (Head := fun s0 => Go X 5 (wC g ad s0.1) [(0, .ref (ad 76)), (1, iv x1), (2, iv s0.2), (3, iv x3)] []) h ?_
    intro s v h kk kx
    obtain ⟨o, x2⟩ := s
    have h : l_J7_fill_53178__76_5 x1 x3 o x2 = some v := h
    have k0 : ∀ (o : OO) (x2 : Int), v = .inl (o, x2) → Go X 5 (wC g ad o) [(0, .ref (ad 76)), (1, iv x1), (2, iv x2), (3, iv x3)] [] := fun o x2 e => kk (o, x2) e
    have k1 : ∀ (o : OO), v = .inr (o) → Go X 20 (wC g ad o) [] [] := fun o e => k1 o (kx _ e).symm
    unfold l_J7_fill_53178__76_5 at h
    refine g_iload_n E gdJ7_fill_53178_5 rfl 2 rfl ?_
    refine g_iload_n E gdJ7_fill_53178_6 rfl 3 rfl ?_
    refine g_icmp_ge E 20 gdJ7_fill_53178_7 (by decide) h (fun h => ?_) (fun h => ?_)
    ·
      refine g_sub E [] rfl ?_
      exact k1 o (Option.some.inj h).symm
    ·
      refine g_aload_n E gdJ7_fill_53178_10 rfl 0 rfl ?_
      refine g_iload_n E gdJ7_fill_53178_11 rfl 2 rfl ?_
      refine g_iload_n E gdJ7_fill_53178_12 rfl 1 rfl ?_
      obtain ⟨hi1, h⟩ := qIn_of h
      obtain ⟨o2, e_o2, h⟩ := qNm_of h
      refine g_iast (ws' := wC g ad o2) E 76 (wC_76 g ad o) (by decide) hi1 (by rw [e_o2]; exact wC_s76 g ad o _ _) gdJ7_fill_53178_13 ?_
      refine g_iinc E [(2, iv (x2 + 1)), (0, .ref (ad 76)), (1, iv x1), (3, iv x3)] gdJ7_fill_53178_14 2 rfl (by decide) rfl ?_
      refine g_goto E 5 gdJ7_fill_53178_17 (by decide) ?_
      refine g_sub E [1, 2, 0, 3] rfl ?_
      exact k0 o2 (x2 + 1) (Option.some.inj h).symm
  have j5 : ∀ (o : OO) (x1 : Int) (x2 : Int) (x3 : Int), e_J7_fill_53178__76_5 o x1 x2 x3 = some v → Go X 5 (wC g ad o) [(0, .ref (ad 76)), (1, iv x1), (2, iv x2), (3, iv x3)] [] := by
    intro o x1 x2 x3 h
    unfold e_J7_fill_53178__76_5 at h
    obtain ⟨r, hr, h⟩ := qB_of h
    refine l5 x1 x3 r _ hr ?_
    ·
      intro u0 e
      have e := e.symm
      subst e
      have h : b_J7_fill_53178__76_20 u0 = some v := h
      exact j20 u0 h
  unfold s_J7_fill_53178__76 at h
  refine g_iconst E gdJ7_fill_53178_0 ?_
  refine g_istore_n E [(2, iv 0), (0, .ref (ad 76)), (1, iv x1)] gdJ7_fill_53178_1 rfl (by decide) rfl ?_
  refine g_aload_n E gdJ7_fill_53178_2 rfl 1 rfl ?_
  refine g_alen (N := 256) E 76 (wC_76 g ad o) gdJ7_fill_53178_3 ?_
  refine g_istore_n E [(3, iv 256), (2, iv 0), (0, .ref (ad 76)), (1, iv x1)] gdJ7_fill_53178_4 rfl (by decide) rfl ?_
  refine g_sub E [2, 3, 1, 0] rfl ?_
  exact j5 o x1 0 256 h
noncomputable def b_J7_fill_53178__73_20 (o : OO) : Option (OO) := some o
noncomputable def l_J7_fill_53178__73_5 (x1 : Int) (x3 : Int) (o : OO) (x2 : Int) : Option ((OO × Int) ⊕ ((OO))) := qLt x2 x3 (qIn x2 128 (qNm (st1 o 73 x2.toNat x1) (fun o2 => some (.inl (o2, x2 + 1))))) (some (.inr (o)))
noncomputable def e_J7_fill_53178__73_5 (o : OO) (x1 : Int) (x2 : Int) (x3 : Int) : Option (OO) := qB (loopW (fun s => l_J7_fill_53178__73_5 x1 x3 s.1 s.2) (o, x2)) (fun r => b_J7_fill_53178__73_20 r)
noncomputable def s_J7_fill_53178__73 (o : OO) (x1 : Int) : Option (OO) := e_J7_fill_53178__73_5 o x1 0 128
set_option maxHeartbeats 4000000 in
set_option maxRecDepth 100000 in
theorem c_J7_fill_53178__73 (l : Launch) (g : GG) (ad : Nat → Nat) (o : OO) (x1 : Int) (v : OO) (h : s_J7_fill_53178__73 o x1 = some v) : CV l g yJ7_fill_53178 cJ7_fill_53178 4 0 0 (wC g ad o) [.ref (ad 73), iv x1] (wC g ad v) := by
  refine met_V (by decide) (Nat.le_of_ble_eq_true rfl) ?_
  intro X E hQ
  show Go X 0 (wC g ad o) [(0, .ref (ad 73)), (1, iv x1)] []
  have j20 : ∀ (o : OO), b_J7_fill_53178__73_20 o = some v → Go X 20 (wC g ad o) [] [] := by
    intro o h
    unfold b_J7_fill_53178__73_20 at h
    exact g_vret E hQ (by rw [← Option.some.inj h]) gdJ7_fill_53178_20
  have l5 : ∀ (x1 : Int) (x3 : Int) (r : (OO)) (s0 : OO × Int), loopW (fun s => l_J7_fill_53178__73_5 x1 x3 s.1 s.2) s0 = some r → (∀ (o : OO), r = (o) → Go X 20 (wC g ad o) [] []) → Go X 5 (wC g ad s0.1) [(0, .ref (ad 73)), (1, iv x1), (2, iv s0.2), (3, iv x3)] [] := by
    intro x1 x3 r s0 h k1
    refine loop_rule (Head := fun s0 => Go X 5 (wC g ad s0.1) [(0, .ref (ad 73)), (1, iv x1), (2, iv s0.2), (3, iv x3)] []) h ?_
    intro s v h kk kx
    obtain ⟨o, x2⟩ := s
    have h : l_J7_fill_53178__73_5 x1 x3 o x2 = some v := h
    have k0 : ∀ (o : OO) (x2 : Int), v = .inl (o, x2) → Go X 5 (wC g ad o) [(0, .ref (ad 73)), (1, iv x1), (2, iv x2), (3, iv x3)] [] := fun o x2 e => kk (o, x2) e
    have k1 : ∀ (o : OO), v = .inr (o) → Go X 20 (wC g ad o) [] [] := fun o e => k1 o (kx _ e).symm
    unfold l_J7_fill_53178__73_5 at h
    refine g_iload_n E gdJ7_fill_53178_5 rfl 2 rfl ?_
    refine g_iload_n E gdJ7_fill_53178_6 rfl 3 rfl ?_
    refine g_icmp_ge E 20 gdJ7_fill_53178_7 (by decide) h (fun h => ?_) (fun h => ?_)
    ·
      refine g_sub E [] rfl ?_
      exact k1 o (Option.some.inj h).symm
    ·
      refine g_aload_n E gdJ7_fill_53178_10 rfl 0 rfl ?_
      refine g_iload_n E gdJ7_fill_53178_11 rfl 2 rfl ?_
      refine g_iload_n E gdJ7_fill_53178_12 rfl 1 rfl ?_
      obtain ⟨hi1, h⟩ := qIn_of h
      obtain ⟨o2, e_o2, h⟩ := qNm_of h
      refine g_iast (ws' := wC g ad o2) E 73 (wC_73 g ad o) (by decide) hi1 (by rw [e_o2]; exact wC_s73 g ad o _ _) gdJ7_fill_53178_13 ?_
      refine g_iinc E [(2, iv (x2 + 1)), (0, .ref (ad 73)), (1, iv x1), (3, iv x3)] gdJ7_fill_53178_14 2 rfl (by decide) rfl ?_
      refine g_goto E 5 gdJ7_fill_53178_17 (by decide) ?_
      refine g_sub E [1, 2, 0, 3] rfl ?_
      exact k0 o2 (x2 + 1) (Option.some.inj h).symm
  have j5 : ∀ (o : OO) (x1 : Int) (x2 : Int) (x3 : Int), e_J7_fill_53178__73_5 o x1 x2 x3 = some v → Go X 5 (wC g ad o) [(0, .ref (ad 73)), (1, iv x1), (2, iv x2), (3, iv x3)] [] := by
    intro o x1 x2 x3 h
    unfold e_J7_fill_53178__73_5 at h
    obtain ⟨r, hr, h⟩ := qB_of h
    refine l5 x1 x3 r _ hr ?_
    ·
      intro u0 e
      have e := e.symm
      subst e
      have h : b_J7_fill_53178__73_20 u0 = some v := h
      exact j20 u0 h
  unfold s_J7_fill_53178__73 at h
  refine g_iconst E gdJ7_fill_53178_0 ?_
  refine g_istore_n E [(2, iv 0), (0, .ref (ad 73)), (1, iv x1)] gdJ7_fill_53178_1 rfl (by decide) rfl ?_
  refine g_aload_n E gdJ7_fill_53178_2 rfl 1 rfl ?_
  refine g_alen (N := 128) E 73 (wC_73 g ad o) gdJ7_fill_53178_3 ?_
  refine g_istore_n E [(3, iv 128), (2, iv 0), (0, .ref (ad 73)), (1, iv x1)] gdJ7_fill_53178_4 rfl (by decide) rfl ?_
  refine g_sub E [2, 3, 1, 0] rfl ?_
  exact j5 o x1 0 128 h
noncomputable def s_X9_visit (o : OO) (x1 : Int) (x2 : Int) : Option (OO) := qIn x1 128 (qNm (o.1 73 x1.toNat) (fun n2 => qEq n2 (-9) (qIn x1 128 (qNm (st1 o 73 x1.toNat x2) (fun o4 => qIn (o4.1 71 5) 128 (qNm (st1 o4 74 ((o4.1 71 5).toNat) x1) (fun o6 => qNm (st1 o6 71 5 ((o6.1 71 5) + 1)) (fun o7 => some o7)))))) (some o)))
set_option maxHeartbeats 4000000 in
set_option maxRecDepth 100000 in
theorem c_X9_visit (l : Launch) (g : GG) (ad : Nat → Nat) (o : OO) (x1 : Int) (x2 : Int) (v : OO) (h : s_X9_visit o x1 x2 = some v) : CV l g yX9_visit cX9_visit 3 0 0 (wC g ad o) [.ref (ad 71), iv x1, iv x2] (wC g ad v) := by
  refine met_V (by decide) (Nat.le_of_ble_eq_true rfl) ?_
  intro X E hQ
  show Go X 0 (wC g ad o) [(0, .ref (ad 71)), (1, iv x1), (2, iv x2)] []
  unfold s_X9_visit at h
  refine g_aload_n E gdX9_visit_0 rfl 0 rfl ?_
  refine g_get (T := TX9) E fw_X9 71 (wC_71 g ad o) rfl 1 (by decide) w_440 rfl rfl gdX9_visit_1 ?_
  refine g_iload_n E gdX9_visit_4 rfl 1 rfl ?_
  obtain ⟨hi1, h⟩ := qIn_of h
  refine g_iald E 73 (wC_73 g ad o) (by decide) hi1 gdX9_visit_5 ?_
  obtain ⟨n2, e_n2, h⟩ := qNm_of h
  refine g_nmi e_n2 ?_
  refine g_bipush E gdX9_visit_6 (by decide) ?_
  refine g_icmp_eq E 12 gdX9_visit_8 (by decide) h (fun h => ?_) (fun h => ?_)
  ·
    refine g_aload_n E gdX9_visit_12 rfl 0 rfl ?_
    refine g_get (T := TX9) E fw_X9 71 (wC_71 g ad o) rfl 1 (by decide) w_440 rfl rfl gdX9_visit_13 ?_
    refine g_iload_n E gdX9_visit_16 rfl 1 rfl ?_
    refine g_iload_n E gdX9_visit_17 rfl 2 rfl ?_
    obtain ⟨hi3, h⟩ := qIn_of h
    obtain ⟨o4, e_o4, h⟩ := qNm_of h
    refine g_iast (ws' := wC g ad o4) E 73 (wC_73 g ad o) (by decide) hi3 (by rw [e_o4]; exact wC_s73 g ad o _ _) gdX9_visit_18 ?_
    refine g_aload_n E gdX9_visit_19 rfl 0 rfl ?_
    refine g_get (T := TX9) E fw_X9 71 (wC_71 g ad o4) rfl 2 (by decide) w_441 rfl rfl gdX9_visit_20 ?_
    refine g_aload_n E gdX9_visit_23 rfl 0 rfl ?_
    refine g_get (T := TX9) E fw_X9 71 (wC_71 g ad o4) rfl 5 (by decide) w_444 rfl rfl gdX9_visit_24 ?_
    refine g_iload_n E gdX9_visit_27 rfl 1 rfl ?_
    obtain ⟨hi5, h⟩ := qIn_of h
    obtain ⟨o6, e_o6, h⟩ := qNm_of h
    refine g_iast (ws' := wC g ad o6) E 74 (wC_74 g ad o4) (by decide) hi5 (by rw [e_o6]; exact wC_s74 g ad o4 _ _) gdX9_visit_28 ?_
    refine g_aload_n E gdX9_visit_29 rfl 0 rfl ?_
    refine g_dup E gdX9_visit_30 rfl ?_
    refine g_get (T := TX9) E fw_X9 71 (wC_71 g ad o6) rfl 5 (by decide) w_444 rfl rfl gdX9_visit_31 ?_
    refine g_iconst E gdX9_visit_34 ?_
    refine g_iadd E gdX9_visit_35 ?_
    obtain ⟨o7, e_o7, h⟩ := qNm_of h
    refine g_puti (T := TX9) (ws' := wC g ad o7) E fw_X9 tyX9 tyX9_ok nmX9 71 (wC_71 g ad o6) rfl 5 (by decide) w_444 rfl rfl (by decide +kernel) (Nat.le_of_ble_eq_true rfl) (by rw [e_o7]; exact wC_p71_5 g ad o6 _) gdX9_visit_36 ?_
    exact g_vret E hQ (by rw [← Option.some.inj h]) gdX9_visit_39
  ·
    exact g_vret E hQ (by rw [← Option.some.inj h]) gdX9_visit_11
noncomputable def b_X9_leave_57 (o : OO) : Option (OO) := some o
noncomputable def b_X9_leave_39 (o : OO) (x1 : Int) : Option (OO) := qIn x1 64 (qNm (o.1 75 x1.toNat) (fun n2 => qLt 0 n2 (qB (s_X9_visit o x1 (64 + x1)) (fun o5 => b_X9_leave_57 o5)) (b_X9_leave_57 o)))
noncomputable def b_X9_leave_33 (o : OO) (x1 : Int) (x2 : Int) : Option ((OO × Int) ⊕ ((OO))) := some (.inl (o, x2 + 1))
noncomputable def l_X9_leave_2 (x1 : Int) (o : OO) (x2 : Int) : Option ((OO × Int) ⊕ ((OO))) := qLt x2 4 (qIn x2 4 (qNm (o.2 72 x2.toNat) (fun m7 => qB (s_X3_has m7 x1) (fun r8 => qEq r8 0 (b_X9_leave_33 o x1 x2) (qB (s_X3_beside x1 x2) (fun r10 => qB (s_X9_visit o r10 (64 + x1)) (fun o14 => b_X9_leave_33 o14 x1 x2))))))) (some (.inr (o)))
noncomputable def e_X9_leave_2 (o : OO) (x1 : Int) (x2 : Int) : Option (OO) := qB (loopW (fun s => l_X9_leave_2 x1 s.1 s.2) (o, x2)) (fun r => b_X9_leave_39 r x1)
noncomputable def s_X9_leave (o : OO) (x1 : Int) : Option (OO) := e_X9_leave_2 o x1 0
set_option maxHeartbeats 4000000 in
set_option maxRecDepth 100000 in
theorem c_X9_leave (l : Launch) (g : GG) (ad : Nat → Nat) (o : OO) (x1 : Int) (v : OO) (h : s_X9_leave o x1 = some v) : CV l g yX9_leave cX9_leave 3 1 22 (wC g ad o) [.ref (ad 71), iv x1] (wC g ad v) := by
  refine met_V (by decide) (Nat.le_of_ble_eq_true rfl) ?_
  intro X E hQ
  show Go X 0 (wC g ad o) [(0, .ref (ad 71)), (1, iv x1)] []
  have j57 : ∀ (o : OO), b_X9_leave_57 o = some v → Go X 57 (wC g ad o) [] [] := by
    intro o h
    unfold b_X9_leave_57 at h
    exact g_vret E hQ (by rw [← Option.some.inj h]) gdX9_leave_57
  have j39 : ∀ (o : OO) (x1 : Int), b_X9_leave_39 o x1 = some v → Go X 39 (wC g ad o) [(0, .ref (ad 71)), (1, iv x1)] [] := by
    intro o x1 h
    unfold b_X9_leave_39 at h
    refine g_aload_n E gdX9_leave_39 rfl 0 rfl ?_
    refine g_get (T := TX9) E fw_X9 71 (wC_71 g ad o) rfl 3 (by decide) w_442 rfl rfl gdX9_leave_40 ?_
    refine g_iload_n E gdX9_leave_43 rfl 1 rfl ?_
    obtain ⟨hi1, h⟩ := qIn_of h
    refine g_iald E 75 (wC_75 g ad o) (by decide) hi1 gdX9_leave_44 ?_
    obtain ⟨n2, e_n2, h⟩ := qNm_of h
    refine g_nmi e_n2 ?_
    refine g_if_le E 57 gdX9_leave_45 (by decide) h (fun h => ?_) (fun h => ?_)
    ·
      refine g_sub E [] rfl ?_
      exact j57 o h
    ·
      refine g_aload_n E gdX9_leave_48 rfl 0 rfl ?_
      refine g_iload_n E gdX9_leave_49 rfl 1 rfl ?_
      refine g_bipush E gdX9_leave_50 (by decide) ?_
      refine g_iload_n E gdX9_leave_52 rfl 1 rfl ?_
      refine g_iadd E gdX9_leave_53 ?_
      obtain ⟨o5, hc4, h⟩ := qB_of h
      refine g_Vv (As := [iv x1, iv (64 + x1)]) (rest := []) (w := wC g ad o5) E (c_X9_visit l g ad o x1 (64 + x1) o5 hc4) okm_X9_visit okw_X9_visit w_1346 rfl (wC_71 g ad o) rfl rfl (Nat.le_of_ble_eq_true rfl) ⟨Nat.le_of_ble_eq_true rfl, Nat.le_of_ble_eq_true rfl⟩ gdX9_leave_54 ?_
      refine g_sub E [] rfl ?_
      exact j57 o5 h
  have j33 : ∀ (o : OO) (x1 : Int) (x2 : Int) (v : (OO × Int) ⊕ ((OO))), b_X9_leave_33 o x1 x2 = some v → (∀ (o : OO) (x2 : Int), v = .inl (o, x2) → Go X 2 (wC g ad o) [(0, .ref (ad 71)), (1, iv x1), (2, iv x2)] []) → (∀ (o : OO), v = .inr (o) → Go X 39 (wC g ad o) [(0, .ref (ad 71)), (1, iv x1)] []) → Go X 33 (wC g ad o) [(0, .ref (ad 71)), (1, iv x1), (2, iv x2)] [] := by
    intro o x1 x2 v h k0 k1
    unfold b_X9_leave_33 at h
    refine g_iinc E [(2, iv (x2 + 1)), (0, .ref (ad 71)), (1, iv x1)] gdX9_leave_33 2 rfl (by decide) rfl ?_
    refine g_goto E 2 gdX9_leave_36 (by decide) ?_
    refine g_sub E [1, 2, 0] rfl ?_
    exact k0 o (x2 + 1) (Option.some.inj h).symm
  have l2 : ∀ (x1 : Int) (r : (OO)) (s0 : OO × Int), loopW (fun s => l_X9_leave_2 x1 s.1 s.2) s0 = some r → (∀ (o : OO), r = (o) → Go X 39 (wC g ad o) [(0, .ref (ad 71)), (1, iv x1)] []) → Go X 2 (wC g ad s0.1) [(0, .ref (ad 71)), (1, iv x1), (2, iv s0.2)] [] := by
    intro x1 r s0 h k1
    refine loop_rule (Head := fun s0 => Go X 2 (wC g ad s0.1) [(0, .ref (ad 71)), (1, iv x1), (2, iv s0.2)] []) h ?_
    intro s v h kk kx
    obtain ⟨o, x2⟩ := s
    have h : l_X9_leave_2 x1 o x2 = some v := h
    have k0 : ∀ (o : OO) (x2 : Int), v = .inl (o, x2) → Go X 2 (wC g ad o) [(0, .ref (ad 71)), (1, iv x1), (2, iv x2)] [] := fun o x2 e => kk (o, x2) e
    have k1 : ∀ (o : OO), v = .inr (o) → Go X 39 (wC g ad o) [(0, .ref (ad 71)), (1, iv x1)] [] := fun o e => k1 o (kx _ e).symm
    unfold l_X9_leave_2 at h
    refine g_iload_n E gdX9_leave_2 rfl 2 rfl ?_
    refine g_iconst E gdX9_leave_3 ?_
    refine g_icmp_ge E 39 gdX9_leave_4 (by decide) h (fun h => ?_) (fun h => ?_)
    ·
      refine g_sub E [0, 1] rfl ?_
      exact k1 o (Option.some.inj h).symm
    ·
      refine g_aload_n E gdX9_leave_7 rfl 0 rfl ?_
      refine g_get (T := TX9) E fw_X9 71 (wC_71 g ad o) rfl 0 (by decide) w_439 rfl rfl gdX9_leave_8 ?_
      refine g_iload_n E gdX9_leave_11 rfl 2 rfl ?_
      obtain ⟨hi6, h⟩ := qIn_of h
      refine g_lald E 72 (wC_72 g ad o) (by decide) hi6 gdX9_leave_12 ?_
      obtain ⟨m7, e_m7, h⟩ := qNm_of h
      refine g_nml e_m7 ?_
      refine g_iload_n E gdX9_leave_13 rfl 1 rfl ?_
      obtain ⟨r8, hc9, h⟩ := qB_of h
      refine g_Si (r := r8) (As := [.long m7, iv x1]) (rest := []) (w := wC g ad o) E (c_X3_has l g (wC g ad o) m7 x1 r8 hc9) okm_X3_has w_839 w_1334 rfl rfl (Nat.le_of_ble_eq_true rfl) ⟨Nat.le_of_ble_eq_true rfl, Nat.le_of_ble_eq_true rfl⟩ gdX9_leave_14 ?_
      refine g_if_eq E 33 gdX9_leave_17 (by decide) h (fun h => ?_) (fun h => ?_)
      ·
        exact j33 o x1 x2 v h k0 k1
      ·
        refine g_aload_n E gdX9_leave_20 rfl 0 rfl ?_
        refine g_iload_n E gdX9_leave_21 rfl 1 rfl ?_
        refine g_iload_n E gdX9_leave_22 rfl 2 rfl ?_
        obtain ⟨r10, hc11, h⟩ := qB_of h
        refine g_Si (r := r10) (As := [iv x1, iv x2]) (rest := [.ref (ad 71)]) (w := wC g ad o) E (c_X3_beside l g (wC g ad o) x1 x2 r10 hc11) okm_X3_beside w_828 w_1354 rfl rfl (Nat.le_of_ble_eq_true rfl) ⟨Nat.le_of_ble_eq_true rfl, Nat.le_of_ble_eq_true rfl⟩ gdX9_leave_23 ?_
        refine g_bipush E gdX9_leave_26 (by decide) ?_
        refine g_iload_n E gdX9_leave_28 rfl 1 rfl ?_
        refine g_iadd E gdX9_leave_29 ?_
        obtain ⟨o14, hc13, h⟩ := qB_of h
        refine g_Vv (As := [iv r10, iv (64 + x1)]) (rest := []) (w := wC g ad o14) E (c_X9_visit l g ad o r10 (64 + x1) o14 hc13) okm_X9_visit okw_X9_visit w_1346 rfl (wC_71 g ad o) rfl rfl (Nat.le_of_ble_eq_true rfl) ⟨Nat.le_of_ble_eq_true rfl, Nat.le_of_ble_eq_true rfl⟩ gdX9_leave_30 ?_
        exact j33 o14 x1 x2 v h k0 k1
  have j2 : ∀ (o : OO) (x1 : Int) (x2 : Int), e_X9_leave_2 o x1 x2 = some v → Go X 2 (wC g ad o) [(0, .ref (ad 71)), (1, iv x1), (2, iv x2)] [] := by
    intro o x1 x2 h
    unfold e_X9_leave_2 at h
    obtain ⟨r, hr, h⟩ := qB_of h
    refine l2 x1 r _ hr ?_
    ·
      intro u0 e
      have e := e.symm
      subst e
      have h : b_X9_leave_39 u0 x1 = some v := h
      exact j39 u0 x1 h
  unfold s_X9_leave at h
  refine g_iconst E gdX9_leave_0 ?_
  refine g_istore_n E [(2, iv 0), (0, .ref (ad 71)), (1, iv x1)] gdX9_leave_1 rfl (by decide) rfl ?_
  refine g_sub E [1, 2, 0] rfl ?_
  exact j2 o x1 0 h
