set_option maxRecDepth 200000 in
theorem q_775 : Cond.methodLink "CityRoad$Rules" 63 yX7_deciding ∈ tb := tb_mem 775 (by decide +kernel) rfl
set_option maxRecDepth 200000 in
theorem q_779 : Cond.fieldLink "CityRoad$Rules" 67 "CityRoad$Rules" "DEFAULTS" "[I" ∈ tb := tb_mem 779 (by decide +kernel) rfl
set_option maxRecDepth 200000 in
theorem q_774 : Cond.code yX7_valueFor cX7_valueFor 5 (some .int) ∈ tb := tb_mem 774 (by rfl) rfl
set_option maxRecDepth 200000 in
theorem q_772 : Cond.instanceMethod yX7_valueFor ∈ tb := tb_mem 772 (by decide +kernel) rfl
set_option maxRecDepth 200000 in
theorem q_773 : Cond.selects "CityRoad$Rules" yX7_valueFor yX7_valueFor ∈ tb := tb_mem 773 (by decide +kernel) rfl
set_option maxRecDepth 200000 in
theorem q_771 : Cond.methodLink "CityRoad" 212 yX7_valueFor ∈ tb := tb_mem 771 (by decide +kernel) rfl
set_option maxRecDepth 200000 in
theorem q_1775 : Cond.code yX12_inForce cX12_inForce 5 (some .int) ∈ tb := tb_mem 1775 (by rfl) rfl
set_option maxRecDepth 200000 in
theorem q_1774 : Cond.instanceMethod yX12_inForce ∈ tb := tb_mem 1774 (by decide +kernel) rfl
set_option maxRecDepth 200000 in
theorem q_41 : Cond.selects "CityRoadModel" yX12_inForce yX12_inForce ∈ tb := tb_mem 41 (by decide +kernel) rfl
set_option maxRecDepth 200000 in
theorem q_1772 : Cond.methodLink "CityRoadModel" 248 yX12_inForce ∈ tb := tb_mem 1772 (by decide +kernel) rfl
set_option maxRecDepth 200000 in
theorem q_938 : Cond.constantLong "java/lang/Long" 314 (6148914691236517205) ∈ tb := tb_mem 938 (by decide +kernel) rfl
set_option maxRecDepth 200000 in
theorem q_939 : Cond.constantLong "java/lang/Long" 316 (3689348814741910323) ∈ tb := tb_mem 939 (by decide +kernel) rfl
set_option maxRecDepth 200000 in
theorem q_940 : Cond.constantLong "java/lang/Long" 318 (1085102592571150095) ∈ tb := tb_mem 940 (by decide +kernel) rfl
set_option maxRecDepth 200000 in
theorem q_933 : Cond.code yX1_standingCells cX1_standingCells 4 (some .long) ∈ tb := tb_mem 933 (by rfl) rfl
set_option maxRecDepth 200000 in
theorem q_931 : Cond.instanceMethod yX1_standingCells ∈ tb := tb_mem 931 (by decide +kernel) rfl
set_option maxRecDepth 200000 in
theorem q_932 : Cond.selects "CityRoad$Buildings" yX1_standingCells yX1_standingCells ∈ tb := tb_mem 932 (by decide +kernel) rfl
set_option maxRecDepth 200000 in
theorem q_930 : Cond.methodLink "CityRoad$Buildings" 77 yX1_standingCells ∈ tb := tb_mem 930 (by decide +kernel) rfl
set_option maxRecDepth 200000 in
theorem q_937 : Cond.code yJ13_bitCount_95d88 cJ13_bitCount_95d88 2 (some .int) ∈ tb := tb_mem 937 (by rfl) rfl
set_option maxRecDepth 200000 in
theorem q_105 : Cond.initialized "java/lang/Long" ∈ tb := tb_mem 105 (by decide +kernel) rfl
set_option maxRecDepth 200000 in
theorem q_936 : Cond.static yJ13_bitCount_95d88 ∈ tb := tb_mem 936 (by decide +kernel) rfl
set_option maxRecDepth 200000 in
theorem q_935 : Cond.methodLink "CityRoad$Buildings" 81 yJ13_bitCount_95d88 ∈ tb := tb_mem 935 (by decide +kernel) rfl
set_option maxRecDepth 200000 in
theorem q_1409 : Cond.methodLink "CityRoad$Shelf" 47 yX8_isThere ∈ tb := tb_mem 1409 (by decide +kernel) rfl
set_option maxRecDepth 200000 in
theorem q_1185 : Cond.constantLong "CityRoad" 387 (-1) ∈ tb := tb_mem 1185 (by decide +kernel) rfl
set_option maxRecDepth 200000 in
theorem q_929 : Cond.code yX1_standingIn cX1_standingIn 3 (some .int) ∈ tb := tb_mem 929 (by rfl) rfl
set_option maxRecDepth 200000 in
theorem q_927 : Cond.instanceMethod yX1_standingIn ∈ tb := tb_mem 927 (by decide +kernel) rfl
set_option maxRecDepth 200000 in
theorem q_928 : Cond.selects "CityRoad$Buildings" yX1_standingIn yX1_standingIn ∈ tb := tb_mem 928 (by decide +kernel) rfl
set_option maxRecDepth 200000 in
theorem q_926 : Cond.methodLink "CityRoad" 278 yX1_standingIn ∈ tb := tb_mem 926 (by decide +kernel) rfl
set_option maxRecDepth 200000 in
theorem q_1400 : Cond.code yX5_homeless cX5_homeless 3 (some .int) ∈ tb := tb_mem 1400 (by rfl) rfl
set_option maxRecDepth 200000 in
theorem q_1398 : Cond.instanceMethod yX5_homeless ∈ tb := tb_mem 1398 (by decide +kernel) rfl
set_option maxRecDepth 200000 in
theorem q_1399 : Cond.selects "CityRoad$Persons" yX5_homeless yX5_homeless ∈ tb := tb_mem 1399 (by decide +kernel) rfl
set_option maxRecDepth 200000 in
theorem q_1397 : Cond.methodLink "CityRoad" 468 yX5_homeless ∈ tb := tb_mem 1397 (by decide +kernel) rfl
set_option maxRecDepth 200000 in
theorem q_1073 : Cond.code yX2_buys cX2_buys 1 (some .int) ∈ tb := tb_mem 1073 (by rfl) rfl
set_option maxRecDepth 200000 in
theorem q_1071 : Cond.instanceMethod yX2_buys ∈ tb := tb_mem 1071 (by decide +kernel) rfl
set_option maxRecDepth 200000 in
theorem q_1072 : Cond.selects "CityRoad$Dealings" yX2_buys yX2_buys ∈ tb := tb_mem 1072 (by decide +kernel) rfl
set_option maxRecDepth 200000 in
theorem q_1070 : Cond.methodLink "CityRoad" 341 yX2_buys ∈ tb := tb_mem 1070 (by decide +kernel) rfl
set_option maxRecDepth 200000 in
theorem q_1404 : Cond.code yX1_tellings cX1_tellings 1 (some .int) ∈ tb := tb_mem 1404 (by rfl) rfl
set_option maxRecDepth 200000 in
theorem q_1402 : Cond.instanceMethod yX1_tellings ∈ tb := tb_mem 1402 (by decide +kernel) rfl
set_option maxRecDepth 200000 in
theorem q_1403 : Cond.selects "CityRoad$Buildings" yX1_tellings yX1_tellings ∈ tb := tb_mem 1403 (by decide +kernel) rfl
set_option maxRecDepth 200000 in
theorem q_1401 : Cond.methodLink "CityRoad" 471 yX1_tellings ∈ tb := tb_mem 1401 (by decide +kernel) rfl
set_option maxRecDepth 200000 in
theorem q_1408 : Cond.code yX8_present cX8_present 3 (some .int) ∈ tb := tb_mem 1408 (by rfl) rfl
set_option maxRecDepth 200000 in
theorem q_1406 : Cond.instanceMethod yX8_present ∈ tb := tb_mem 1406 (by decide +kernel) rfl
set_option maxRecDepth 200000 in
theorem q_1407 : Cond.selects "CityRoad$Shelf" yX8_present yX8_present ∈ tb := tb_mem 1407 (by decide +kernel) rfl
set_option maxRecDepth 200000 in
theorem q_1405 : Cond.methodLink "CityRoad" 474 yX8_present ∈ tb := tb_mem 1405 (by decide +kernel) rfl
set_option maxRecDepth 200000 in
theorem q_1514 : Cond.fieldLink "CityRoadModel" 368 "CityRoadModel" "buys" "I" ∈ tb := tb_mem 1514 (by decide +kernel) rfl
set_option maxRecDepth 200000 in
theorem q_2137 : Cond.code yX12_counts cX12_counts 4 (some .int) ∈ tb := tb_mem 2137 (by rfl) rfl
set_option maxRecDepth 200000 in
theorem q_2136 : Cond.instanceMethod yX12_counts ∈ tb := tb_mem 2136 (by decide +kernel) rfl
set_option maxRecDepth 200000 in
theorem q_85 : Cond.selects "CityRoadModel" yX12_counts yX12_counts ∈ tb := tb_mem 85 (by decide +kernel) rfl
set_option maxRecDepth 200000 in
theorem q_2134 : Cond.methodLink "CityRoadModel" 443 yX12_counts ∈ tb := tb_mem 2134 (by decide +kernel) rfl
theorem dX7_valueFor_0 : decode cX7_valueFor 0 = .ok (.aload_n 0, 1) := by decide +kernel
theorem dX7_valueFor_1 : decode cX7_valueFor 1 = .ok (.iload_n 1, 1) := by decide +kernel
theorem dX7_valueFor_2 : decode cX7_valueFor 2 = .ok (.iload_n 2, 1) := by decide +kernel
theorem dX7_valueFor_3 : decode cX7_valueFor 3 = .ok (.iload_n 3, 1) := by decide +kernel
theorem dX7_valueFor_4 : decode cX7_valueFor 4 = .ok (.invokevirtual 63, 3) := by decide +kernel
theorem dX7_valueFor_7 : decode cX7_valueFor 7 = .ok (.istore 4, 2) := by decide +kernel
theorem dX7_valueFor_9 : decode cX7_valueFor 9 = .ok (.iload 4, 2) := by decide +kernel
theorem dX7_valueFor_11 : decode cX7_valueFor 11 = .ok (.bipush (-9), 2) := by decide +kernel
theorem dX7_valueFor_13 : decode cX7_valueFor 13 = .ok (.if_icmp .ne 11, 3) := by decide +kernel
theorem dX7_valueFor_16 : decode cX7_valueFor 16 = .ok (.getstatic 67, 3) := by decide +kernel
theorem dX7_valueFor_19 : decode cX7_valueFor 19 = .ok (.iload_n 1, 1) := by decide +kernel
theorem dX7_valueFor_20 : decode cX7_valueFor 20 = .ok (.iaload, 1) := by decide +kernel
theorem dX7_valueFor_21 : decode cX7_valueFor 21 = .ok (.goto 15, 3) := by decide +kernel
theorem dX7_valueFor_36 : decode cX7_valueFor 36 = .ok (.ireturn, 1) := by decide +kernel
theorem dX11_force_0 : decode cX11_force 0 = .ok (.iload_n 1, 1) := by decide +kernel
theorem dX11_force_1 : decode cX11_force 1 = .ok (.invokestatic 209, 3) := by decide +kernel
theorem dX11_force_4 : decode cX11_force 4 = .ok (.ifCond .eq 17, 3) := by decide +kernel
theorem dX11_force_21 : decode cX11_force 21 = .ok (.iconst (-1), 1) := by decide +kernel
theorem dX11_force_22 : decode cX11_force 22 = .ok (.ireturn, 1) := by decide +kernel
theorem dX11_force_7 : decode cX11_force 7 = .ok (.iload_n 2, 1) := by decide +kernel
theorem dX11_force_8 : decode cX11_force 8 = .ok (.invokestatic 180, 3) := by decide +kernel
theorem dX11_force_11 : decode cX11_force 11 = .ok (.ifCond .eq 10, 3) := by decide +kernel
theorem dX11_force_14 : decode cX11_force 14 = .ok (.iload_n 3, 1) := by decide +kernel
theorem dX11_force_15 : decode cX11_force 15 = .ok (.invokestatic 180, 3) := by decide +kernel
theorem dX11_force_18 : decode cX11_force 18 = .ok (.ifCond .ne 5, 3) := by decide +kernel
theorem dX11_force_23 : decode cX11_force 23 = .ok (.aload_n 0, 1) := by decide +kernel
theorem dX11_force_24 : decode cX11_force 24 = .ok (.getfield 45, 3) := by decide +kernel
theorem dX11_force_27 : decode cX11_force 27 = .ok (.iload_n 1, 1) := by decide +kernel
theorem dX11_force_28 : decode cX11_force 28 = .ok (.iload_n 2, 1) := by decide +kernel
theorem dX11_force_29 : decode cX11_force 29 = .ok (.iload_n 3, 1) := by decide +kernel
theorem dX11_force_30 : decode cX11_force 30 = .ok (.invokevirtual 212, 3) := by decide +kernel
theorem dX11_force_33 : decode cX11_force 33 = .ok (.ireturn, 1) := by decide +kernel
theorem dX12_inForce_0 : decode cX12_inForce 0 = .ok (.aload_n 0, 1) := by decide +kernel
theorem dX12_inForce_1 : decode cX12_inForce 1 = .ok (.iload_n 1, 1) := by decide +kernel
theorem dX12_inForce_2 : decode cX12_inForce 2 = .ok (.iload_n 2, 1) := by decide +kernel
theorem dX12_inForce_3 : decode cX12_inForce 3 = .ok (.iload_n 3, 1) := by decide +kernel
theorem dX12_inForce_4 : decode cX12_inForce 4 = .ok (.invokevirtual 244, 3) := by decide +kernel
theorem dX12_inForce_7 : decode cX12_inForce 7 = .ok (.istore 4, 2) := by decide +kernel
theorem dX12_inForce_9 : decode cX12_inForce 9 = .ok (.iload 4, 2) := by decide +kernel
theorem dX12_inForce_11 : decode cX12_inForce 11 = .ok (.ifCond .lt 16, 3) := by decide +kernel
theorem dX12_inForce_27 : decode cX12_inForce 27 = .ok (.iload_n 1, 1) := by decide +kernel
theorem dX12_inForce_28 : decode cX12_inForce 28 = .ok (.tableswitch 63 0 6 #[44, 47, 50, 53, 56, 58, 61], 44) := by decide +kernel
theorem dX12_inForce_72 : decode cX12_inForce 72 = .ok (.bipush 10, 2) := by decide +kernel
theorem dX12_inForce_74 : decode cX12_inForce 74 = .ok (.ireturn, 1) := by decide +kernel
theorem dX12_inForce_75 : decode cX12_inForce 75 = .ok (.bipush 20, 2) := by decide +kernel
theorem dX12_inForce_77 : decode cX12_inForce 77 = .ok (.ireturn, 1) := by decide +kernel
theorem dX12_inForce_78 : decode cX12_inForce 78 = .ok (.bipush 100, 2) := by decide +kernel
theorem dX12_inForce_80 : decode cX12_inForce 80 = .ok (.ireturn, 1) := by decide +kernel
theorem dX12_inForce_81 : decode cX12_inForce 81 = .ok (.bipush 50, 2) := by decide +kernel
theorem dX12_inForce_83 : decode cX12_inForce 83 = .ok (.ireturn, 1) := by decide +kernel
theorem dX12_inForce_84 : decode cX12_inForce 84 = .ok (.iconst 2, 1) := by decide +kernel
theorem dX12_inForce_85 : decode cX12_inForce 85 = .ok (.ireturn, 1) := by decide +kernel
theorem dX12_inForce_86 : decode cX12_inForce 86 = .ok (.bipush 60, 2) := by decide +kernel
theorem dX12_inForce_88 : decode cX12_inForce 88 = .ok (.ireturn, 1) := by decide +kernel
theorem dX12_inForce_89 : decode cX12_inForce 89 = .ok (.iconst 3, 1) := by decide +kernel
theorem dX12_inForce_90 : decode cX12_inForce 90 = .ok (.ireturn, 1) := by decide +kernel
theorem dX12_inForce_91 : decode cX12_inForce 91 = .ok (.bipush 7, 2) := by decide +kernel
theorem dX12_inForce_93 : decode cX12_inForce 93 = .ok (.ireturn, 1) := by decide +kernel
theorem dX12_force_0 : decode cX12_force 0 = .ok (.iload_n 1, 1) := by decide +kernel
theorem dX12_force_1 : decode cX12_force 1 = .ok (.iload_n 2, 1) := by decide +kernel
theorem dX12_force_2 : decode cX12_force 2 = .ok (.iload_n 3, 1) := by decide +kernel
theorem dX12_force_3 : decode cX12_force 3 = .ok (.invokestatic 251, 3) := by decide +kernel
theorem dX12_force_6 : decode cX12_force 6 = .ok (.ifCond .eq 13, 3) := by decide +kernel
theorem dX12_force_19 : decode cX12_force 19 = .ok (.iconst (-1), 1) := by decide +kernel
theorem dX12_force_20 : decode cX12_force 20 = .ok (.ireturn, 1) := by decide +kernel
theorem dX12_force_9 : decode cX12_force 9 = .ok (.aload_n 0, 1) := by decide +kernel
theorem dX12_force_10 : decode cX12_force 10 = .ok (.iload_n 1, 1) := by decide +kernel
theorem dX12_force_11 : decode cX12_force 11 = .ok (.iload_n 2, 1) := by decide +kernel
theorem dX12_force_12 : decode cX12_force 12 = .ok (.iload_n 3, 1) := by decide +kernel
theorem dX12_force_13 : decode cX12_force 13 = .ok (.invokevirtual 248, 3) := by decide +kernel
theorem dX12_force_16 : decode cX12_force 16 = .ok (.goto 4, 3) := by decide +kernel
theorem dJ13_bitCount_95d88_0 : decode cJ13_bitCount_95d88 0 = .ok (.lload_n 0, 1) := by decide +kernel
theorem dJ13_bitCount_95d88_1 : decode cJ13_bitCount_95d88 1 = .ok (.lload_n 0, 1) := by decide +kernel
theorem dJ13_bitCount_95d88_2 : decode cJ13_bitCount_95d88 2 = .ok (.iconst 1, 1) := by decide +kernel
theorem dJ13_bitCount_95d88_3 : decode cJ13_bitCount_95d88 3 = .ok (.lushr, 1) := by decide +kernel
theorem dJ13_bitCount_95d88_4 : decode cJ13_bitCount_95d88 4 = .ok (.ldc2_w 314, 3) := by decide +kernel
theorem dJ13_bitCount_95d88_7 : decode cJ13_bitCount_95d88 7 = .ok (.land, 1) := by decide +kernel
theorem dJ13_bitCount_95d88_8 : decode cJ13_bitCount_95d88 8 = .ok (.lsub, 1) := by decide +kernel
theorem dJ13_bitCount_95d88_9 : decode cJ13_bitCount_95d88 9 = .ok (.lstore_n 0, 1) := by decide +kernel
theorem dJ13_bitCount_95d88_10 : decode cJ13_bitCount_95d88 10 = .ok (.lload_n 0, 1) := by decide +kernel
theorem dJ13_bitCount_95d88_11 : decode cJ13_bitCount_95d88 11 = .ok (.ldc2_w 316, 3) := by decide +kernel
theorem dJ13_bitCount_95d88_14 : decode cJ13_bitCount_95d88 14 = .ok (.land, 1) := by decide +kernel
theorem dJ13_bitCount_95d88_15 : decode cJ13_bitCount_95d88 15 = .ok (.lload_n 0, 1) := by decide +kernel
theorem dJ13_bitCount_95d88_16 : decode cJ13_bitCount_95d88 16 = .ok (.iconst 2, 1) := by decide +kernel
theorem dJ13_bitCount_95d88_17 : decode cJ13_bitCount_95d88 17 = .ok (.lushr, 1) := by decide +kernel
theorem dJ13_bitCount_95d88_18 : decode cJ13_bitCount_95d88 18 = .ok (.ldc2_w 316, 3) := by decide +kernel
theorem dJ13_bitCount_95d88_21 : decode cJ13_bitCount_95d88 21 = .ok (.land, 1) := by decide +kernel
theorem dJ13_bitCount_95d88_22 : decode cJ13_bitCount_95d88 22 = .ok (.ladd, 1) := by decide +kernel
theorem dJ13_bitCount_95d88_23 : decode cJ13_bitCount_95d88 23 = .ok (.lstore_n 0, 1) := by decide +kernel
theorem dJ13_bitCount_95d88_24 : decode cJ13_bitCount_95d88 24 = .ok (.lload_n 0, 1) := by decide +kernel
theorem dJ13_bitCount_95d88_25 : decode cJ13_bitCount_95d88 25 = .ok (.lload_n 0, 1) := by decide +kernel
theorem dJ13_bitCount_95d88_26 : decode cJ13_bitCount_95d88 26 = .ok (.iconst 4, 1) := by decide +kernel
theorem dJ13_bitCount_95d88_27 : decode cJ13_bitCount_95d88 27 = .ok (.lushr, 1) := by decide +kernel
theorem dJ13_bitCount_95d88_28 : decode cJ13_bitCount_95d88 28 = .ok (.ladd, 1) := by decide +kernel
theorem dJ13_bitCount_95d88_29 : decode cJ13_bitCount_95d88 29 = .ok (.ldc2_w 318, 3) := by decide +kernel
theorem dJ13_bitCount_95d88_32 : decode cJ13_bitCount_95d88 32 = .ok (.land, 1) := by decide +kernel
theorem dJ13_bitCount_95d88_33 : decode cJ13_bitCount_95d88 33 = .ok (.lstore_n 0, 1) := by decide +kernel
theorem dJ13_bitCount_95d88_34 : decode cJ13_bitCount_95d88 34 = .ok (.lload_n 0, 1) := by decide +kernel
theorem dJ13_bitCount_95d88_35 : decode cJ13_bitCount_95d88 35 = .ok (.lload_n 0, 1) := by decide +kernel
theorem dJ13_bitCount_95d88_36 : decode cJ13_bitCount_95d88 36 = .ok (.bipush 8, 2) := by decide +kernel
theorem dJ13_bitCount_95d88_38 : decode cJ13_bitCount_95d88 38 = .ok (.lushr, 1) := by decide +kernel
theorem dJ13_bitCount_95d88_39 : decode cJ13_bitCount_95d88 39 = .ok (.ladd, 1) := by decide +kernel
theorem dJ13_bitCount_95d88_40 : decode cJ13_bitCount_95d88 40 = .ok (.lstore_n 0, 1) := by decide +kernel
theorem dJ13_bitCount_95d88_41 : decode cJ13_bitCount_95d88 41 = .ok (.lload_n 0, 1) := by decide +kernel
theorem dJ13_bitCount_95d88_42 : decode cJ13_bitCount_95d88 42 = .ok (.lload_n 0, 1) := by decide +kernel
theorem dJ13_bitCount_95d88_43 : decode cJ13_bitCount_95d88 43 = .ok (.bipush 16, 2) := by decide +kernel
theorem dJ13_bitCount_95d88_45 : decode cJ13_bitCount_95d88 45 = .ok (.lushr, 1) := by decide +kernel
theorem dJ13_bitCount_95d88_46 : decode cJ13_bitCount_95d88 46 = .ok (.ladd, 1) := by decide +kernel
theorem dJ13_bitCount_95d88_47 : decode cJ13_bitCount_95d88 47 = .ok (.lstore_n 0, 1) := by decide +kernel
theorem dJ13_bitCount_95d88_48 : decode cJ13_bitCount_95d88 48 = .ok (.lload_n 0, 1) := by decide +kernel
theorem dJ13_bitCount_95d88_49 : decode cJ13_bitCount_95d88 49 = .ok (.lload_n 0, 1) := by decide +kernel
theorem dJ13_bitCount_95d88_50 : decode cJ13_bitCount_95d88 50 = .ok (.bipush 32, 2) := by decide +kernel
theorem dJ13_bitCount_95d88_52 : decode cJ13_bitCount_95d88 52 = .ok (.lushr, 1) := by decide +kernel
theorem dJ13_bitCount_95d88_53 : decode cJ13_bitCount_95d88 53 = .ok (.ladd, 1) := by decide +kernel
theorem dJ13_bitCount_95d88_54 : decode cJ13_bitCount_95d88 54 = .ok (.lstore_n 0, 1) := by decide +kernel
theorem dJ13_bitCount_95d88_55 : decode cJ13_bitCount_95d88 55 = .ok (.lload_n 0, 1) := by decide +kernel
theorem dJ13_bitCount_95d88_56 : decode cJ13_bitCount_95d88 56 = .ok (.l2i, 1) := by decide +kernel
theorem dJ13_bitCount_95d88_57 : decode cJ13_bitCount_95d88 57 = .ok (.bipush 127, 2) := by decide +kernel
theorem dJ13_bitCount_95d88_59 : decode cJ13_bitCount_95d88 59 = .ok (.iand, 1) := by decide +kernel
theorem dJ13_bitCount_95d88_60 : decode cJ13_bitCount_95d88 60 = .ok (.ireturn, 1) := by decide +kernel
theorem dX1_standingCells_0 : decode cX1_standingCells 0 = .ok (.lconst 0, 1) := by decide +kernel
theorem dX1_standingCells_1 : decode cX1_standingCells 1 = .ok (.lstore_n 1, 1) := by decide +kernel
theorem dX1_standingCells_2 : decode cX1_standingCells 2 = .ok (.iconst 0, 1) := by decide +kernel
theorem dX1_standingCells_3 : decode cX1_standingCells 3 = .ok (.istore_n 3, 1) := by decide +kernel
theorem dX1_standingCells_4 : decode cX1_standingCells 4 = .ok (.iload_n 3, 1) := by decide +kernel
theorem dX1_standingCells_5 : decode cX1_standingCells 5 = .ok (.aload_n 0, 1) := by decide +kernel
theorem dX1_standingCells_6 : decode cX1_standingCells 6 = .ok (.getfield 58, 3) := by decide +kernel
theorem dX1_standingCells_9 : decode cX1_standingCells 9 = .ok (.if_icmp .ge 30, 3) := by decide +kernel
theorem dX1_standingCells_39 : decode cX1_standingCells 39 = .ok (.lload_n 1, 1) := by decide +kernel
theorem dX1_standingCells_40 : decode cX1_standingCells 40 = .ok (.lreturn, 1) := by decide +kernel
theorem dX1_standingIn_0 : decode cX1_standingIn 0 = .ok (.aload_n 0, 1) := by decide +kernel
theorem dX1_standingIn_1 : decode cX1_standingIn 1 = .ok (.invokevirtual 77, 3) := by decide +kernel
theorem dX1_standingIn_4 : decode cX1_standingIn 4 = .ok (.lload_n 1, 1) := by decide +kernel
theorem dX1_standingIn_5 : decode cX1_standingIn 5 = .ok (.land, 1) := by decide +kernel
theorem dX1_standingIn_6 : decode cX1_standingIn 6 = .ok (.invokestatic 81, 3) := by decide +kernel
theorem dX1_standingIn_9 : decode cX1_standingIn 9 = .ok (.ireturn, 1) := by decide +kernel
theorem dX8_present_0 : decode cX8_present 0 = .ok (.iconst 0, 1) := by decide +kernel
theorem dX8_present_1 : decode cX8_present 1 = .ok (.istore_n 1, 1) := by decide +kernel
theorem dX8_present_2 : decode cX8_present 2 = .ok (.iconst 0, 1) := by decide +kernel
theorem dX8_present_3 : decode cX8_present 3 = .ok (.istore_n 2, 1) := by decide +kernel
theorem dX8_present_4 : decode cX8_present 4 = .ok (.iload_n 2, 1) := by decide +kernel
theorem dX8_present_5 : decode cX8_present 5 = .ok (.aload_n 0, 1) := by decide +kernel
theorem dX8_present_6 : decode cX8_present 6 = .ok (.getfield 22, 3) := by decide +kernel
theorem dX8_present_9 : decode cX8_present 9 = .ok (.if_icmp .ge 20, 3) := by decide +kernel
theorem dX8_present_12 : decode cX8_present 12 = .ok (.aload_n 0, 1) := by decide +kernel
theorem dX8_present_13 : decode cX8_present 13 = .ok (.iload_n 2, 1) := by decide +kernel
theorem dX8_present_14 : decode cX8_present 14 = .ok (.invokevirtual 47, 3) := by decide +kernel
theorem dX8_present_17 : decode cX8_present 17 = .ok (.ifCond .eq 6, 3) := by decide +kernel
theorem dX8_present_23 : decode cX8_present 23 = .ok (.iinc 2 1, 3) := by decide +kernel
theorem dX8_present_26 : decode cX8_present 26 = .ok (.goto (-22), 3) := by decide +kernel
theorem dX8_present_29 : decode cX8_present 29 = .ok (.iload_n 1, 1) := by decide +kernel
theorem dX8_present_30 : decode cX8_present 30 = .ok (.ireturn, 1) := by decide +kernel
theorem dX11_count_0 : decode cX11_count 0 = .ok (.iload_n 1, 1) := by decide +kernel
theorem dX11_count_1 : decode cX11_count 1 = .ok (.tableswitch 135 0 9 #[55, 60, 71, 79, 87, 95, 103, 111, 119, 127], 55) := by decide +kernel
theorem dX11_count_56 : decode cX11_count 56 = .ok (.aload_n 0, 1) := by decide +kernel
theorem dX11_count_57 : decode cX11_count 57 = .ok (.getfield 136, 3) := by decide +kernel
theorem dX11_count_60 : decode cX11_count 60 = .ok (.ireturn, 1) := by decide +kernel
theorem dX11_count_61 : decode cX11_count 61 = .ok (.aload_n 0, 1) := by decide +kernel
theorem dX11_count_62 : decode cX11_count 62 = .ok (.getfield 33, 3) := by decide +kernel
theorem dX11_count_65 : decode cX11_count 65 = .ok (.ldc2_w 387, 3) := by decide +kernel
theorem dX11_count_68 : decode cX11_count 68 = .ok (.invokevirtual 278, 3) := by decide +kernel
theorem dX11_count_71 : decode cX11_count 71 = .ok (.ireturn, 1) := by decide +kernel
theorem dX11_count_72 : decode cX11_count 72 = .ok (.aload_n 0, 1) := by decide +kernel
theorem dX11_count_73 : decode cX11_count 73 = .ok (.getfield 40, 3) := by decide +kernel
theorem dX11_count_76 : decode cX11_count 76 = .ok (.invokevirtual 190, 3) := by decide +kernel
theorem dX11_count_79 : decode cX11_count 79 = .ok (.ireturn, 1) := by decide +kernel
theorem dX11_count_80 : decode cX11_count 80 = .ok (.aload_n 0, 1) := by decide +kernel
theorem dX11_count_81 : decode cX11_count 81 = .ok (.getfield 40, 3) := by decide +kernel
theorem dX11_count_84 : decode cX11_count 84 = .ok (.invokevirtual 468, 3) := by decide +kernel
theorem dX11_count_87 : decode cX11_count 87 = .ok (.ireturn, 1) := by decide +kernel
theorem dX11_count_88 : decode cX11_count 88 = .ok (.aload_n 0, 1) := by decide +kernel
theorem dX11_count_89 : decode cX11_count 89 = .ok (.getfield 45, 3) := by decide +kernel
theorem dX11_count_92 : decode cX11_count 92 = .ok (.invokevirtual 205, 3) := by decide +kernel
theorem dX11_count_95 : decode cX11_count 95 = .ok (.ireturn, 1) := by decide +kernel
theorem dX11_count_96 : decode cX11_count 96 = .ok (.aload_n 0, 1) := by decide +kernel
theorem dX11_count_97 : decode cX11_count 97 = .ok (.getfield 52, 3) := by decide +kernel
theorem dX11_count_100 : decode cX11_count 100 = .ok (.invokevirtual 218, 3) := by decide +kernel
theorem dX11_count_103 : decode cX11_count 103 = .ok (.ireturn, 1) := by decide +kernel
theorem dX11_count_104 : decode cX11_count 104 = .ok (.aload_n 0, 1) := by decide +kernel
theorem dX11_count_105 : decode cX11_count 105 = .ok (.getfield 59, 3) := by decide +kernel
theorem dX11_count_108 : decode cX11_count 108 = .ok (.invokevirtual 341, 3) := by decide +kernel
theorem dX11_count_111 : decode cX11_count 111 = .ok (.ireturn, 1) := by decide +kernel
theorem dX11_count_112 : decode cX11_count 112 = .ok (.aload_n 0, 1) := by decide +kernel
theorem dX11_count_113 : decode cX11_count 113 = .ok (.getfield 33, 3) := by decide +kernel
theorem dX11_count_116 : decode cX11_count 116 = .ok (.invokevirtual 471, 3) := by decide +kernel
theorem dX11_count_119 : decode cX11_count 119 = .ok (.ireturn, 1) := by decide +kernel
theorem dX11_count_120 : decode cX11_count 120 = .ok (.aload_n 0, 1) := by decide +kernel
theorem dX11_count_121 : decode cX11_count 121 = .ok (.getfield 12, 3) := by decide +kernel
theorem dX11_count_124 : decode cX11_count 124 = .ok (.invokevirtual 474, 3) := by decide +kernel
theorem dX11_count_127 : decode cX11_count 127 = .ok (.ireturn, 1) := by decide +kernel
theorem dX11_count_128 : decode cX11_count 128 = .ok (.aload_n 0, 1) := by decide +kernel
theorem dX11_count_129 : decode cX11_count 129 = .ok (.getfield 20, 3) := by decide +kernel
theorem dX11_count_132 : decode cX11_count 132 = .ok (.invokevirtual 474, 3) := by decide +kernel
theorem dX11_count_135 : decode cX11_count 135 = .ok (.ireturn, 1) := by decide +kernel
theorem dX11_count_136 : decode cX11_count 136 = .ok (.iconst (-1), 1) := by decide +kernel
theorem dX11_count_137 : decode cX11_count 137 = .ok (.ireturn, 1) := by decide +kernel
theorem dX12_counts_0 : decode cX12_counts 0 = .ok (.iconst 0, 1) := by decide +kernel
theorem dX12_counts_1 : decode cX12_counts 1 = .ok (.istore_n 2, 1) := by decide +kernel
theorem dX12_counts_2 : decode cX12_counts 2 = .ok (.iload_n 1, 1) := by decide +kernel
theorem dX12_counts_3 : decode cX12_counts 3 = .ok (.tableswitch 182 0 8 #[49, 54, 89, 94, 129, 134, 139, 144, 149], 49) := by decide +kernel
theorem dX12_counts_52 : decode cX12_counts 52 = .ok (.aload_n 0, 1) := by decide +kernel
theorem dX12_counts_53 : decode cX12_counts 53 = .ok (.getfield 229, 3) := by decide +kernel
theorem dX12_counts_56 : decode cX12_counts 56 = .ok (.ireturn, 1) := by decide +kernel
theorem dX12_counts_57 : decode cX12_counts 57 = .ok (.iconst 0, 1) := by decide +kernel
theorem dX12_counts_58 : decode cX12_counts 58 = .ok (.istore_n 3, 1) := by decide +kernel
theorem dX12_counts_59 : decode cX12_counts 59 = .ok (.iload_n 3, 1) := by decide +kernel
theorem dX12_counts_60 : decode cX12_counts 60 = .ok (.aload_n 0, 1) := by decide +kernel
theorem dX12_counts_61 : decode cX12_counts 61 = .ok (.getfield 254, 3) := by decide +kernel
theorem dX12_counts_64 : decode cX12_counts 64 = .ok (.if_icmp .ge 26, 3) := by decide +kernel
theorem dX12_counts_90 : decode cX12_counts 90 = .ok (.iload_n 2, 1) := by decide +kernel
theorem dX12_counts_91 : decode cX12_counts 91 = .ok (.ireturn, 1) := by decide +kernel
theorem dX12_counts_92 : decode cX12_counts 92 = .ok (.aload_n 0, 1) := by decide +kernel
theorem dX12_counts_93 : decode cX12_counts 93 = .ok (.getfield 281, 3) := by decide +kernel
theorem dX12_counts_96 : decode cX12_counts 96 = .ok (.ireturn, 1) := by decide +kernel
theorem dX12_counts_97 : decode cX12_counts 97 = .ok (.iconst 0, 1) := by decide +kernel
theorem dX12_counts_98 : decode cX12_counts 98 = .ok (.istore_n 3, 1) := by decide +kernel
theorem dX12_counts_99 : decode cX12_counts 99 = .ok (.iload_n 3, 1) := by decide +kernel
theorem dX12_counts_100 : decode cX12_counts 100 = .ok (.aload_n 0, 1) := by decide +kernel
theorem dX12_counts_101 : decode cX12_counts 101 = .ok (.getfield 281, 3) := by decide +kernel
theorem dX12_counts_104 : decode cX12_counts 104 = .ok (.if_icmp .ge 26, 3) := by decide +kernel
theorem dX12_counts_130 : decode cX12_counts 130 = .ok (.iload_n 2, 1) := by decide +kernel
theorem dX12_counts_131 : decode cX12_counts 131 = .ok (.ireturn, 1) := by decide +kernel
theorem dX12_counts_132 : decode cX12_counts 132 = .ok (.aload_n 0, 1) := by decide +kernel
theorem dX12_counts_133 : decode cX12_counts 133 = .ok (.getfield 241, 3) := by decide +kernel
theorem dX12_counts_136 : decode cX12_counts 136 = .ok (.ireturn, 1) := by decide +kernel
theorem dX12_counts_137 : decode cX12_counts 137 = .ok (.aload_n 0, 1) := by decide +kernel
theorem dX12_counts_138 : decode cX12_counts 138 = .ok (.getfield 305, 3) := by decide +kernel
theorem dX12_counts_141 : decode cX12_counts 141 = .ok (.ireturn, 1) := by decide +kernel
theorem dX12_counts_142 : decode cX12_counts 142 = .ok (.aload_n 0, 1) := by decide +kernel
theorem dX12_counts_143 : decode cX12_counts 143 = .ok (.getfield 368, 3) := by decide +kernel
theorem dX12_counts_146 : decode cX12_counts 146 = .ok (.ireturn, 1) := by decide +kernel
theorem dX12_counts_147 : decode cX12_counts 147 = .ok (.aload_n 0, 1) := by decide +kernel
theorem dX12_counts_148 : decode cX12_counts 148 = .ok (.getfield 263, 3) := by decide +kernel
theorem dX12_counts_151 : decode cX12_counts 151 = .ok (.ireturn, 1) := by decide +kernel
theorem dX12_counts_152 : decode cX12_counts 152 = .ok (.iconst 0, 1) := by decide +kernel
theorem dX12_counts_153 : decode cX12_counts 153 = .ok (.istore_n 3, 1) := by decide +kernel
theorem dX12_counts_154 : decode cX12_counts 154 = .ok (.iload_n 3, 1) := by decide +kernel
theorem dX12_counts_155 : decode cX12_counts 155 = .ok (.bipush 6, 2) := by decide +kernel
theorem dX12_counts_157 : decode cX12_counts 157 = .ok (.if_icmp .ge 26, 3) := by decide +kernel
theorem dX12_counts_160 : decode cX12_counts 160 = .ok (.iload_n 2, 1) := by decide +kernel
theorem dX12_counts_161 : decode cX12_counts 161 = .ok (.aload_n 0, 1) := by decide +kernel
theorem dX12_counts_162 : decode cX12_counts 162 = .ok (.getfield 13, 3) := by decide +kernel
theorem dX12_counts_165 : decode cX12_counts 165 = .ok (.iload_n 3, 1) := by decide +kernel
theorem dX12_counts_166 : decode cX12_counts 166 = .ok (.iaload, 1) := by decide +kernel
theorem dX12_counts_167 : decode cX12_counts 167 = .ok (.ifCond .lt 7, 3) := by decide +kernel
theorem dX12_counts_174 : decode cX12_counts 174 = .ok (.iconst 0, 1) := by decide +kernel
theorem dX12_counts_175 : decode cX12_counts 175 = .ok (.iadd, 1) := by decide +kernel
theorem dX12_counts_176 : decode cX12_counts 176 = .ok (.istore_n 2, 1) := by decide +kernel
theorem dX12_counts_177 : decode cX12_counts 177 = .ok (.iinc 3 1, 3) := by decide +kernel
theorem dX12_counts_180 : decode cX12_counts 180 = .ok (.goto (-26), 3) := by decide +kernel
theorem dX12_counts_183 : decode cX12_counts 183 = .ok (.iload_n 2, 1) := by decide +kernel
theorem dX12_counts_184 : decode cX12_counts 184 = .ok (.ireturn, 1) := by decide +kernel
theorem dX12_counts_185 : decode cX12_counts 185 = .ok (.iconst 0, 1) := by decide +kernel
theorem dX12_counts_186 : decode cX12_counts 186 = .ok (.istore_n 3, 1) := by decide +kernel
theorem dX12_counts_187 : decode cX12_counts 187 = .ok (.iload_n 3, 1) := by decide +kernel
theorem dX12_counts_188 : decode cX12_counts 188 = .ok (.iconst 4, 1) := by decide +kernel
theorem dX12_counts_189 : decode cX12_counts 189 = .ok (.if_icmp .ge 26, 3) := by decide +kernel
theorem dX12_counts_192 : decode cX12_counts 192 = .ok (.iload_n 2, 1) := by decide +kernel
theorem dX12_counts_193 : decode cX12_counts 193 = .ok (.aload_n 0, 1) := by decide +kernel
theorem dX12_counts_194 : decode cX12_counts 194 = .ok (.getfield 22, 3) := by decide +kernel
theorem dX12_counts_197 : decode cX12_counts 197 = .ok (.iload_n 3, 1) := by decide +kernel
theorem dX12_counts_198 : decode cX12_counts 198 = .ok (.iaload, 1) := by decide +kernel
theorem dX12_counts_199 : decode cX12_counts 199 = .ok (.ifCond .lt 7, 3) := by decide +kernel
theorem dX12_counts_206 : decode cX12_counts 206 = .ok (.iconst 0, 1) := by decide +kernel
theorem dX12_counts_207 : decode cX12_counts 207 = .ok (.iadd, 1) := by decide +kernel
theorem dX12_counts_208 : decode cX12_counts 208 = .ok (.istore_n 2, 1) := by decide +kernel
theorem dX12_counts_209 : decode cX12_counts 209 = .ok (.iinc 3 1, 3) := by decide +kernel
theorem dX12_counts_212 : decode cX12_counts 212 = .ok (.goto (-25), 3) := by decide +kernel
theorem dX12_counts_215 : decode cX12_counts 215 = .ok (.iload_n 2, 1) := by decide +kernel
theorem dX12_counts_216 : decode cX12_counts 216 = .ok (.ireturn, 1) := by decide +kernel
theorem dX12_count_0 : decode cX12_count 0 = .ok (.iload_n 1, 1) := by decide +kernel
theorem dX12_count_1 : decode cX12_count 1 = .ok (.iconst 0, 1) := by decide +kernel
theorem dX12_count_2 : decode cX12_count 2 = .ok (.bipush 9, 2) := by decide +kernel
theorem dX12_count_4 : decode cX12_count 4 = .ok (.invokestatic 208, 3) := by decide +kernel
theorem dX12_count_7 : decode cX12_count 7 = .ok (.ifCond .eq 11, 3) := by decide +kernel
theorem dX12_count_18 : decode cX12_count 18 = .ok (.iconst (-1), 1) := by decide +kernel
theorem dX12_count_19 : decode cX12_count 19 = .ok (.ireturn, 1) := by decide +kernel
theorem dX12_count_10 : decode cX12_count 10 = .ok (.aload_n 0, 1) := by decide +kernel
theorem dX12_count_11 : decode cX12_count 11 = .ok (.iload_n 1, 1) := by decide +kernel
theorem dX12_count_12 : decode cX12_count 12 = .ok (.invokevirtual 443, 3) := by decide +kernel
theorem dX12_count_15 : decode cX12_count 15 = .ok (.goto 4, 3) := by decide +kernel
theorem ok_X7_valueFor : okM yX7_valueFor cX7_valueFor 5 (some .int) 3 := ⟨q_774, q_96, by decide +kernel, by decide +kernel, by decide +kernel⟩
theorem okv_X7_valueFor : okV yX7_valueFor := ⟨q_772, q_773⟩
theorem ok_X12_inForce : okM yX12_inForce cX12_inForce 5 (some .int) 3 := ⟨q_1775, q_103, by decide +kernel, by decide +kernel, by decide +kernel⟩
theorem okv_X12_inForce : okV yX12_inForce := ⟨q_1774, q_41⟩
theorem ok_X1_standingCells : okM yX1_standingCells cX1_standingCells 4 (some .long) 0 := ⟨q_933, q_94, by decide +kernel, by decide +kernel, by decide +kernel⟩
theorem okv_X1_standingCells : okV yX1_standingCells := ⟨q_931, q_932⟩
theorem ok_J13_bitCount_95d88 : okM yJ13_bitCount_95d88 cJ13_bitCount_95d88 2 (some .int) 1 := ⟨q_937, q_105, by decide +kernel, by decide +kernel, by decide +kernel⟩
theorem ok_X1_standingIn : okM yX1_standingIn cX1_standingIn 3 (some .int) 1 := ⟨q_929, q_94, by decide +kernel, by decide +kernel, by decide +kernel⟩
theorem okv_X1_standingIn : okV yX1_standingIn := ⟨q_927, q_928⟩
theorem ok_X5_homeless : okM yX5_homeless cX5_homeless 3 (some .int) 0 := ⟨q_1400, q_95, by decide +kernel, by decide +kernel, by decide +kernel⟩
theorem okv_X5_homeless : okV yX5_homeless := ⟨q_1398, q_1399⟩
theorem ok_X2_buys : okM yX2_buys cX2_buys 1 (some .int) 0 := ⟨q_1073, q_98, by decide +kernel, by decide +kernel, by decide +kernel⟩
theorem okv_X2_buys : okV yX2_buys := ⟨q_1071, q_1072⟩
theorem ok_X1_tellings : okM yX1_tellings cX1_tellings 1 (some .int) 0 := ⟨q_1404, q_94, by decide +kernel, by decide +kernel, by decide +kernel⟩
theorem okv_X1_tellings : okV yX1_tellings := ⟨q_1402, q_1403⟩
theorem ok_X8_present : okM yX8_present cX8_present 3 (some .int) 0 := ⟨q_1408, q_90, by decide +kernel, by decide +kernel, by decide +kernel⟩
theorem okv_X8_present : okV yX8_present := ⟨q_1406, q_1407⟩
theorem ok_X12_counts : okM yX12_counts cX12_counts 4 (some .int) 1 := ⟨q_2137, q_103, by decide +kernel, by decide +kernel, by decide +kernel⟩
theorem okv_X12_counts : okV yX12_counts := ⟨q_2136, q_85⟩
def sp_X7_valueFor (g : GG) (h0 : Nat) (l0 : Int32) (d0 : Int32) (k0 : Int32) (h0a0 : Nat) (h0a1 : Nat) (h0a2 : Nat) : Int32 × va_W := (def8v l0, [(h0, .inr (7, [.ref h0a0, .ref h0a1, .ref h0a2, .int 0]))])
set_option maxHeartbeats 4000000 in
set_option maxRecDepth 100000 in
theorem c_X7_valueFor (l : Launch) (g : GG) (h0 : Nat) (l0 : Int32) (d0 : Int32) (k0 : Int32) (h0a0 : Nat) (h0a1 : Nat) (h0a2 : Nat) (hl0 : ¬ (l0 < 0)) (hl8 : ¬ (8 ≤ l0)) : MI l g yX7_valueFor cX7_valueFor 5 (some .int) 1 25 0 0 [(h0, .inr (7, [.ref h0a0, .ref h0a1, .ref h0a2, .int 0]))] [.ref h0, .int l0, .int d0, .int k0] (fun rr_ ww_ => (rr_, ww_) = sp_X7_valueFor g h0 l0 d0 k0 h0a0 h0a1 h0a2) := by
  refine met_of (fun A => va_Qi _ (bW g A) A) (by decide) (Nat.le_of_ble_eq_true rfl) ?_
  intro p e s m below meth c A ls X hK hP hD hA hZ hS hl
  have hx := X.1
  have hb := X.2.1
  have hml := X.2.2.1
  have hown := X.2.2.2.1
  have hts := X.2.2.2.2.1
  have hnm := X.2.2.2.2.2.2.2
  have hl : lv_has ls 5 [(0, .ref h0), (1, .int l0), (2, .int d0), (3, .int k0)] := hl
  refine lv_aload_n hx hb dX7_valueFor_0 rfl (lv_at hl 0 rfl) ?_
  refine lv_iload_n hx hb dX7_valueFor_1 rfl (lv_at hl 1 rfl) ?_
  refine lv_iload_n hx hb dX7_valueFor_2 rfl (lv_at hl 2 rfl) ?_
  refine lv_iload_n hx hb dX7_valueFor_3 rfl (lv_at hl 3 rfl) ?_
  refine kVi (As := [.int l0, .int d0, .int k0]) (rest := []) (wr := []) X (c_X7_deciding l g h0 l0 d0 k0 h0a0 h0a1 h0a2) ok_X7_deciding okv_X7_deciding q_775 rfl hK hP hD hS hA hZ hl.1 [0] [] rfl rfl rfl rfl rfl 0 7 rfl rfl rfl (Nat.le_of_ble_eq_true rfl) ⟨Nat.le_of_ble_eq_true rfl, Nat.le_of_ble_eq_true rfl⟩ dX7_valueFor_4 ⟨Nat.le_of_ble_eq_true rfl, Nat.le_of_ble_eq_true rfl⟩ (fun r_1 w1 H locs hw_2 hP hD hS => ?_)
  rw [sp_X7_deciding] at hw_2
  obtain ⟨e1, e2⟩ := Prod.mk.inj hw_2
  subst e1; subst e2
  have hP : va_P g.1 classes [(h0, .inr (7, [.ref h0a0, .ref h0a1, .ref h0a2, .int 0]))] H := hP
  have hD : va_D A [(h0, .inr (7, [.ref h0a0, .ref h0a1, .ref h0a2, .int 0]))] := hD
  refine lv_istore (lv' := [(4, .int (-9)), (0, .ref h0), (1, .int l0), (2, .int d0), (3, .int k0)]) hx hb dX7_valueFor_7 hl (by decide) rfl (fun ls hl => ?_)
  refine lv_iload hx hb dX7_valueFor_9 (lv_at hl 0 rfl) ?_
  refine lv_bipush (v := (-9)) hx hb dX7_valueFor_11 (by decide) ?_
  refine lv_icmp_ne (tgt := 24) hx hb dX7_valueFor_13 (by decide) (fun c_3 => absurd (by decide) c_3) (fun _ => ?_)
  refine va_gets hx hb hZ.2.1 hS hown (hts _ q_779) (fun _ h9 => h9) dX7_valueFor_16 ?_
  refine lv_iload_n hx hb dX7_valueFor_19 rfl (lv_at hl 2 rfl) ?_
  refine va_ti hx hb hZ.2.2 hS (vp_in_iff.mpr (by simp only [i32lt, i32le, i32eq, Int32.reduceToInt] at hl0 hl8; omega)) (v := .int (def8v l0)) rfl dX7_valueFor_20 ?_
  refine lv_goto (tgt := 36) hx hb dX7_valueFor_21 (by decide) ?_
  exact rI X hK hP hD hS dX7_valueFor_36 (by rfl) (Nat.le_of_ble_eq_true rfl) (Nat.le_of_ble_eq_true rfl) (by show ((_, _) : Int32 × va_W) = _; unfold sp_X7_valueFor; try rfl)
def sp_X11_force (g : GG) (x0 : Nat) (l0 : Int32) (d0 : Int32) (k0 : Int32) (xr : Nat) (xt : Nat) (xg : Nat) (xb : Nat) (xp : Nat) (xu : Nat) (xm : Nat) (xd : Nat) (xw : Nat) (xh : Nat) (xa : Nat) (xs : Nat) (xf : Nat) (xua0 : Nat) (xua1 : Nat) (xua2 : Nat) : Int32 := if l0 < 0 then (-1) else (if 8 ≤ l0 then (-1) else (if d0 < 0 then (-1) else (if 999 < d0 then (-1) else (if k0 < 0 then (-1) else (if 999 < k0 then (-1) else (def8v l0))))))
set_option maxHeartbeats 4000000 in
set_option maxRecDepth 100000 in
theorem c_X11_force (l : Launch) (g : GG) (x0 : Nat) (l0 : Int32) (d0 : Int32) (k0 : Int32) (xr : Nat) (xt : Nat) (xg : Nat) (xb : Nat) (xp : Nat) (xu : Nat) (xm : Nat) (xd : Nat) (xw : Nat) (xh : Nat) (xa : Nat) (xs : Nat) (xf : Nat) (xua0 : Nat) (xua1 : Nat) (xua2 : Nat) : MI l g yX11_force cX11_force 4 (some .int) 2 49 0 0 [(x0, .inr (11, [.ref xr, .ref xt, .ref xg, .ref xb, .ref xp, .ref xu, .ref xm, .ref xd, .ref xw, .ref xh, .ref xa, .ref xs, .ref xf, .int 0, .int 0, .long 0, .long 0, .int 0])), (xu, .inr (7, [.ref xua0, .ref xua1, .ref xua2, .int 0]))] [.ref x0, .int l0, .int d0, .int k0] (fun rr_ _ => rr_ = sp_X11_force g x0 l0 d0 k0 xr xt xg xb xp xu xm xd xw xh xa xs xf xua0 xua1 xua2) := by
  refine met_of (fun A => va_Qi _ (bW g A) A) (by decide) (Nat.le_of_ble_eq_true rfl) ?_
  intro p e s m below meth c A ls X hK hP hD hA hZ hS hl
  have hx := X.1
  have hb := X.2.1
  have hml := X.2.2.1
  have hown := X.2.2.2.1
  have hts := X.2.2.2.2.1
  have hnm := X.2.2.2.2.2.2.2
  have hl : lv_has ls 4 [(0, .ref x0), (1, .int l0), (2, .int d0), (3, .int k0)] := hl
  refine lv_iload_n hx hb dX11_force_0 rfl (lv_at hl 1 rfl) ?_
  refine kSi (As := [.int l0]) (rest := []) (wr := [(x0, .inr (11, [.ref xr, .ref xt, .ref xg, .ref xb, .ref xp, .ref xu, .ref xm, .ref xd, .ref xw, .ref xh, .ref xa, .ref xs, .ref xf, .int 0, .int 0, .long 0, .long 0, .int 0])), (xu, .inr (7, [.ref xua0, .ref xua1, .ref xua2, .int 0]))]) X (c_X7_isLetter l g l0) ok_X7_isLetter q_769 q_768 rfl hK hP hD hS hA hZ hl.1 [] [0, 1] rfl rfl rfl rfl rfl rfl (Nat.le_of_ble_eq_true rfl) ⟨Nat.le_of_ble_eq_true rfl, Nat.le_of_ble_eq_true rfl⟩ dX11_force_1 ⟨Nat.le_of_ble_eq_true rfl, Nat.le_of_ble_eq_true rfl⟩ (fun r_1 w1 H locs hw_2 hP hD hS => ?_)
  rw [sp_X7_isLetter] at hw_2
  rcases Classical.em (l0 < 0) with c_3 | c_3
  ·
    rw [if_pos c_3] at hw_2
    obtain ⟨e1, e2⟩ := Prod.mk.inj hw_2
    subst e1; subst e2
    have hP : va_P g.1 classes [(x0, .inr (11, [.ref xr, .ref xt, .ref xg, .ref xb, .ref xp, .ref xu, .ref xm, .ref xd, .ref xw, .ref xh, .ref xa, .ref xs, .ref xf, .int 0, .int 0, .long 0, .long 0, .int 0])), (xu, .inr (7, [.ref xua0, .ref xua1, .ref xua2, .int 0]))] H := hP
    have hD : va_D A [(x0, .inr (11, [.ref xr, .ref xt, .ref xg, .ref xb, .ref xp, .ref xu, .ref xm, .ref xd, .ref xw, .ref xh, .ref xa, .ref xs, .ref xf, .int 0, .int 0, .long 0, .long 0, .int 0])), (xu, .inr (7, [.ref xua0, .ref xua1, .ref xua2, .int 0]))] := hD
    refine lv_if_eq (tgt := 21) hx hb dX11_force_4 (by decide) (fun _ => ?_) (fun c_4 => absurd (by decide) c_4)
    refine lv_iconst (v := (-1)) hx hb dX11_force_21 (by decide) ?_
    exact rI X hK hP hD hS dX11_force_22 (by rfl) (Nat.le_of_ble_eq_true rfl) (Nat.le_of_ble_eq_true rfl) (by show _ = _; unfold sp_X11_force; rw [if_pos c_3]; try rfl)
  ·
    rw [if_neg c_3] at hw_2
    rcases Classical.em (8 ≤ l0) with c_5 | c_5
    ·
      rw [if_pos c_5] at hw_2
      obtain ⟨e1, e2⟩ := Prod.mk.inj hw_2
      subst e1; subst e2
      have hP : va_P g.1 classes [(x0, .inr (11, [.ref xr, .ref xt, .ref xg, .ref xb, .ref xp, .ref xu, .ref xm, .ref xd, .ref xw, .ref xh, .ref xa, .ref xs, .ref xf, .int 0, .int 0, .long 0, .long 0, .int 0])), (xu, .inr (7, [.ref xua0, .ref xua1, .ref xua2, .int 0]))] H := hP
      have hD : va_D A [(x0, .inr (11, [.ref xr, .ref xt, .ref xg, .ref xb, .ref xp, .ref xu, .ref xm, .ref xd, .ref xw, .ref xh, .ref xa, .ref xs, .ref xf, .int 0, .int 0, .long 0, .long 0, .int 0])), (xu, .inr (7, [.ref xua0, .ref xua1, .ref xua2, .int 0]))] := hD
      refine lv_if_eq (tgt := 21) hx hb dX11_force_4 (by decide) (fun _ => ?_) (fun c_6 => absurd (by decide) c_6)
      refine lv_iconst (v := (-1)) hx hb dX11_force_21 (by decide) ?_
      exact rI X hK hP hD hS dX11_force_22 (by rfl) (Nat.le_of_ble_eq_true rfl) (Nat.le_of_ble_eq_true rfl) (by show _ = _; unfold sp_X11_force; rw [if_neg c_3, if_pos c_5]; try rfl)
    ·
      rw [if_neg c_5] at hw_2
      obtain ⟨e1, e2⟩ := Prod.mk.inj hw_2
      subst e1; subst e2
      have hP : va_P g.1 classes [(x0, .inr (11, [.ref xr, .ref xt, .ref xg, .ref xb, .ref xp, .ref xu, .ref xm, .ref xd, .ref xw, .ref xh, .ref xa, .ref xs, .ref xf, .int 0, .int 0, .long 0, .long 0, .int 0])), (xu, .inr (7, [.ref xua0, .ref xua1, .ref xua2, .int 0]))] H := hP
      have hD : va_D A [(x0, .inr (11, [.ref xr, .ref xt, .ref xg, .ref xb, .ref xp, .ref xu, .ref xm, .ref xd, .ref xw, .ref xh, .ref xa, .ref xs, .ref xf, .int 0, .int 0, .long 0, .long 0, .int 0])), (xu, .inr (7, [.ref xua0, .ref xua1, .ref xua2, .int 0]))] := hD
      refine lv_if_eq (tgt := 21) hx hb dX11_force_4 (by decide) (fun c_7 => absurd c_7 (by decide)) (fun _ => ?_)
      refine lv_iload_n hx hb dX11_force_7 rfl (lv_at hl 2 rfl) ?_
      refine kSi (As := [.int d0]) (rest := []) (wr := [(x0, .inr (11, [.ref xr, .ref xt, .ref xg, .ref xb, .ref xp, .ref xu, .ref xm, .ref xd, .ref xw, .ref xh, .ref xa, .ref xs, .ref xf, .int 0, .int 0, .long 0, .long 0, .int 0])), (xu, .inr (7, [.ref xua0, .ref xua1, .ref xua2, .int 0]))]) X (c_X11_isDay l g d0) ok_X11_isDay q_685 q_684 rfl hK hP hD hS hA hZ hl.1 [] [0, 1] rfl rfl rfl rfl rfl rfl (Nat.le_of_ble_eq_true rfl) ⟨Nat.le_of_ble_eq_true rfl, Nat.le_of_ble_eq_true rfl⟩ dX11_force_8 ⟨Nat.le_of_ble_eq_true rfl, Nat.le_of_ble_eq_true rfl⟩ (fun r_8 w1 H locs hw_9 hP hD hS => ?_)
      rw [sp_X11_isDay] at hw_9
      rcases Classical.em (d0 < 0) with c_10 | c_10
      ·
        rw [if_pos c_10] at hw_9
        obtain ⟨e1, e2⟩ := Prod.mk.inj hw_9
        subst e1; subst e2
        have hP : va_P g.1 classes [(x0, .inr (11, [.ref xr, .ref xt, .ref xg, .ref xb, .ref xp, .ref xu, .ref xm, .ref xd, .ref xw, .ref xh, .ref xa, .ref xs, .ref xf, .int 0, .int 0, .long 0, .long 0, .int 0])), (xu, .inr (7, [.ref xua0, .ref xua1, .ref xua2, .int 0]))] H := hP
        have hD : va_D A [(x0, .inr (11, [.ref xr, .ref xt, .ref xg, .ref xb, .ref xp, .ref xu, .ref xm, .ref xd, .ref xw, .ref xh, .ref xa, .ref xs, .ref xf, .int 0, .int 0, .long 0, .long 0, .int 0])), (xu, .inr (7, [.ref xua0, .ref xua1, .ref xua2, .int 0]))] := hD
        refine lv_if_eq (tgt := 21) hx hb dX11_force_11 (by decide) (fun _ => ?_) (fun c_11 => absurd (by decide) c_11)
        refine lv_iconst (v := (-1)) hx hb dX11_force_21 (by decide) ?_
        exact rI X hK hP hD hS dX11_force_22 (by rfl) (Nat.le_of_ble_eq_true rfl) (Nat.le_of_ble_eq_true rfl) (by show _ = _; unfold sp_X11_force; rw [if_neg c_3, if_neg c_5, if_pos c_10]; try rfl)
      ·
        rw [if_neg c_10] at hw_9
        rcases Classical.em (999 < d0) with c_12 | c_12
        ·
          rw [if_pos c_12] at hw_9
          obtain ⟨e1, e2⟩ := Prod.mk.inj hw_9
          subst e1; subst e2
          have hP : va_P g.1 classes [(x0, .inr (11, [.ref xr, .ref xt, .ref xg, .ref xb, .ref xp, .ref xu, .ref xm, .ref xd, .ref xw, .ref xh, .ref xa, .ref xs, .ref xf, .int 0, .int 0, .long 0, .long 0, .int 0])), (xu, .inr (7, [.ref xua0, .ref xua1, .ref xua2, .int 0]))] H := hP
          have hD : va_D A [(x0, .inr (11, [.ref xr, .ref xt, .ref xg, .ref xb, .ref xp, .ref xu, .ref xm, .ref xd, .ref xw, .ref xh, .ref xa, .ref xs, .ref xf, .int 0, .int 0, .long 0, .long 0, .int 0])), (xu, .inr (7, [.ref xua0, .ref xua1, .ref xua2, .int 0]))] := hD
          refine lv_if_eq (tgt := 21) hx hb dX11_force_11 (by decide) (fun _ => ?_) (fun c_13 => absurd (by decide) c_13)
          refine lv_iconst (v := (-1)) hx hb dX11_force_21 (by decide) ?_
          exact rI X hK hP hD hS dX11_force_22 (by rfl) (Nat.le_of_ble_eq_true rfl) (Nat.le_of_ble_eq_true rfl) (by show _ = _; unfold sp_X11_force; rw [if_neg c_3, if_neg c_5, if_neg c_10, if_pos c_12]; try rfl)
        ·
          rw [if_neg c_12] at hw_9
          obtain ⟨e1, e2⟩ := Prod.mk.inj hw_9
          subst e1; subst e2
          have hP : va_P g.1 classes [(x0, .inr (11, [.ref xr, .ref xt, .ref xg, .ref xb, .ref xp, .ref xu, .ref xm, .ref xd, .ref xw, .ref xh, .ref xa, .ref xs, .ref xf, .int 0, .int 0, .long 0, .long 0, .int 0])), (xu, .inr (7, [.ref xua0, .ref xua1, .ref xua2, .int 0]))] H := hP
          have hD : va_D A [(x0, .inr (11, [.ref xr, .ref xt, .ref xg, .ref xb, .ref xp, .ref xu, .ref xm, .ref xd, .ref xw, .ref xh, .ref xa, .ref xs, .ref xf, .int 0, .int 0, .long 0, .long 0, .int 0])), (xu, .inr (7, [.ref xua0, .ref xua1, .ref xua2, .int 0]))] := hD
          refine lv_if_eq (tgt := 21) hx hb dX11_force_11 (by decide) (fun c_14 => absurd c_14 (by decide)) (fun _ => ?_)
          refine lv_iload_n hx hb dX11_force_14 rfl (lv_at hl 3 rfl) ?_
          refine kSi (As := [.int k0]) (rest := []) (wr := [(x0, .inr (11, [.ref xr, .ref xt, .ref xg, .ref xb, .ref xp, .ref xu, .ref xm, .ref xd, .ref xw, .ref xh, .ref xa, .ref xs, .ref xf, .int 0, .int 0, .long 0, .long 0, .int 0])), (xu, .inr (7, [.ref xua0, .ref xua1, .ref xua2, .int 0]))]) X (c_X11_isDay l g k0) ok_X11_isDay q_685 q_684 rfl hK hP hD hS hA hZ hl.1 [] [0, 1] rfl rfl rfl rfl rfl rfl (Nat.le_of_ble_eq_true rfl) ⟨Nat.le_of_ble_eq_true rfl, Nat.le_of_ble_eq_true rfl⟩ dX11_force_15 ⟨Nat.le_of_ble_eq_true rfl, Nat.le_of_ble_eq_true rfl⟩ (fun r_15 w1 H locs hw_16 hP hD hS => ?_)
          rw [sp_X11_isDay] at hw_16
          rcases Classical.em (k0 < 0) with c_17 | c_17
          ·
            rw [if_pos c_17] at hw_16
            obtain ⟨e1, e2⟩ := Prod.mk.inj hw_16
            subst e1; subst e2
            have hP : va_P g.1 classes [(x0, .inr (11, [.ref xr, .ref xt, .ref xg, .ref xb, .ref xp, .ref xu, .ref xm, .ref xd, .ref xw, .ref xh, .ref xa, .ref xs, .ref xf, .int 0, .int 0, .long 0, .long 0, .int 0])), (xu, .inr (7, [.ref xua0, .ref xua1, .ref xua2, .int 0]))] H := hP
            have hD : va_D A [(x0, .inr (11, [.ref xr, .ref xt, .ref xg, .ref xb, .ref xp, .ref xu, .ref xm, .ref xd, .ref xw, .ref xh, .ref xa, .ref xs, .ref xf, .int 0, .int 0, .long 0, .long 0, .int 0])), (xu, .inr (7, [.ref xua0, .ref xua1, .ref xua2, .int 0]))] := hD
            refine lv_if_ne (tgt := 23) hx hb dX11_force_18 (by decide) (fun c_18 => absurd (by decide) c_18) (fun _ => ?_)
            refine lv_iconst (v := (-1)) hx hb dX11_force_21 (by decide) ?_
            exact rI X hK hP hD hS dX11_force_22 (by rfl) (Nat.le_of_ble_eq_true rfl) (Nat.le_of_ble_eq_true rfl) (by show _ = _; unfold sp_X11_force; rw [if_neg c_3, if_neg c_5, if_neg c_10, if_neg c_12, if_pos c_17]; try rfl)
          ·
            rw [if_neg c_17] at hw_16
            rcases Classical.em (999 < k0) with c_19 | c_19
            ·
              rw [if_pos c_19] at hw_16
              obtain ⟨e1, e2⟩ := Prod.mk.inj hw_16
              subst e1; subst e2
              have hP : va_P g.1 classes [(x0, .inr (11, [.ref xr, .ref xt, .ref xg, .ref xb, .ref xp, .ref xu, .ref xm, .ref xd, .ref xw, .ref xh, .ref xa, .ref xs, .ref xf, .int 0, .int 0, .long 0, .long 0, .int 0])), (xu, .inr (7, [.ref xua0, .ref xua1, .ref xua2, .int 0]))] H := hP
              have hD : va_D A [(x0, .inr (11, [.ref xr, .ref xt, .ref xg, .ref xb, .ref xp, .ref xu, .ref xm, .ref xd, .ref xw, .ref xh, .ref xa, .ref xs, .ref xf, .int 0, .int 0, .long 0, .long 0, .int 0])), (xu, .inr (7, [.ref xua0, .ref xua1, .ref xua2, .int 0]))] := hD
              refine lv_if_ne (tgt := 23) hx hb dX11_force_18 (by decide) (fun c_20 => absurd (by decide) c_20) (fun _ => ?_)
              refine lv_iconst (v := (-1)) hx hb dX11_force_21 (by decide) ?_
              exact rI X hK hP hD hS dX11_force_22 (by rfl) (Nat.le_of_ble_eq_true rfl) (Nat.le_of_ble_eq_true rfl) (by show _ = _; unfold sp_X11_force; rw [if_neg c_3, if_neg c_5, if_neg c_10, if_neg c_12, if_neg c_17, if_pos c_19]; try rfl)
            ·
              rw [if_neg c_19] at hw_16
              obtain ⟨e1, e2⟩ := Prod.mk.inj hw_16
              subst e1; subst e2
              have hP : va_P g.1 classes [(x0, .inr (11, [.ref xr, .ref xt, .ref xg, .ref xb, .ref xp, .ref xu, .ref xm, .ref xd, .ref xw, .ref xh, .ref xa, .ref xs, .ref xf, .int 0, .int 0, .long 0, .long 0, .int 0])), (xu, .inr (7, [.ref xua0, .ref xua1, .ref xua2, .int 0]))] H := hP
              have hD : va_D A [(x0, .inr (11, [.ref xr, .ref xt, .ref xg, .ref xb, .ref xp, .ref xu, .ref xm, .ref xd, .ref xw, .ref xh, .ref xa, .ref xs, .ref xf, .int 0, .int 0, .long 0, .long 0, .int 0])), (xu, .inr (7, [.ref xua0, .ref xua1, .ref xua2, .int 0]))] := hD
              refine lv_if_ne (tgt := 23) hx hb dX11_force_18 (by decide) (fun _ => ?_) (fun c_21 => absurd c_21 (by decide))
              refine lv_aload_n hx hb dX11_force_23 rfl (lv_at hl 0 rfl) ?_
              refine va_get (D := g.1) (ci := 11) (v := .ref xu) (C := RX11) (T := TX11) (N := 18) hx hb hts fw_X11 hown hK hP 0 rfl rfl 5 (by decide) (hts _ q_463) (fun _ h9 => h9) rfl dX11_force_24 ?_
              refine lv_iload_n hx hb dX11_force_27 rfl (lv_at hl 1 rfl) ?_
              refine lv_iload_n hx hb dX11_force_28 rfl (lv_at hl 2 rfl) ?_
              refine lv_iload_n hx hb dX11_force_29 rfl (lv_at hl 3 rfl) ?_
              refine kVi (As := [.int l0, .int d0, .int k0]) (rest := []) (wr := [(x0, .inr (11, [.ref xr, .ref xt, .ref xg, .ref xb, .ref xp, .ref xu, .ref xm, .ref xd, .ref xw, .ref xh, .ref xa, .ref xs, .ref xf, .int 0, .int 0, .long 0, .long 0, .int 0]))]) X (c_X7_valueFor l g xu l0 d0 k0 xua0 xua1 xua2 c_3 c_5) ok_X7_valueFor okv_X7_valueFor q_771 rfl hK hP hD hS hA hZ hl.1 [1] [0] rfl rfl rfl rfl rfl 0 7 rfl rfl rfl (Nat.le_of_ble_eq_true rfl) ⟨Nat.le_of_ble_eq_true rfl, Nat.le_of_ble_eq_true rfl⟩ dX11_force_30 ⟨Nat.le_of_ble_eq_true rfl, Nat.le_of_ble_eq_true rfl⟩ (fun r_22 w1 H locs hw_23 hP hD hS => ?_)
              rw [sp_X7_valueFor] at hw_23
              obtain ⟨e1, e2⟩ := Prod.mk.inj hw_23
              subst e1; subst e2
              have hP : va_P g.1 classes [(x0, .inr (11, [.ref xr, .ref xt, .ref xg, .ref xb, .ref xp, .ref xu, .ref xm, .ref xd, .ref xw, .ref xh, .ref xa, .ref xs, .ref xf, .int 0, .int 0, .long 0, .long 0, .int 0])), (xu, .inr (7, [.ref xua0, .ref xua1, .ref xua2, .int 0]))] H := hP
              have hD : va_D A [(x0, .inr (11, [.ref xr, .ref xt, .ref xg, .ref xb, .ref xp, .ref xu, .ref xm, .ref xd, .ref xw, .ref xh, .ref xa, .ref xs, .ref xf, .int 0, .int 0, .long 0, .long 0, .int 0])), (xu, .inr (7, [.ref xua0, .ref xua1, .ref xua2, .int 0]))] := hD
              exact rI X hK hP hD hS dX11_force_33 (by rfl) (Nat.le_of_ble_eq_true rfl) (Nat.le_of_ble_eq_true rfl) (by show _ = _; unfold sp_X11_force; rw [if_neg c_3, if_neg c_5, if_neg c_10, if_neg c_12, if_neg c_17, if_neg c_19]; try rfl)
def sp_X12_inForce (g : GG) (m0 : Nat) (l0 : Int32) (d0 : Int32) (k0 : Int32) (m0a1 : Nat) (m0a5 : Nat) (m0a6 : Nat) (m0a7 : Nat) (m0a8 : Nat) (m0a9 : Nat) (m0a11 : Nat) (m0a12 : Nat) (m0a13 : Nat) (m0a14 : Nat) (m0a15 : Nat) (m0a16 : Nat) (m0a18 : Nat) (m0a19 : Nat) (m0a20 : Nat) (m0a21 : Nat) (m0a22 : Nat) (m0a24 : Nat) (m0a25 : Nat) (m0a26 : Nat) (m0a28 : Nat) (m0a29 : Nat) (m0a30 : Nat) (m0a31 : Nat) (m0a33 : Nat) (m0a34 : Nat) (m0a35 : Nat) (m0a36 : Nat) (m0a37 : Nat) (m0a38 : Nat) (m0a39 : Nat) (m0a40 : Nat) (m0a41 : Nat) (m0a42 : Nat) (m0a43 : Nat) (m0a44 : Nat) (m0a45 : Nat) (m0a46 : Nat) (m0a47 : Nat) (m0a49 : Nat) (m0a50 : Nat) (m0a51 : Nat) (m0a53 : Nat) (m0a54 : Nat) (m0a55 : Nat) (m0a56 : Nat) (m0a57 : Nat) (m0a58 : Nat) (m0a59 : Nat) (m0a60 : Nat) (m0a61 : Nat) (m0a62 : Nat) (m0a63 : Nat) (m0a67 : Nat) (m0a68 : Nat) (m0a69 : Nat) (m0a70 : Nat) (m0a71 : Nat) (m0a72 : Nat) (m0a73 : Nat) (m0a74 : Nat) (m0a75 : Nat) : Int32 × va_W := if l0 = 0 then (10, [(m0, .inr (12, [.int 0, .ref m0a1, .int 0, .long 0, .int 0, .ref m0a5, .ref m0a6, .ref m0a7, .ref m0a8, .ref m0a9, .int 0, .ref m0a11, .ref m0a12, .ref m0a13, .ref m0a14, .ref m0a15, .ref m0a16, .int 0, .ref m0a18, .ref m0a19, .ref m0a20, .ref m0a21, .ref m0a22, .int 0, .ref m0a24, .ref m0a25, .ref m0a26, .int 0, .ref m0a28, .ref m0a29, .ref m0a30, .ref m0a31, .int 0, .ref m0a33, .ref m0a34, .ref m0a35, .ref m0a36, .ref m0a37, .ref m0a38, .ref m0a39, .ref m0a40, .ref m0a41, .ref m0a42, .ref m0a43, .ref m0a44, .ref m0a45, .ref m0a46, .ref m0a47, .int 0, .ref m0a49, .ref m0a50, .ref m0a51, .int 0, .ref m0a53, .ref m0a54, .ref m0a55, .ref m0a56, .ref m0a57, .ref m0a58, .ref m0a59, .ref m0a60, .ref m0a61, .ref m0a62, .ref m0a63, .long 0, .int 0, .int (-9), .ref m0a67, .ref m0a68, .ref m0a69, .ref m0a70, .ref m0a71, .ref m0a72, .ref m0a73, .ref m0a74, .ref m0a75, .long 0]))]) else (if l0 = 1 then (20, [(m0, .inr (12, [.int 0, .ref m0a1, .int 0, .long 0, .int 0, .ref m0a5, .ref m0a6, .ref m0a7, .ref m0a8, .ref m0a9, .int 0, .ref m0a11, .ref m0a12, .ref m0a13, .ref m0a14, .ref m0a15, .ref m0a16, .int 0, .ref m0a18, .ref m0a19, .ref m0a20, .ref m0a21, .ref m0a22, .int 0, .ref m0a24, .ref m0a25, .ref m0a26, .int 0, .ref m0a28, .ref m0a29, .ref m0a30, .ref m0a31, .int 0, .ref m0a33, .ref m0a34, .ref m0a35, .ref m0a36, .ref m0a37, .ref m0a38, .ref m0a39, .ref m0a40, .ref m0a41, .ref m0a42, .ref m0a43, .ref m0a44, .ref m0a45, .ref m0a46, .ref m0a47, .int 0, .ref m0a49, .ref m0a50, .ref m0a51, .int 0, .ref m0a53, .ref m0a54, .ref m0a55, .ref m0a56, .ref m0a57, .ref m0a58, .ref m0a59, .ref m0a60, .ref m0a61, .ref m0a62, .ref m0a63, .long 0, .int 0, .int (-9), .ref m0a67, .ref m0a68, .ref m0a69, .ref m0a70, .ref m0a71, .ref m0a72, .ref m0a73, .ref m0a74, .ref m0a75, .long 0]))]) else (if l0 = 2 then (100, [(m0, .inr (12, [.int 0, .ref m0a1, .int 0, .long 0, .int 0, .ref m0a5, .ref m0a6, .ref m0a7, .ref m0a8, .ref m0a9, .int 0, .ref m0a11, .ref m0a12, .ref m0a13, .ref m0a14, .ref m0a15, .ref m0a16, .int 0, .ref m0a18, .ref m0a19, .ref m0a20, .ref m0a21, .ref m0a22, .int 0, .ref m0a24, .ref m0a25, .ref m0a26, .int 0, .ref m0a28, .ref m0a29, .ref m0a30, .ref m0a31, .int 0, .ref m0a33, .ref m0a34, .ref m0a35, .ref m0a36, .ref m0a37, .ref m0a38, .ref m0a39, .ref m0a40, .ref m0a41, .ref m0a42, .ref m0a43, .ref m0a44, .ref m0a45, .ref m0a46, .ref m0a47, .int 0, .ref m0a49, .ref m0a50, .ref m0a51, .int 0, .ref m0a53, .ref m0a54, .ref m0a55, .ref m0a56, .ref m0a57, .ref m0a58, .ref m0a59, .ref m0a60, .ref m0a61, .ref m0a62, .ref m0a63, .long 0, .int 0, .int (-9), .ref m0a67, .ref m0a68, .ref m0a69, .ref m0a70, .ref m0a71, .ref m0a72, .ref m0a73, .ref m0a74, .ref m0a75, .long 0]))]) else (if l0 = 3 then (50, [(m0, .inr (12, [.int 0, .ref m0a1, .int 0, .long 0, .int 0, .ref m0a5, .ref m0a6, .ref m0a7, .ref m0a8, .ref m0a9, .int 0, .ref m0a11, .ref m0a12, .ref m0a13, .ref m0a14, .ref m0a15, .ref m0a16, .int 0, .ref m0a18, .ref m0a19, .ref m0a20, .ref m0a21, .ref m0a22, .int 0, .ref m0a24, .ref m0a25, .ref m0a26, .int 0, .ref m0a28, .ref m0a29, .ref m0a30, .ref m0a31, .int 0, .ref m0a33, .ref m0a34, .ref m0a35, .ref m0a36, .ref m0a37, .ref m0a38, .ref m0a39, .ref m0a40, .ref m0a41, .ref m0a42, .ref m0a43, .ref m0a44, .ref m0a45, .ref m0a46, .ref m0a47, .int 0, .ref m0a49, .ref m0a50, .ref m0a51, .int 0, .ref m0a53, .ref m0a54, .ref m0a55, .ref m0a56, .ref m0a57, .ref m0a58, .ref m0a59, .ref m0a60, .ref m0a61, .ref m0a62, .ref m0a63, .long 0, .int 0, .int (-9), .ref m0a67, .ref m0a68, .ref m0a69, .ref m0a70, .ref m0a71, .ref m0a72, .ref m0a73, .ref m0a74, .ref m0a75, .long 0]))]) else (if l0 = 4 then (2, [(m0, .inr (12, [.int 0, .ref m0a1, .int 0, .long 0, .int 0, .ref m0a5, .ref m0a6, .ref m0a7, .ref m0a8, .ref m0a9, .int 0, .ref m0a11, .ref m0a12, .ref m0a13, .ref m0a14, .ref m0a15, .ref m0a16, .int 0, .ref m0a18, .ref m0a19, .ref m0a20, .ref m0a21, .ref m0a22, .int 0, .ref m0a24, .ref m0a25, .ref m0a26, .int 0, .ref m0a28, .ref m0a29, .ref m0a30, .ref m0a31, .int 0, .ref m0a33, .ref m0a34, .ref m0a35, .ref m0a36, .ref m0a37, .ref m0a38, .ref m0a39, .ref m0a40, .ref m0a41, .ref m0a42, .ref m0a43, .ref m0a44, .ref m0a45, .ref m0a46, .ref m0a47, .int 0, .ref m0a49, .ref m0a50, .ref m0a51, .int 0, .ref m0a53, .ref m0a54, .ref m0a55, .ref m0a56, .ref m0a57, .ref m0a58, .ref m0a59, .ref m0a60, .ref m0a61, .ref m0a62, .ref m0a63, .long 0, .int 0, .int (-9), .ref m0a67, .ref m0a68, .ref m0a69, .ref m0a70, .ref m0a71, .ref m0a72, .ref m0a73, .ref m0a74, .ref m0a75, .long 0]))]) else (if l0 = 5 then (60, [(m0, .inr (12, [.int 0, .ref m0a1, .int 0, .long 0, .int 0, .ref m0a5, .ref m0a6, .ref m0a7, .ref m0a8, .ref m0a9, .int 0, .ref m0a11, .ref m0a12, .ref m0a13, .ref m0a14, .ref m0a15, .ref m0a16, .int 0, .ref m0a18, .ref m0a19, .ref m0a20, .ref m0a21, .ref m0a22, .int 0, .ref m0a24, .ref m0a25, .ref m0a26, .int 0, .ref m0a28, .ref m0a29, .ref m0a30, .ref m0a31, .int 0, .ref m0a33, .ref m0a34, .ref m0a35, .ref m0a36, .ref m0a37, .ref m0a38, .ref m0a39, .ref m0a40, .ref m0a41, .ref m0a42, .ref m0a43, .ref m0a44, .ref m0a45, .ref m0a46, .ref m0a47, .int 0, .ref m0a49, .ref m0a50, .ref m0a51, .int 0, .ref m0a53, .ref m0a54, .ref m0a55, .ref m0a56, .ref m0a57, .ref m0a58, .ref m0a59, .ref m0a60, .ref m0a61, .ref m0a62, .ref m0a63, .long 0, .int 0, .int (-9), .ref m0a67, .ref m0a68, .ref m0a69, .ref m0a70, .ref m0a71, .ref m0a72, .ref m0a73, .ref m0a74, .ref m0a75, .long 0]))]) else (if l0 = 6 then (3, [(m0, .inr (12, [.int 0, .ref m0a1, .int 0, .long 0, .int 0, .ref m0a5, .ref m0a6, .ref m0a7, .ref m0a8, .ref m0a9, .int 0, .ref m0a11, .ref m0a12, .ref m0a13, .ref m0a14, .ref m0a15, .ref m0a16, .int 0, .ref m0a18, .ref m0a19, .ref m0a20, .ref m0a21, .ref m0a22, .int 0, .ref m0a24, .ref m0a25, .ref m0a26, .int 0, .ref m0a28, .ref m0a29, .ref m0a30, .ref m0a31, .int 0, .ref m0a33, .ref m0a34, .ref m0a35, .ref m0a36, .ref m0a37, .ref m0a38, .ref m0a39, .ref m0a40, .ref m0a41, .ref m0a42, .ref m0a43, .ref m0a44, .ref m0a45, .ref m0a46, .ref m0a47, .int 0, .ref m0a49, .ref m0a50, .ref m0a51, .int 0, .ref m0a53, .ref m0a54, .ref m0a55, .ref m0a56, .ref m0a57, .ref m0a58, .ref m0a59, .ref m0a60, .ref m0a61, .ref m0a62, .ref m0a63, .long 0, .int 0, .int (-9), .ref m0a67, .ref m0a68, .ref m0a69, .ref m0a70, .ref m0a71, .ref m0a72, .ref m0a73, .ref m0a74, .ref m0a75, .long 0]))]) else (7, [(m0, .inr (12, [.int 0, .ref m0a1, .int 0, .long 0, .int 0, .ref m0a5, .ref m0a6, .ref m0a7, .ref m0a8, .ref m0a9, .int 0, .ref m0a11, .ref m0a12, .ref m0a13, .ref m0a14, .ref m0a15, .ref m0a16, .int 0, .ref m0a18, .ref m0a19, .ref m0a20, .ref m0a21, .ref m0a22, .int 0, .ref m0a24, .ref m0a25, .ref m0a26, .int 0, .ref m0a28, .ref m0a29, .ref m0a30, .ref m0a31, .int 0, .ref m0a33, .ref m0a34, .ref m0a35, .ref m0a36, .ref m0a37, .ref m0a38, .ref m0a39, .ref m0a40, .ref m0a41, .ref m0a42, .ref m0a43, .ref m0a44, .ref m0a45, .ref m0a46, .ref m0a47, .int 0, .ref m0a49, .ref m0a50, .ref m0a51, .int 0, .ref m0a53, .ref m0a54, .ref m0a55, .ref m0a56, .ref m0a57, .ref m0a58, .ref m0a59, .ref m0a60, .ref m0a61, .ref m0a62, .ref m0a63, .long 0, .int 0, .int (-9), .ref m0a67, .ref m0a68, .ref m0a69, .ref m0a70, .ref m0a71, .ref m0a72, .ref m0a73, .ref m0a74, .ref m0a75, .long 0]))])))))))
set_option maxHeartbeats 4000000 in
set_option maxRecDepth 100000 in
theorem c_X12_inForce (l : Launch) (g : GG) (m0 : Nat) (l0 : Int32) (d0 : Int32) (k0 : Int32) (m0a1 : Nat) (m0a5 : Nat) (m0a6 : Nat) (m0a7 : Nat) (m0a8 : Nat) (m0a9 : Nat) (m0a11 : Nat) (m0a12 : Nat) (m0a13 : Nat) (m0a14 : Nat) (m0a15 : Nat) (m0a16 : Nat) (m0a18 : Nat) (m0a19 : Nat) (m0a20 : Nat) (m0a21 : Nat) (m0a22 : Nat) (m0a24 : Nat) (m0a25 : Nat) (m0a26 : Nat) (m0a28 : Nat) (m0a29 : Nat) (m0a30 : Nat) (m0a31 : Nat) (m0a33 : Nat) (m0a34 : Nat) (m0a35 : Nat) (m0a36 : Nat) (m0a37 : Nat) (m0a38 : Nat) (m0a39 : Nat) (m0a40 : Nat) (m0a41 : Nat) (m0a42 : Nat) (m0a43 : Nat) (m0a44 : Nat) (m0a45 : Nat) (m0a46 : Nat) (m0a47 : Nat) (m0a49 : Nat) (m0a50 : Nat) (m0a51 : Nat) (m0a53 : Nat) (m0a54 : Nat) (m0a55 : Nat) (m0a56 : Nat) (m0a57 : Nat) (m0a58 : Nat) (m0a59 : Nat) (m0a60 : Nat) (m0a61 : Nat) (m0a62 : Nat) (m0a63 : Nat) (m0a67 : Nat) (m0a68 : Nat) (m0a69 : Nat) (m0a70 : Nat) (m0a71 : Nat) (m0a72 : Nat) (m0a73 : Nat) (m0a74 : Nat) (m0a75 : Nat) (hl0 : ¬ (l0 < 0)) (hl8 : ¬ (7 < l0)) : MI l g yX12_inForce cX12_inForce 5 (some .int) 1 26 0 0 [(m0, .inr (12, [.int 0, .ref m0a1, .int 0, .long 0, .int 0, .ref m0a5, .ref m0a6, .ref m0a7, .ref m0a8, .ref m0a9, .int 0, .ref m0a11, .ref m0a12, .ref m0a13, .ref m0a14, .ref m0a15, .ref m0a16, .int 0, .ref m0a18, .ref m0a19, .ref m0a20, .ref m0a21, .ref m0a22, .int 0, .ref m0a24, .ref m0a25, .ref m0a26, .int 0, .ref m0a28, .ref m0a29, .ref m0a30, .ref m0a31, .int 0, .ref m0a33, .ref m0a34, .ref m0a35, .ref m0a36, .ref m0a37, .ref m0a38, .ref m0a39, .ref m0a40, .ref m0a41, .ref m0a42, .ref m0a43, .ref m0a44, .ref m0a45, .ref m0a46, .ref m0a47, .int 0, .ref m0a49, .ref m0a50, .ref m0a51, .int 0, .ref m0a53, .ref m0a54, .ref m0a55, .ref m0a56, .ref m0a57, .ref m0a58, .ref m0a59, .ref m0a60, .ref m0a61, .ref m0a62, .ref m0a63, .long 0, .int 0, .int (-9), .ref m0a67, .ref m0a68, .ref m0a69, .ref m0a70, .ref m0a71, .ref m0a72, .ref m0a73, .ref m0a74, .ref m0a75, .long 0]))] [.ref m0, .int l0, .int d0, .int k0] (fun rr_ ww_ => (rr_, ww_) = sp_X12_inForce g m0 l0 d0 k0 m0a1 m0a5 m0a6 m0a7 m0a8 m0a9 m0a11 m0a12 m0a13 m0a14 m0a15 m0a16 m0a18 m0a19 m0a20 m0a21 m0a22 m0a24 m0a25 m0a26 m0a28 m0a29 m0a30 m0a31 m0a33 m0a34 m0a35 m0a36 m0a37 m0a38 m0a39 m0a40 m0a41 m0a42 m0a43 m0a44 m0a45 m0a46 m0a47 m0a49 m0a50 m0a51 m0a53 m0a54 m0a55 m0a56 m0a57 m0a58 m0a59 m0a60 m0a61 m0a62 m0a63 m0a67 m0a68 m0a69 m0a70 m0a71 m0a72 m0a73 m0a74 m0a75) := by
  refine met_of (fun A => va_Qi _ (bW g A) A) (by decide) (Nat.le_of_ble_eq_true rfl) ?_
  intro p e s m below meth c A ls X hK hP hD hA hZ hS hl
  have hx := X.1
  have hb := X.2.1
  have hml := X.2.2.1
  have hown := X.2.2.2.1
  have hts := X.2.2.2.2.1
  have hnm := X.2.2.2.2.2.2.2
  have hl : lv_has ls 5 [(0, .ref m0), (1, .int l0), (2, .int d0), (3, .int k0)] := hl
  refine lv_aload_n hx hb dX12_inForce_0 rfl (lv_at hl 0 rfl) ?_
  refine lv_iload_n hx hb dX12_inForce_1 rfl (lv_at hl 1 rfl) ?_
  refine lv_iload_n hx hb dX12_inForce_2 rfl (lv_at hl 2 rfl) ?_
  refine lv_iload_n hx hb dX12_inForce_3 rfl (lv_at hl 3 rfl) ?_
  refine kVi (As := [.int l0, .int d0, .int k0]) (rest := []) (wr := []) X (c_X12_ruleFor l g m0 l0 d0 k0 m0a1 m0a5 m0a6 m0a7 m0a8 m0a9 m0a11 m0a12 m0a13 m0a14 m0a15 m0a16 m0a18 m0a19 m0a20 m0a21 m0a22 m0a24 m0a25 m0a26 m0a28 m0a29 m0a30 m0a31 m0a33 m0a34 m0a35 m0a36 m0a37 m0a38 m0a39 m0a40 m0a41 m0a42 m0a43 m0a44 m0a45 m0a46 m0a47 m0a49 m0a50 m0a51 m0a53 m0a54 m0a55 m0a56 m0a57 m0a58 m0a59 m0a60 m0a61 m0a62 m0a63 m0a67 m0a68 m0a69 m0a70 m0a71 m0a72 m0a73 m0a74 m0a75) ok_X12_ruleFor okv_X12_ruleFor q_1776 rfl hK hP hD hS hA hZ hl.1 [0] [] rfl rfl rfl rfl rfl 0 12 rfl rfl rfl (Nat.le_of_ble_eq_true rfl) ⟨Nat.le_of_ble_eq_true rfl, Nat.le_of_ble_eq_true rfl⟩ dX12_inForce_4 ⟨Nat.le_of_ble_eq_true rfl, Nat.le_of_ble_eq_true rfl⟩ (fun r_1 w1 H locs hw_2 hP hD hS => ?_)
  rw [sp_X12_ruleFor] at hw_2
  obtain ⟨e1, e2⟩ := Prod.mk.inj hw_2
  subst e1; subst e2
  have hP : va_P g.1 classes [(m0, .inr (12, [.int 0, .ref m0a1, .int 0, .long 0, .int 0, .ref m0a5, .ref m0a6, .ref m0a7, .ref m0a8, .ref m0a9, .int 0, .ref m0a11, .ref m0a12, .ref m0a13, .ref m0a14, .ref m0a15, .ref m0a16, .int 0, .ref m0a18, .ref m0a19, .ref m0a20, .ref m0a21, .ref m0a22, .int 0, .ref m0a24, .ref m0a25, .ref m0a26, .int 0, .ref m0a28, .ref m0a29, .ref m0a30, .ref m0a31, .int 0, .ref m0a33, .ref m0a34, .ref m0a35, .ref m0a36, .ref m0a37, .ref m0a38, .ref m0a39, .ref m0a40, .ref m0a41, .ref m0a42, .ref m0a43, .ref m0a44, .ref m0a45, .ref m0a46, .ref m0a47, .int 0, .ref m0a49, .ref m0a50, .ref m0a51, .int 0, .ref m0a53, .ref m0a54, .ref m0a55, .ref m0a56, .ref m0a57, .ref m0a58, .ref m0a59, .ref m0a60, .ref m0a61, .ref m0a62, .ref m0a63, .long 0, .int 0, .int (-9), .ref m0a67, .ref m0a68, .ref m0a69, .ref m0a70, .ref m0a71, .ref m0a72, .ref m0a73, .ref m0a74, .ref m0a75, .long 0]))] H := hP
  have hD : va_D A [(m0, .inr (12, [.int 0, .ref m0a1, .int 0, .long 0, .int 0, .ref m0a5, .ref m0a6, .ref m0a7, .ref m0a8, .ref m0a9, .int 0, .ref m0a11, .ref m0a12, .ref m0a13, .ref m0a14, .ref m0a15, .ref m0a16, .int 0, .ref m0a18, .ref m0a19, .ref m0a20, .ref m0a21, .ref m0a22, .int 0, .ref m0a24, .ref m0a25, .ref m0a26, .int 0, .ref m0a28, .ref m0a29, .ref m0a30, .ref m0a31, .int 0, .ref m0a33, .ref m0a34, .ref m0a35, .ref m0a36, .ref m0a37, .ref m0a38, .ref m0a39, .ref m0a40, .ref m0a41, .ref m0a42, .ref m0a43, .ref m0a44, .ref m0a45, .ref m0a46, .ref m0a47, .int 0, .ref m0a49, .ref m0a50, .ref m0a51, .int 0, .ref m0a53, .ref m0a54, .ref m0a55, .ref m0a56, .ref m0a57, .ref m0a58, .ref m0a59, .ref m0a60, .ref m0a61, .ref m0a62, .ref m0a63, .long 0, .int 0, .int (-9), .ref m0a67, .ref m0a68, .ref m0a69, .ref m0a70, .ref m0a71, .ref m0a72, .ref m0a73, .ref m0a74, .ref m0a75, .long 0]))] := hD
  refine lv_istore (lv' := [(4, .int (-9)), (0, .ref m0), (1, .int l0), (2, .int d0), (3, .int k0)]) hx hb dX12_inForce_7 hl (by decide) rfl (fun ls hl => ?_)
  refine lv_iload hx hb dX12_inForce_9 (lv_at hl 0 rfl) ?_
  refine lv_if_lt (tgt := 27) hx hb dX12_inForce_11 (by decide) (fun _ => ?_) (fun c_3 => absurd (by decide) c_3)
  refine lv_iload_n hx hb dX12_inForce_27 rfl (lv_at hl 2 rfl) ?_
  rcases Classical.em (l0 = 0) with c_4 | c_4
  ·
    refine lv_tableIn (off := 44) (tgt := 72) hx hb dX12_inForce_28 (by rw [c_4]; decide) (by rw [c_4]; decide) (by rw [c_4]; decide) (by decide) ?_
    refine lv_bipush (v := 10) hx hb dX12_inForce_72 (by decide) ?_
    exact rI X hK hP hD hS dX12_inForce_74 (by rfl) (Nat.le_of_ble_eq_true rfl) (Nat.le_of_ble_eq_true rfl) (by show ((_, _) : Int32 × va_W) = _; unfold sp_X12_inForce; rw [if_pos c_4]; try rfl)
  ·
    rcases Classical.em (l0 = 1) with c_5 | c_5
    ·
      refine lv_tableIn (off := 47) (tgt := 75) hx hb dX12_inForce_28 (by rw [c_5]; decide) (by rw [c_5]; decide) (by rw [c_5]; decide) (by decide) ?_
      refine lv_bipush (v := 20) hx hb dX12_inForce_75 (by decide) ?_
      exact rI X hK hP hD hS dX12_inForce_77 (by rfl) (Nat.le_of_ble_eq_true rfl) (Nat.le_of_ble_eq_true rfl) (by show ((_, _) : Int32 × va_W) = _; unfold sp_X12_inForce; rw [if_neg c_4, if_pos c_5]; try rfl)
    ·
      rcases Classical.em (l0 = 2) with c_6 | c_6
      ·
        refine lv_tableIn (off := 50) (tgt := 78) hx hb dX12_inForce_28 (by rw [c_6]; decide) (by rw [c_6]; decide) (by rw [c_6]; decide) (by decide) ?_
        refine lv_bipush (v := 100) hx hb dX12_inForce_78 (by decide) ?_
        exact rI X hK hP hD hS dX12_inForce_80 (by rfl) (Nat.le_of_ble_eq_true rfl) (Nat.le_of_ble_eq_true rfl) (by show ((_, _) : Int32 × va_W) = _; unfold sp_X12_inForce; rw [if_neg c_4, if_neg c_5, if_pos c_6]; try rfl)
      ·
        rcases Classical.em (l0 = 3) with c_7 | c_7
        ·
          refine lv_tableIn (off := 53) (tgt := 81) hx hb dX12_inForce_28 (by rw [c_7]; decide) (by rw [c_7]; decide) (by rw [c_7]; decide) (by decide) ?_
          refine lv_bipush (v := 50) hx hb dX12_inForce_81 (by decide) ?_
          exact rI X hK hP hD hS dX12_inForce_83 (by rfl) (Nat.le_of_ble_eq_true rfl) (Nat.le_of_ble_eq_true rfl) (by show ((_, _) : Int32 × va_W) = _; unfold sp_X12_inForce; rw [if_neg c_4, if_neg c_5, if_neg c_6, if_pos c_7]; try rfl)
        ·
          rcases Classical.em (l0 = 4) with c_8 | c_8
          ·
            refine lv_tableIn (off := 56) (tgt := 84) hx hb dX12_inForce_28 (by rw [c_8]; decide) (by rw [c_8]; decide) (by rw [c_8]; decide) (by decide) ?_
            refine lv_iconst (v := 2) hx hb dX12_inForce_84 (by decide) ?_
            exact rI X hK hP hD hS dX12_inForce_85 (by rfl) (Nat.le_of_ble_eq_true rfl) (Nat.le_of_ble_eq_true rfl) (by show ((_, _) : Int32 × va_W) = _; unfold sp_X12_inForce; rw [if_neg c_4, if_neg c_5, if_neg c_6, if_neg c_7, if_pos c_8]; try rfl)
          ·
            rcases Classical.em (l0 = 5) with c_9 | c_9
            ·
              refine lv_tableIn (off := 58) (tgt := 86) hx hb dX12_inForce_28 (by rw [c_9]; decide) (by rw [c_9]; decide) (by rw [c_9]; decide) (by decide) ?_
              refine lv_bipush (v := 60) hx hb dX12_inForce_86 (by decide) ?_
              exact rI X hK hP hD hS dX12_inForce_88 (by rfl) (Nat.le_of_ble_eq_true rfl) (Nat.le_of_ble_eq_true rfl) (by show ((_, _) : Int32 × va_W) = _; unfold sp_X12_inForce; rw [if_neg c_4, if_neg c_5, if_neg c_6, if_neg c_7, if_neg c_8, if_pos c_9]; try rfl)
            ·
              rcases Classical.em (l0 = 6) with c_10 | c_10
              ·
                refine lv_tableIn (off := 61) (tgt := 89) hx hb dX12_inForce_28 (by rw [c_10]; decide) (by rw [c_10]; decide) (by rw [c_10]; decide) (by decide) ?_
                refine lv_iconst (v := 3) hx hb dX12_inForce_89 (by decide) ?_
                exact rI X hK hP hD hS dX12_inForce_90 (by rfl) (Nat.le_of_ble_eq_true rfl) (Nat.le_of_ble_eq_true rfl) (by show ((_, _) : Int32 × va_W) = _; unfold sp_X12_inForce; rw [if_neg c_4, if_neg c_5, if_neg c_6, if_neg c_7, if_neg c_8, if_neg c_9, if_pos c_10]; try rfl)
              ·
                refine lv_tableOut (tgt := 91) hx hb dX12_inForce_28 (by simp only [i32eq, Int32.reduceToInt, i32lt, i32le] at hl0 hl8 c_4 c_5 c_6 c_7 c_8 c_9 c_10; omega) (by decide) ?_
                refine lv_bipush (v := 7) hx hb dX12_inForce_91 (by decide) ?_
                exact rI X hK hP hD hS dX12_inForce_93 (by rfl) (Nat.le_of_ble_eq_true rfl) (Nat.le_of_ble_eq_true rfl) (by show ((_, _) : Int32 × va_W) = _; unfold sp_X12_inForce; rw [if_neg c_4, if_neg c_5, if_neg c_6, if_neg c_7, if_neg c_8, if_neg c_9, if_neg c_10]; try rfl)
def sp_X12_force (g : GG) (m0 : Nat) (l0 : Int32) (d0 : Int32) (k0 : Int32) (m0a1 : Nat) (m0a5 : Nat) (m0a6 : Nat) (m0a7 : Nat) (m0a8 : Nat) (m0a9 : Nat) (m0a11 : Nat) (m0a12 : Nat) (m0a13 : Nat) (m0a14 : Nat) (m0a15 : Nat) (m0a16 : Nat) (m0a18 : Nat) (m0a19 : Nat) (m0a20 : Nat) (m0a21 : Nat) (m0a22 : Nat) (m0a24 : Nat) (m0a25 : Nat) (m0a26 : Nat) (m0a28 : Nat) (m0a29 : Nat) (m0a30 : Nat) (m0a31 : Nat) (m0a33 : Nat) (m0a34 : Nat) (m0a35 : Nat) (m0a36 : Nat) (m0a37 : Nat) (m0a38 : Nat) (m0a39 : Nat) (m0a40 : Nat) (m0a41 : Nat) (m0a42 : Nat) (m0a43 : Nat) (m0a44 : Nat) (m0a45 : Nat) (m0a46 : Nat) (m0a47 : Nat) (m0a49 : Nat) (m0a50 : Nat) (m0a51 : Nat) (m0a53 : Nat) (m0a54 : Nat) (m0a55 : Nat) (m0a56 : Nat) (m0a57 : Nat) (m0a58 : Nat) (m0a59 : Nat) (m0a60 : Nat) (m0a61 : Nat) (m0a62 : Nat) (m0a63 : Nat) (m0a67 : Nat) (m0a68 : Nat) (m0a69 : Nat) (m0a70 : Nat) (m0a71 : Nat) (m0a72 : Nat) (m0a73 : Nat) (m0a74 : Nat) (m0a75 : Nat) : Int32 := if l0 < 0 then (-1) else (if 7 < l0 then (-1) else (if d0 < 0 then (-1) else (if 999 < d0 then (-1) else (if k0 < 0 then (-1) else (if 999 < k0 then (-1) else (if l0 = 0 then 10 else (if l0 = 1 then 20 else (if l0 = 2 then 100 else (if l0 = 3 then 50 else (if l0 = 4 then 2 else (if l0 = 5 then 60 else (if l0 = 6 then 3 else 7))))))))))))
set_option maxHeartbeats 4000000 in
set_option maxRecDepth 100000 in
theorem c_X12_force (l : Launch) (g : GG) (m0 : Nat) (l0 : Int32) (d0 : Int32) (k0 : Int32) (m0a1 : Nat) (m0a5 : Nat) (m0a6 : Nat) (m0a7 : Nat) (m0a8 : Nat) (m0a9 : Nat) (m0a11 : Nat) (m0a12 : Nat) (m0a13 : Nat) (m0a14 : Nat) (m0a15 : Nat) (m0a16 : Nat) (m0a18 : Nat) (m0a19 : Nat) (m0a20 : Nat) (m0a21 : Nat) (m0a22 : Nat) (m0a24 : Nat) (m0a25 : Nat) (m0a26 : Nat) (m0a28 : Nat) (m0a29 : Nat) (m0a30 : Nat) (m0a31 : Nat) (m0a33 : Nat) (m0a34 : Nat) (m0a35 : Nat) (m0a36 : Nat) (m0a37 : Nat) (m0a38 : Nat) (m0a39 : Nat) (m0a40 : Nat) (m0a41 : Nat) (m0a42 : Nat) (m0a43 : Nat) (m0a44 : Nat) (m0a45 : Nat) (m0a46 : Nat) (m0a47 : Nat) (m0a49 : Nat) (m0a50 : Nat) (m0a51 : Nat) (m0a53 : Nat) (m0a54 : Nat) (m0a55 : Nat) (m0a56 : Nat) (m0a57 : Nat) (m0a58 : Nat) (m0a59 : Nat) (m0a60 : Nat) (m0a61 : Nat) (m0a62 : Nat) (m0a63 : Nat) (m0a67 : Nat) (m0a68 : Nat) (m0a69 : Nat) (m0a70 : Nat) (m0a71 : Nat) (m0a72 : Nat) (m0a73 : Nat) (m0a74 : Nat) (m0a75 : Nat) : MI l g yX12_force cX12_force 4 (some .int) 3 64 0 0 [(m0, .inr (12, [.int 0, .ref m0a1, .int 0, .long 0, .int 0, .ref m0a5, .ref m0a6, .ref m0a7, .ref m0a8, .ref m0a9, .int 0, .ref m0a11, .ref m0a12, .ref m0a13, .ref m0a14, .ref m0a15, .ref m0a16, .int 0, .ref m0a18, .ref m0a19, .ref m0a20, .ref m0a21, .ref m0a22, .int 0, .ref m0a24, .ref m0a25, .ref m0a26, .int 0, .ref m0a28, .ref m0a29, .ref m0a30, .ref m0a31, .int 0, .ref m0a33, .ref m0a34, .ref m0a35, .ref m0a36, .ref m0a37, .ref m0a38, .ref m0a39, .ref m0a40, .ref m0a41, .ref m0a42, .ref m0a43, .ref m0a44, .ref m0a45, .ref m0a46, .ref m0a47, .int 0, .ref m0a49, .ref m0a50, .ref m0a51, .int 0, .ref m0a53, .ref m0a54, .ref m0a55, .ref m0a56, .ref m0a57, .ref m0a58, .ref m0a59, .ref m0a60, .ref m0a61, .ref m0a62, .ref m0a63, .long 0, .int 0, .int (-9), .ref m0a67, .ref m0a68, .ref m0a69, .ref m0a70, .ref m0a71, .ref m0a72, .ref m0a73, .ref m0a74, .ref m0a75, .long 0]))] [.ref m0, .int l0, .int d0, .int k0] (fun rr_ _ => rr_ = sp_X12_force g m0 l0 d0 k0 m0a1 m0a5 m0a6 m0a7 m0a8 m0a9 m0a11 m0a12 m0a13 m0a14 m0a15 m0a16 m0a18 m0a19 m0a20 m0a21 m0a22 m0a24 m0a25 m0a26 m0a28 m0a29 m0a30 m0a31 m0a33 m0a34 m0a35 m0a36 m0a37 m0a38 m0a39 m0a40 m0a41 m0a42 m0a43 m0a44 m0a45 m0a46 m0a47 m0a49 m0a50 m0a51 m0a53 m0a54 m0a55 m0a56 m0a57 m0a58 m0a59 m0a60 m0a61 m0a62 m0a63 m0a67 m0a68 m0a69 m0a70 m0a71 m0a72 m0a73 m0a74 m0a75) := by
  refine met_of (fun A => va_Qi _ (bW g A) A) (by decide) (Nat.le_of_ble_eq_true rfl) ?_
  intro p e s m below meth c A ls X hK hP hD hA hZ hS hl
  have hx := X.1
  have hb := X.2.1
  have hml := X.2.2.1
  have hown := X.2.2.2.1
  have hts := X.2.2.2.2.1
  have hnm := X.2.2.2.2.2.2.2
  have hl : lv_has ls 4 [(0, .ref m0), (1, .int l0), (2, .int d0), (3, .int k0)] := hl
  refine lv_iload_n hx hb dX12_force_0 rfl (lv_at hl 1 rfl) ?_
  refine lv_iload_n hx hb dX12_force_1 rfl (lv_at hl 2 rfl) ?_
  refine lv_iload_n hx hb dX12_force_2 rfl (lv_at hl 3 rfl) ?_
  refine kSi (As := [.int l0, .int d0, .int k0]) (rest := []) (wr := [(m0, .inr (12, [.int 0, .ref m0a1, .int 0, .long 0, .int 0, .ref m0a5, .ref m0a6, .ref m0a7, .ref m0a8, .ref m0a9, .int 0, .ref m0a11, .ref m0a12, .ref m0a13, .ref m0a14, .ref m0a15, .ref m0a16, .int 0, .ref m0a18, .ref m0a19, .ref m0a20, .ref m0a21, .ref m0a22, .int 0, .ref m0a24, .ref m0a25, .ref m0a26, .int 0, .ref m0a28, .ref m0a29, .ref m0a30, .ref m0a31, .int 0, .ref m0a33, .ref m0a34, .ref m0a35, .ref m0a36, .ref m0a37, .ref m0a38, .ref m0a39, .ref m0a40, .ref m0a41, .ref m0a42, .ref m0a43, .ref m0a44, .ref m0a45, .ref m0a46, .ref m0a47, .int 0, .ref m0a49, .ref m0a50, .ref m0a51, .int 0, .ref m0a53, .ref m0a54, .ref m0a55, .ref m0a56, .ref m0a57, .ref m0a58, .ref m0a59, .ref m0a60, .ref m0a61, .ref m0a62, .ref m0a63, .long 0, .int 0, .int (-9), .ref m0a67, .ref m0a68, .ref m0a69, .ref m0a70, .ref m0a71, .ref m0a72, .ref m0a73, .ref m0a74, .ref m0a75, .long 0]))]) X (c_X12_isAsked l g l0 d0 k0) ok_X12_isAsked q_1770 q_1769 rfl hK hP hD hS hA hZ hl.1 [] [0] rfl rfl rfl rfl rfl rfl (Nat.le_of_ble_eq_true rfl) ⟨Nat.le_of_ble_eq_true rfl, Nat.le_of_ble_eq_true rfl⟩ dX12_force_3 ⟨Nat.le_of_ble_eq_true rfl, Nat.le_of_ble_eq_true rfl⟩ (fun r_1 w1 H locs hw_2 hP hD hS => ?_)
  rw [sp_X12_isAsked] at hw_2
  rcases Classical.em (l0 < 0) with c_3 | c_3
  ·
    rw [if_pos c_3] at hw_2
    obtain ⟨e1, e2⟩ := Prod.mk.inj hw_2
    subst e1; subst e2
    have hP : va_P g.1 classes [(m0, .inr (12, [.int 0, .ref m0a1, .int 0, .long 0, .int 0, .ref m0a5, .ref m0a6, .ref m0a7, .ref m0a8, .ref m0a9, .int 0, .ref m0a11, .ref m0a12, .ref m0a13, .ref m0a14, .ref m0a15, .ref m0a16, .int 0, .ref m0a18, .ref m0a19, .ref m0a20, .ref m0a21, .ref m0a22, .int 0, .ref m0a24, .ref m0a25, .ref m0a26, .int 0, .ref m0a28, .ref m0a29, .ref m0a30, .ref m0a31, .int 0, .ref m0a33, .ref m0a34, .ref m0a35, .ref m0a36, .ref m0a37, .ref m0a38, .ref m0a39, .ref m0a40, .ref m0a41, .ref m0a42, .ref m0a43, .ref m0a44, .ref m0a45, .ref m0a46, .ref m0a47, .int 0, .ref m0a49, .ref m0a50, .ref m0a51, .int 0, .ref m0a53, .ref m0a54, .ref m0a55, .ref m0a56, .ref m0a57, .ref m0a58, .ref m0a59, .ref m0a60, .ref m0a61, .ref m0a62, .ref m0a63, .long 0, .int 0, .int (-9), .ref m0a67, .ref m0a68, .ref m0a69, .ref m0a70, .ref m0a71, .ref m0a72, .ref m0a73, .ref m0a74, .ref m0a75, .long 0]))] H := hP
    have hD : va_D A [(m0, .inr (12, [.int 0, .ref m0a1, .int 0, .long 0, .int 0, .ref m0a5, .ref m0a6, .ref m0a7, .ref m0a8, .ref m0a9, .int 0, .ref m0a11, .ref m0a12, .ref m0a13, .ref m0a14, .ref m0a15, .ref m0a16, .int 0, .ref m0a18, .ref m0a19, .ref m0a20, .ref m0a21, .ref m0a22, .int 0, .ref m0a24, .ref m0a25, .ref m0a26, .int 0, .ref m0a28, .ref m0a29, .ref m0a30, .ref m0a31, .int 0, .ref m0a33, .ref m0a34, .ref m0a35, .ref m0a36, .ref m0a37, .ref m0a38, .ref m0a39, .ref m0a40, .ref m0a41, .ref m0a42, .ref m0a43, .ref m0a44, .ref m0a45, .ref m0a46, .ref m0a47, .int 0, .ref m0a49, .ref m0a50, .ref m0a51, .int 0, .ref m0a53, .ref m0a54, .ref m0a55, .ref m0a56, .ref m0a57, .ref m0a58, .ref m0a59, .ref m0a60, .ref m0a61, .ref m0a62, .ref m0a63, .long 0, .int 0, .int (-9), .ref m0a67, .ref m0a68, .ref m0a69, .ref m0a70, .ref m0a71, .ref m0a72, .ref m0a73, .ref m0a74, .ref m0a75, .long 0]))] := hD
    refine lv_if_eq (tgt := 19) hx hb dX12_force_6 (by decide) (fun _ => ?_) (fun c_4 => absurd (by decide) c_4)
    refine lv_iconst (v := (-1)) hx hb dX12_force_19 (by decide) ?_
    exact rI X hK hP hD hS dX12_force_20 (by rfl) (Nat.le_of_ble_eq_true rfl) (Nat.le_of_ble_eq_true rfl) (by show _ = _; unfold sp_X12_force; rw [if_pos c_3]; try rfl)
  ·
    rw [if_neg c_3] at hw_2
    rcases Classical.em (7 < l0) with c_5 | c_5
    ·
      rw [if_pos c_5] at hw_2
      obtain ⟨e1, e2⟩ := Prod.mk.inj hw_2
      subst e1; subst e2
      have hP : va_P g.1 classes [(m0, .inr (12, [.int 0, .ref m0a1, .int 0, .long 0, .int 0, .ref m0a5, .ref m0a6, .ref m0a7, .ref m0a8, .ref m0a9, .int 0, .ref m0a11, .ref m0a12, .ref m0a13, .ref m0a14, .ref m0a15, .ref m0a16, .int 0, .ref m0a18, .ref m0a19, .ref m0a20, .ref m0a21, .ref m0a22, .int 0, .ref m0a24, .ref m0a25, .ref m0a26, .int 0, .ref m0a28, .ref m0a29, .ref m0a30, .ref m0a31, .int 0, .ref m0a33, .ref m0a34, .ref m0a35, .ref m0a36, .ref m0a37, .ref m0a38, .ref m0a39, .ref m0a40, .ref m0a41, .ref m0a42, .ref m0a43, .ref m0a44, .ref m0a45, .ref m0a46, .ref m0a47, .int 0, .ref m0a49, .ref m0a50, .ref m0a51, .int 0, .ref m0a53, .ref m0a54, .ref m0a55, .ref m0a56, .ref m0a57, .ref m0a58, .ref m0a59, .ref m0a60, .ref m0a61, .ref m0a62, .ref m0a63, .long 0, .int 0, .int (-9), .ref m0a67, .ref m0a68, .ref m0a69, .ref m0a70, .ref m0a71, .ref m0a72, .ref m0a73, .ref m0a74, .ref m0a75, .long 0]))] H := hP
      have hD : va_D A [(m0, .inr (12, [.int 0, .ref m0a1, .int 0, .long 0, .int 0, .ref m0a5, .ref m0a6, .ref m0a7, .ref m0a8, .ref m0a9, .int 0, .ref m0a11, .ref m0a12, .ref m0a13, .ref m0a14, .ref m0a15, .ref m0a16, .int 0, .ref m0a18, .ref m0a19, .ref m0a20, .ref m0a21, .ref m0a22, .int 0, .ref m0a24, .ref m0a25, .ref m0a26, .int 0, .ref m0a28, .ref m0a29, .ref m0a30, .ref m0a31, .int 0, .ref m0a33, .ref m0a34, .ref m0a35, .ref m0a36, .ref m0a37, .ref m0a38, .ref m0a39, .ref m0a40, .ref m0a41, .ref m0a42, .ref m0a43, .ref m0a44, .ref m0a45, .ref m0a46, .ref m0a47, .int 0, .ref m0a49, .ref m0a50, .ref m0a51, .int 0, .ref m0a53, .ref m0a54, .ref m0a55, .ref m0a56, .ref m0a57, .ref m0a58, .ref m0a59, .ref m0a60, .ref m0a61, .ref m0a62, .ref m0a63, .long 0, .int 0, .int (-9), .ref m0a67, .ref m0a68, .ref m0a69, .ref m0a70, .ref m0a71, .ref m0a72, .ref m0a73, .ref m0a74, .ref m0a75, .long 0]))] := hD
      refine lv_if_eq (tgt := 19) hx hb dX12_force_6 (by decide) (fun _ => ?_) (fun c_6 => absurd (by decide) c_6)
      refine lv_iconst (v := (-1)) hx hb dX12_force_19 (by decide) ?_
      exact rI X hK hP hD hS dX12_force_20 (by rfl) (Nat.le_of_ble_eq_true rfl) (Nat.le_of_ble_eq_true rfl) (by show _ = _; unfold sp_X12_force; rw [if_neg c_3, if_pos c_5]; try rfl)
    ·
      rw [if_neg c_5] at hw_2
      rcases Classical.em (d0 < 0) with c_7 | c_7
      ·
        rw [if_pos c_7] at hw_2
        obtain ⟨e1, e2⟩ := Prod.mk.inj hw_2
        subst e1; subst e2
        have hP : va_P g.1 classes [(m0, .inr (12, [.int 0, .ref m0a1, .int 0, .long 0, .int 0, .ref m0a5, .ref m0a6, .ref m0a7, .ref m0a8, .ref m0a9, .int 0, .ref m0a11, .ref m0a12, .ref m0a13, .ref m0a14, .ref m0a15, .ref m0a16, .int 0, .ref m0a18, .ref m0a19, .ref m0a20, .ref m0a21, .ref m0a22, .int 0, .ref m0a24, .ref m0a25, .ref m0a26, .int 0, .ref m0a28, .ref m0a29, .ref m0a30, .ref m0a31, .int 0, .ref m0a33, .ref m0a34, .ref m0a35, .ref m0a36, .ref m0a37, .ref m0a38, .ref m0a39, .ref m0a40, .ref m0a41, .ref m0a42, .ref m0a43, .ref m0a44, .ref m0a45, .ref m0a46, .ref m0a47, .int 0, .ref m0a49, .ref m0a50, .ref m0a51, .int 0, .ref m0a53, .ref m0a54, .ref m0a55, .ref m0a56, .ref m0a57, .ref m0a58, .ref m0a59, .ref m0a60, .ref m0a61, .ref m0a62, .ref m0a63, .long 0, .int 0, .int (-9), .ref m0a67, .ref m0a68, .ref m0a69, .ref m0a70, .ref m0a71, .ref m0a72, .ref m0a73, .ref m0a74, .ref m0a75, .long 0]))] H := hP
        have hD : va_D A [(m0, .inr (12, [.int 0, .ref m0a1, .int 0, .long 0, .int 0, .ref m0a5, .ref m0a6, .ref m0a7, .ref m0a8, .ref m0a9, .int 0, .ref m0a11, .ref m0a12, .ref m0a13, .ref m0a14, .ref m0a15, .ref m0a16, .int 0, .ref m0a18, .ref m0a19, .ref m0a20, .ref m0a21, .ref m0a22, .int 0, .ref m0a24, .ref m0a25, .ref m0a26, .int 0, .ref m0a28, .ref m0a29, .ref m0a30, .ref m0a31, .int 0, .ref m0a33, .ref m0a34, .ref m0a35, .ref m0a36, .ref m0a37, .ref m0a38, .ref m0a39, .ref m0a40, .ref m0a41, .ref m0a42, .ref m0a43, .ref m0a44, .ref m0a45, .ref m0a46, .ref m0a47, .int 0, .ref m0a49, .ref m0a50, .ref m0a51, .int 0, .ref m0a53, .ref m0a54, .ref m0a55, .ref m0a56, .ref m0a57, .ref m0a58, .ref m0a59, .ref m0a60, .ref m0a61, .ref m0a62, .ref m0a63, .long 0, .int 0, .int (-9), .ref m0a67, .ref m0a68, .ref m0a69, .ref m0a70, .ref m0a71, .ref m0a72, .ref m0a73, .ref m0a74, .ref m0a75, .long 0]))] := hD
        refine lv_if_eq (tgt := 19) hx hb dX12_force_6 (by decide) (fun _ => ?_) (fun c_8 => absurd (by decide) c_8)
        refine lv_iconst (v := (-1)) hx hb dX12_force_19 (by decide) ?_
        exact rI X hK hP hD hS dX12_force_20 (by rfl) (Nat.le_of_ble_eq_true rfl) (Nat.le_of_ble_eq_true rfl) (by show _ = _; unfold sp_X12_force; rw [if_neg c_3, if_neg c_5, if_pos c_7]; try rfl)
      ·
        rw [if_neg c_7] at hw_2
        rcases Classical.em (999 < d0) with c_9 | c_9
        ·
          rw [if_pos c_9] at hw_2
          obtain ⟨e1, e2⟩ := Prod.mk.inj hw_2
          subst e1; subst e2
          have hP : va_P g.1 classes [(m0, .inr (12, [.int 0, .ref m0a1, .int 0, .long 0, .int 0, .ref m0a5, .ref m0a6, .ref m0a7, .ref m0a8, .ref m0a9, .int 0, .ref m0a11, .ref m0a12, .ref m0a13, .ref m0a14, .ref m0a15, .ref m0a16, .int 0, .ref m0a18, .ref m0a19, .ref m0a20, .ref m0a21, .ref m0a22, .int 0, .ref m0a24, .ref m0a25, .ref m0a26, .int 0, .ref m0a28, .ref m0a29, .ref m0a30, .ref m0a31, .int 0, .ref m0a33, .ref m0a34, .ref m0a35, .ref m0a36, .ref m0a37, .ref m0a38, .ref m0a39, .ref m0a40, .ref m0a41, .ref m0a42, .ref m0a43, .ref m0a44, .ref m0a45, .ref m0a46, .ref m0a47, .int 0, .ref m0a49, .ref m0a50, .ref m0a51, .int 0, .ref m0a53, .ref m0a54, .ref m0a55, .ref m0a56, .ref m0a57, .ref m0a58, .ref m0a59, .ref m0a60, .ref m0a61, .ref m0a62, .ref m0a63, .long 0, .int 0, .int (-9), .ref m0a67, .ref m0a68, .ref m0a69, .ref m0a70, .ref m0a71, .ref m0a72, .ref m0a73, .ref m0a74, .ref m0a75, .long 0]))] H := hP
          have hD : va_D A [(m0, .inr (12, [.int 0, .ref m0a1, .int 0, .long 0, .int 0, .ref m0a5, .ref m0a6, .ref m0a7, .ref m0a8, .ref m0a9, .int 0, .ref m0a11, .ref m0a12, .ref m0a13, .ref m0a14, .ref m0a15, .ref m0a16, .int 0, .ref m0a18, .ref m0a19, .ref m0a20, .ref m0a21, .ref m0a22, .int 0, .ref m0a24, .ref m0a25, .ref m0a26, .int 0, .ref m0a28, .ref m0a29, .ref m0a30, .ref m0a31, .int 0, .ref m0a33, .ref m0a34, .ref m0a35, .ref m0a36, .ref m0a37, .ref m0a38, .ref m0a39, .ref m0a40, .ref m0a41, .ref m0a42, .ref m0a43, .ref m0a44, .ref m0a45, .ref m0a46, .ref m0a47, .int 0, .ref m0a49, .ref m0a50, .ref m0a51, .int 0, .ref m0a53, .ref m0a54, .ref m0a55, .ref m0a56, .ref m0a57, .ref m0a58, .ref m0a59, .ref m0a60, .ref m0a61, .ref m0a62, .ref m0a63, .long 0, .int 0, .int (-9), .ref m0a67, .ref m0a68, .ref m0a69, .ref m0a70, .ref m0a71, .ref m0a72, .ref m0a73, .ref m0a74, .ref m0a75, .long 0]))] := hD
          refine lv_if_eq (tgt := 19) hx hb dX12_force_6 (by decide) (fun _ => ?_) (fun c_10 => absurd (by decide) c_10)
          refine lv_iconst (v := (-1)) hx hb dX12_force_19 (by decide) ?_
          exact rI X hK hP hD hS dX12_force_20 (by rfl) (Nat.le_of_ble_eq_true rfl) (Nat.le_of_ble_eq_true rfl) (by show _ = _; unfold sp_X12_force; rw [if_neg c_3, if_neg c_5, if_neg c_7, if_pos c_9]; try rfl)
        ·
          rw [if_neg c_9] at hw_2
          rcases Classical.em (k0 < 0) with c_11 | c_11
          ·
            rw [if_pos c_11] at hw_2
            obtain ⟨e1, e2⟩ := Prod.mk.inj hw_2
            subst e1; subst e2
            have hP : va_P g.1 classes [(m0, .inr (12, [.int 0, .ref m0a1, .int 0, .long 0, .int 0, .ref m0a5, .ref m0a6, .ref m0a7, .ref m0a8, .ref m0a9, .int 0, .ref m0a11, .ref m0a12, .ref m0a13, .ref m0a14, .ref m0a15, .ref m0a16, .int 0, .ref m0a18, .ref m0a19, .ref m0a20, .ref m0a21, .ref m0a22, .int 0, .ref m0a24, .ref m0a25, .ref m0a26, .int 0, .ref m0a28, .ref m0a29, .ref m0a30, .ref m0a31, .int 0, .ref m0a33, .ref m0a34, .ref m0a35, .ref m0a36, .ref m0a37, .ref m0a38, .ref m0a39, .ref m0a40, .ref m0a41, .ref m0a42, .ref m0a43, .ref m0a44, .ref m0a45, .ref m0a46, .ref m0a47, .int 0, .ref m0a49, .ref m0a50, .ref m0a51, .int 0, .ref m0a53, .ref m0a54, .ref m0a55, .ref m0a56, .ref m0a57, .ref m0a58, .ref m0a59, .ref m0a60, .ref m0a61, .ref m0a62, .ref m0a63, .long 0, .int 0, .int (-9), .ref m0a67, .ref m0a68, .ref m0a69, .ref m0a70, .ref m0a71, .ref m0a72, .ref m0a73, .ref m0a74, .ref m0a75, .long 0]))] H := hP
            have hD : va_D A [(m0, .inr (12, [.int 0, .ref m0a1, .int 0, .long 0, .int 0, .ref m0a5, .ref m0a6, .ref m0a7, .ref m0a8, .ref m0a9, .int 0, .ref m0a11, .ref m0a12, .ref m0a13, .ref m0a14, .ref m0a15, .ref m0a16, .int 0, .ref m0a18, .ref m0a19, .ref m0a20, .ref m0a21, .ref m0a22, .int 0, .ref m0a24, .ref m0a25, .ref m0a26, .int 0, .ref m0a28, .ref m0a29, .ref m0a30, .ref m0a31, .int 0, .ref m0a33, .ref m0a34, .ref m0a35, .ref m0a36, .ref m0a37, .ref m0a38, .ref m0a39, .ref m0a40, .ref m0a41, .ref m0a42, .ref m0a43, .ref m0a44, .ref m0a45, .ref m0a46, .ref m0a47, .int 0, .ref m0a49, .ref m0a50, .ref m0a51, .int 0, .ref m0a53, .ref m0a54, .ref m0a55, .ref m0a56, .ref m0a57, .ref m0a58, .ref m0a59, .ref m0a60, .ref m0a61, .ref m0a62, .ref m0a63, .long 0, .int 0, .int (-9), .ref m0a67, .ref m0a68, .ref m0a69, .ref m0a70, .ref m0a71, .ref m0a72, .ref m0a73, .ref m0a74, .ref m0a75, .long 0]))] := hD
            refine lv_if_eq (tgt := 19) hx hb dX12_force_6 (by decide) (fun _ => ?_) (fun c_12 => absurd (by decide) c_12)
            refine lv_iconst (v := (-1)) hx hb dX12_force_19 (by decide) ?_
            exact rI X hK hP hD hS dX12_force_20 (by rfl) (Nat.le_of_ble_eq_true rfl) (Nat.le_of_ble_eq_true rfl) (by show _ = _; unfold sp_X12_force; rw [if_neg c_3, if_neg c_5, if_neg c_7, if_neg c_9, if_pos c_11]; try rfl)
          ·
            rw [if_neg c_11] at hw_2
            rcases Classical.em (999 < k0) with c_13 | c_13
            ·
              rw [if_pos c_13] at hw_2
              obtain ⟨e1, e2⟩ := Prod.mk.inj hw_2
              subst e1; subst e2
              have hP : va_P g.1 classes [(m0, .inr (12, [.int 0, .ref m0a1, .int 0, .long 0, .int 0, .ref m0a5, .ref m0a6, .ref m0a7, .ref m0a8, .ref m0a9, .int 0, .ref m0a11, .ref m0a12, .ref m0a13, .ref m0a14, .ref m0a15, .ref m0a16, .int 0, .ref m0a18, .ref m0a19, .ref m0a20, .ref m0a21, .ref m0a22, .int 0, .ref m0a24, .ref m0a25, .ref m0a26, .int 0, .ref m0a28, .ref m0a29, .ref m0a30, .ref m0a31, .int 0, .ref m0a33, .ref m0a34, .ref m0a35, .ref m0a36, .ref m0a37, .ref m0a38, .ref m0a39, .ref m0a40, .ref m0a41, .ref m0a42, .ref m0a43, .ref m0a44, .ref m0a45, .ref m0a46, .ref m0a47, .int 0, .ref m0a49, .ref m0a50, .ref m0a51, .int 0, .ref m0a53, .ref m0a54, .ref m0a55, .ref m0a56, .ref m0a57, .ref m0a58, .ref m0a59, .ref m0a60, .ref m0a61, .ref m0a62, .ref m0a63, .long 0, .int 0, .int (-9), .ref m0a67, .ref m0a68, .ref m0a69, .ref m0a70, .ref m0a71, .ref m0a72, .ref m0a73, .ref m0a74, .ref m0a75, .long 0]))] H := hP
              have hD : va_D A [(m0, .inr (12, [.int 0, .ref m0a1, .int 0, .long 0, .int 0, .ref m0a5, .ref m0a6, .ref m0a7, .ref m0a8, .ref m0a9, .int 0, .ref m0a11, .ref m0a12, .ref m0a13, .ref m0a14, .ref m0a15, .ref m0a16, .int 0, .ref m0a18, .ref m0a19, .ref m0a20, .ref m0a21, .ref m0a22, .int 0, .ref m0a24, .ref m0a25, .ref m0a26, .int 0, .ref m0a28, .ref m0a29, .ref m0a30, .ref m0a31, .int 0, .ref m0a33, .ref m0a34, .ref m0a35, .ref m0a36, .ref m0a37, .ref m0a38, .ref m0a39, .ref m0a40, .ref m0a41, .ref m0a42, .ref m0a43, .ref m0a44, .ref m0a45, .ref m0a46, .ref m0a47, .int 0, .ref m0a49, .ref m0a50, .ref m0a51, .int 0, .ref m0a53, .ref m0a54, .ref m0a55, .ref m0a56, .ref m0a57, .ref m0a58, .ref m0a59, .ref m0a60, .ref m0a61, .ref m0a62, .ref m0a63, .long 0, .int 0, .int (-9), .ref m0a67, .ref m0a68, .ref m0a69, .ref m0a70, .ref m0a71, .ref m0a72, .ref m0a73, .ref m0a74, .ref m0a75, .long 0]))] := hD
              refine lv_if_eq (tgt := 19) hx hb dX12_force_6 (by decide) (fun _ => ?_) (fun c_14 => absurd (by decide) c_14)
              refine lv_iconst (v := (-1)) hx hb dX12_force_19 (by decide) ?_
              exact rI X hK hP hD hS dX12_force_20 (by rfl) (Nat.le_of_ble_eq_true rfl) (Nat.le_of_ble_eq_true rfl) (by show _ = _; unfold sp_X12_force; rw [if_neg c_3, if_neg c_5, if_neg c_7, if_neg c_9, if_neg c_11, if_pos c_13]; try rfl)
            ·
              rw [if_neg c_13] at hw_2
              obtain ⟨e1, e2⟩ := Prod.mk.inj hw_2
              subst e1; subst e2
              have hP : va_P g.1 classes [(m0, .inr (12, [.int 0, .ref m0a1, .int 0, .long 0, .int 0, .ref m0a5, .ref m0a6, .ref m0a7, .ref m0a8, .ref m0a9, .int 0, .ref m0a11, .ref m0a12, .ref m0a13, .ref m0a14, .ref m0a15, .ref m0a16, .int 0, .ref m0a18, .ref m0a19, .ref m0a20, .ref m0a21, .ref m0a22, .int 0, .ref m0a24, .ref m0a25, .ref m0a26, .int 0, .ref m0a28, .ref m0a29, .ref m0a30, .ref m0a31, .int 0, .ref m0a33, .ref m0a34, .ref m0a35, .ref m0a36, .ref m0a37, .ref m0a38, .ref m0a39, .ref m0a40, .ref m0a41, .ref m0a42, .ref m0a43, .ref m0a44, .ref m0a45, .ref m0a46, .ref m0a47, .int 0, .ref m0a49, .ref m0a50, .ref m0a51, .int 0, .ref m0a53, .ref m0a54, .ref m0a55, .ref m0a56, .ref m0a57, .ref m0a58, .ref m0a59, .ref m0a60, .ref m0a61, .ref m0a62, .ref m0a63, .long 0, .int 0, .int (-9), .ref m0a67, .ref m0a68, .ref m0a69, .ref m0a70, .ref m0a71, .ref m0a72, .ref m0a73, .ref m0a74, .ref m0a75, .long 0]))] H := hP
              have hD : va_D A [(m0, .inr (12, [.int 0, .ref m0a1, .int 0, .long 0, .int 0, .ref m0a5, .ref m0a6, .ref m0a7, .ref m0a8, .ref m0a9, .int 0, .ref m0a11, .ref m0a12, .ref m0a13, .ref m0a14, .ref m0a15, .ref m0a16, .int 0, .ref m0a18, .ref m0a19, .ref m0a20, .ref m0a21, .ref m0a22, .int 0, .ref m0a24, .ref m0a25, .ref m0a26, .int 0, .ref m0a28, .ref m0a29, .ref m0a30, .ref m0a31, .int 0, .ref m0a33, .ref m0a34, .ref m0a35, .ref m0a36, .ref m0a37, .ref m0a38, .ref m0a39, .ref m0a40, .ref m0a41, .ref m0a42, .ref m0a43, .ref m0a44, .ref m0a45, .ref m0a46, .ref m0a47, .int 0, .ref m0a49, .ref m0a50, .ref m0a51, .int 0, .ref m0a53, .ref m0a54, .ref m0a55, .ref m0a56, .ref m0a57, .ref m0a58, .ref m0a59, .ref m0a60, .ref m0a61, .ref m0a62, .ref m0a63, .long 0, .int 0, .int (-9), .ref m0a67, .ref m0a68, .ref m0a69, .ref m0a70, .ref m0a71, .ref m0a72, .ref m0a73, .ref m0a74, .ref m0a75, .long 0]))] := hD
              refine lv_if_eq (tgt := 19) hx hb dX12_force_6 (by decide) (fun c_15 => absurd c_15 (by decide)) (fun _ => ?_)
              refine lv_aload_n hx hb dX12_force_9 rfl (lv_at hl 0 rfl) ?_
              refine lv_iload_n hx hb dX12_force_10 rfl (lv_at hl 1 rfl) ?_
              refine lv_iload_n hx hb dX12_force_11 rfl (lv_at hl 2 rfl) ?_
              refine lv_iload_n hx hb dX12_force_12 rfl (lv_at hl 3 rfl) ?_
              refine kVi (As := [.int l0, .int d0, .int k0]) (rest := []) (wr := []) X (c_X12_inForce l g m0 l0 d0 k0 m0a1 m0a5 m0a6 m0a7 m0a8 m0a9 m0a11 m0a12 m0a13 m0a14 m0a15 m0a16 m0a18 m0a19 m0a20 m0a21 m0a22 m0a24 m0a25 m0a26 m0a28 m0a29 m0a30 m0a31 m0a33 m0a34 m0a35 m0a36 m0a37 m0a38 m0a39 m0a40 m0a41 m0a42 m0a43 m0a44 m0a45 m0a46 m0a47 m0a49 m0a50 m0a51 m0a53 m0a54 m0a55 m0a56 m0a57 m0a58 m0a59 m0a60 m0a61 m0a62 m0a63 m0a67 m0a68 m0a69 m0a70 m0a71 m0a72 m0a73 m0a74 m0a75 c_3 c_5) ok_X12_inForce okv_X12_inForce q_1772 rfl hK hP hD hS hA hZ hl.1 [0] [] rfl rfl rfl rfl rfl 0 12 rfl rfl rfl (Nat.le_of_ble_eq_true rfl) ⟨Nat.le_of_ble_eq_true rfl, Nat.le_of_ble_eq_true rfl⟩ dX12_force_13 ⟨Nat.le_of_ble_eq_true rfl, Nat.le_of_ble_eq_true rfl⟩ (fun r_16 w1 H locs hw_17 hP hD hS => ?_)
              rw [sp_X12_inForce] at hw_17
              rcases Classical.em (l0 = 0) with c_18 | c_18
              ·
                rw [if_pos c_18] at hw_17
                obtain ⟨e1, e2⟩ := Prod.mk.inj hw_17
                subst e1; subst e2
                have hP : va_P g.1 classes [(m0, .inr (12, [.int 0, .ref m0a1, .int 0, .long 0, .int 0, .ref m0a5, .ref m0a6, .ref m0a7, .ref m0a8, .ref m0a9, .int 0, .ref m0a11, .ref m0a12, .ref m0a13, .ref m0a14, .ref m0a15, .ref m0a16, .int 0, .ref m0a18, .ref m0a19, .ref m0a20, .ref m0a21, .ref m0a22, .int 0, .ref m0a24, .ref m0a25, .ref m0a26, .int 0, .ref m0a28, .ref m0a29, .ref m0a30, .ref m0a31, .int 0, .ref m0a33, .ref m0a34, .ref m0a35, .ref m0a36, .ref m0a37, .ref m0a38, .ref m0a39, .ref m0a40, .ref m0a41, .ref m0a42, .ref m0a43, .ref m0a44, .ref m0a45, .ref m0a46, .ref m0a47, .int 0, .ref m0a49, .ref m0a50, .ref m0a51, .int 0, .ref m0a53, .ref m0a54, .ref m0a55, .ref m0a56, .ref m0a57, .ref m0a58, .ref m0a59, .ref m0a60, .ref m0a61, .ref m0a62, .ref m0a63, .long 0, .int 0, .int (-9), .ref m0a67, .ref m0a68, .ref m0a69, .ref m0a70, .ref m0a71, .ref m0a72, .ref m0a73, .ref m0a74, .ref m0a75, .long 0]))] H := hP
                have hD : va_D A [(m0, .inr (12, [.int 0, .ref m0a1, .int 0, .long 0, .int 0, .ref m0a5, .ref m0a6, .ref m0a7, .ref m0a8, .ref m0a9, .int 0, .ref m0a11, .ref m0a12, .ref m0a13, .ref m0a14, .ref m0a15, .ref m0a16, .int 0, .ref m0a18, .ref m0a19, .ref m0a20, .ref m0a21, .ref m0a22, .int 0, .ref m0a24, .ref m0a25, .ref m0a26, .int 0, .ref m0a28, .ref m0a29, .ref m0a30, .ref m0a31, .int 0, .ref m0a33, .ref m0a34, .ref m0a35, .ref m0a36, .ref m0a37, .ref m0a38, .ref m0a39, .ref m0a40, .ref m0a41, .ref m0a42, .ref m0a43, .ref m0a44, .ref m0a45, .ref m0a46, .ref m0a47, .int 0, .ref m0a49, .ref m0a50, .ref m0a51, .int 0, .ref m0a53, .ref m0a54, .ref m0a55, .ref m0a56, .ref m0a57, .ref m0a58, .ref m0a59, .ref m0a60, .ref m0a61, .ref m0a62, .ref m0a63, .long 0, .int 0, .int (-9), .ref m0a67, .ref m0a68, .ref m0a69, .ref m0a70, .ref m0a71, .ref m0a72, .ref m0a73, .ref m0a74, .ref m0a75, .long 0]))] := hD
                refine lv_goto (tgt := 20) hx hb dX12_force_16 (by decide) ?_
                exact rI X hK hP hD hS dX12_force_20 (by rfl) (Nat.le_of_ble_eq_true rfl) (Nat.le_of_ble_eq_true rfl) (by show _ = _; unfold sp_X12_force; rw [if_neg c_3, if_neg c_5, if_neg c_7, if_neg c_9, if_neg c_11, if_neg c_13, if_pos c_18]; try rfl)
              ·
                rw [if_neg c_18] at hw_17
                rcases Classical.em (l0 = 1) with c_19 | c_19
                ·
                  rw [if_pos c_19] at hw_17
                  obtain ⟨e1, e2⟩ := Prod.mk.inj hw_17
                  subst e1; subst e2
                  have hP : va_P g.1 classes [(m0, .inr (12, [.int 0, .ref m0a1, .int 0, .long 0, .int 0, .ref m0a5, .ref m0a6, .ref m0a7, .ref m0a8, .ref m0a9, .int 0, .ref m0a11, .ref m0a12, .ref m0a13, .ref m0a14, .ref m0a15, .ref m0a16, .int 0, .ref m0a18, .ref m0a19, .ref m0a20, .ref m0a21, .ref m0a22, .int 0, .ref m0a24, .ref m0a25, .ref m0a26, .int 0, .ref m0a28, .ref m0a29, .ref m0a30, .ref m0a31, .int 0, .ref m0a33, .ref m0a34, .ref m0a35, .ref m0a36, .ref m0a37, .ref m0a38, .ref m0a39, .ref m0a40, .ref m0a41, .ref m0a42, .ref m0a43, .ref m0a44, .ref m0a45, .ref m0a46, .ref m0a47, .int 0, .ref m0a49, .ref m0a50, .ref m0a51, .int 0, .ref m0a53, .ref m0a54, .ref m0a55, .ref m0a56, .ref m0a57, .ref m0a58, .ref m0a59, .ref m0a60, .ref m0a61, .ref m0a62, .ref m0a63, .long 0, .int 0, .int (-9), .ref m0a67, .ref m0a68, .ref m0a69, .ref m0a70, .ref m0a71, .ref m0a72, .ref m0a73, .ref m0a74, .ref m0a75, .long 0]))] H := hP
                  have hD : va_D A [(m0, .inr (12, [.int 0, .ref m0a1, .int 0, .long 0, .int 0, .ref m0a5, .ref m0a6, .ref m0a7, .ref m0a8, .ref m0a9, .int 0, .ref m0a11, .ref m0a12, .ref m0a13, .ref m0a14, .ref m0a15, .ref m0a16, .int 0, .ref m0a18, .ref m0a19, .ref m0a20, .ref m0a21, .ref m0a22, .int 0, .ref m0a24, .ref m0a25, .ref m0a26, .int 0, .ref m0a28, .ref m0a29, .ref m0a30, .ref m0a31, .int 0, .ref m0a33, .ref m0a34, .ref m0a35, .ref m0a36, .ref m0a37, .ref m0a38, .ref m0a39, .ref m0a40, .ref m0a41, .ref m0a42, .ref m0a43, .ref m0a44, .ref m0a45, .ref m0a46, .ref m0a47, .int 0, .ref m0a49, .ref m0a50, .ref m0a51, .int 0, .ref m0a53, .ref m0a54, .ref m0a55, .ref m0a56, .ref m0a57, .ref m0a58, .ref m0a59, .ref m0a60, .ref m0a61, .ref m0a62, .ref m0a63, .long 0, .int 0, .int (-9), .ref m0a67, .ref m0a68, .ref m0a69, .ref m0a70, .ref m0a71, .ref m0a72, .ref m0a73, .ref m0a74, .ref m0a75, .long 0]))] := hD
                  refine lv_goto (tgt := 20) hx hb dX12_force_16 (by decide) ?_
                  exact rI X hK hP hD hS dX12_force_20 (by rfl) (Nat.le_of_ble_eq_true rfl) (Nat.le_of_ble_eq_true rfl) (by show _ = _; unfold sp_X12_force; rw [if_neg c_3, if_neg c_5, if_neg c_7, if_neg c_9, if_neg c_11, if_neg c_13, if_neg c_18, if_pos c_19]; try rfl)
                ·
                  rw [if_neg c_19] at hw_17
                  rcases Classical.em (l0 = 2) with c_20 | c_20
                  ·
                    rw [if_pos c_20] at hw_17
                    obtain ⟨e1, e2⟩ := Prod.mk.inj hw_17
                    subst e1; subst e2
                    have hP : va_P g.1 classes [(m0, .inr (12, [.int 0, .ref m0a1, .int 0, .long 0, .int 0, .ref m0a5, .ref m0a6, .ref m0a7, .ref m0a8, .ref m0a9, .int 0, .ref m0a11, .ref m0a12, .ref m0a13, .ref m0a14, .ref m0a15, .ref m0a16, .int 0, .ref m0a18, .ref m0a19, .ref m0a20, .ref m0a21, .ref m0a22, .int 0, .ref m0a24, .ref m0a25, .ref m0a26, .int 0, .ref m0a28, .ref m0a29, .ref m0a30, .ref m0a31, .int 0, .ref m0a33, .ref m0a34, .ref m0a35, .ref m0a36, .ref m0a37, .ref m0a38, .ref m0a39, .ref m0a40, .ref m0a41, .ref m0a42, .ref m0a43, .ref m0a44, .ref m0a45, .ref m0a46, .ref m0a47, .int 0, .ref m0a49, .ref m0a50, .ref m0a51, .int 0, .ref m0a53, .ref m0a54, .ref m0a55, .ref m0a56, .ref m0a57, .ref m0a58, .ref m0a59, .ref m0a60, .ref m0a61, .ref m0a62, .ref m0a63, .long 0, .int 0, .int (-9), .ref m0a67, .ref m0a68, .ref m0a69, .ref m0a70, .ref m0a71, .ref m0a72, .ref m0a73, .ref m0a74, .ref m0a75, .long 0]))] H := hP
                    have hD : va_D A [(m0, .inr (12, [.int 0, .ref m0a1, .int 0, .long 0, .int 0, .ref m0a5, .ref m0a6, .ref m0a7, .ref m0a8, .ref m0a9, .int 0, .ref m0a11, .ref m0a12, .ref m0a13, .ref m0a14, .ref m0a15, .ref m0a16, .int 0, .ref m0a18, .ref m0a19, .ref m0a20, .ref m0a21, .ref m0a22, .int 0, .ref m0a24, .ref m0a25, .ref m0a26, .int 0, .ref m0a28, .ref m0a29, .ref m0a30, .ref m0a31, .int 0, .ref m0a33, .ref m0a34, .ref m0a35, .ref m0a36, .ref m0a37, .ref m0a38, .ref m0a39, .ref m0a40, .ref m0a41, .ref m0a42, .ref m0a43, .ref m0a44, .ref m0a45, .ref m0a46, .ref m0a47, .int 0, .ref m0a49, .ref m0a50, .ref m0a51, .int 0, .ref m0a53, .ref m0a54, .ref m0a55, .ref m0a56, .ref m0a57, .ref m0a58, .ref m0a59, .ref m0a60, .ref m0a61, .ref m0a62, .ref m0a63, .long 0, .int 0, .int (-9), .ref m0a67, .ref m0a68, .ref m0a69, .ref m0a70, .ref m0a71, .ref m0a72, .ref m0a73, .ref m0a74, .ref m0a75, .long 0]))] := hD
                    refine lv_goto (tgt := 20) hx hb dX12_force_16 (by decide) ?_
                    exact rI X hK hP hD hS dX12_force_20 (by rfl) (Nat.le_of_ble_eq_true rfl) (Nat.le_of_ble_eq_true rfl) (by show _ = _; unfold sp_X12_force; rw [if_neg c_3, if_neg c_5, if_neg c_7, if_neg c_9, if_neg c_11, if_neg c_13, if_neg c_18, if_neg c_19, if_pos c_20]; try rfl)
                  ·
                    rw [if_neg c_20] at hw_17
                    rcases Classical.em (l0 = 3) with c_21 | c_21
                    ·
                      rw [if_pos c_21] at hw_17
                      obtain ⟨e1, e2⟩ := Prod.mk.inj hw_17
                      subst e1; subst e2
                      have hP : va_P g.1 classes [(m0, .inr (12, [.int 0, .ref m0a1, .int 0, .long 0, .int 0, .ref m0a5, .ref m0a6, .ref m0a7, .ref m0a8, .ref m0a9, .int 0, .ref m0a11, .ref m0a12, .ref m0a13, .ref m0a14, .ref m0a15, .ref m0a16, .int 0, .ref m0a18, .ref m0a19, .ref m0a20, .ref m0a21, .ref m0a22, .int 0, .ref m0a24, .ref m0a25, .ref m0a26, .int 0, .ref m0a28, .ref m0a29, .ref m0a30, .ref m0a31, .int 0, .ref m0a33, .ref m0a34, .ref m0a35, .ref m0a36, .ref m0a37, .ref m0a38, .ref m0a39, .ref m0a40, .ref m0a41, .ref m0a42, .ref m0a43, .ref m0a44, .ref m0a45, .ref m0a46, .ref m0a47, .int 0, .ref m0a49, .ref m0a50, .ref m0a51, .int 0, .ref m0a53, .ref m0a54, .ref m0a55, .ref m0a56, .ref m0a57, .ref m0a58, .ref m0a59, .ref m0a60, .ref m0a61, .ref m0a62, .ref m0a63, .long 0, .int 0, .int (-9), .ref m0a67, .ref m0a68, .ref m0a69, .ref m0a70, .ref m0a71, .ref m0a72, .ref m0a73, .ref m0a74, .ref m0a75, .long 0]))] H := hP
                      have hD : va_D A [(m0, .inr (12, [.int 0, .ref m0a1, .int 0, .long 0, .int 0, .ref m0a5, .ref m0a6, .ref m0a7, .ref m0a8, .ref m0a9, .int 0, .ref m0a11, .ref m0a12, .ref m0a13, .ref m0a14, .ref m0a15, .ref m0a16, .int 0, .ref m0a18, .ref m0a19, .ref m0a20, .ref m0a21, .ref m0a22, .int 0, .ref m0a24, .ref m0a25, .ref m0a26, .int 0, .ref m0a28, .ref m0a29, .ref m0a30, .ref m0a31, .int 0, .ref m0a33, .ref m0a34, .ref m0a35, .ref m0a36, .ref m0a37, .ref m0a38, .ref m0a39, .ref m0a40, .ref m0a41, .ref m0a42, .ref m0a43, .ref m0a44, .ref m0a45, .ref m0a46, .ref m0a47, .int 0, .ref m0a49, .ref m0a50, .ref m0a51, .int 0, .ref m0a53, .ref m0a54, .ref m0a55, .ref m0a56, .ref m0a57, .ref m0a58, .ref m0a59, .ref m0a60, .ref m0a61, .ref m0a62, .ref m0a63, .long 0, .int 0, .int (-9), .ref m0a67, .ref m0a68, .ref m0a69, .ref m0a70, .ref m0a71, .ref m0a72, .ref m0a73, .ref m0a74, .ref m0a75, .long 0]))] := hD
                      refine lv_goto (tgt := 20) hx hb dX12_force_16 (by decide) ?_
                      exact rI X hK hP hD hS dX12_force_20 (by rfl) (Nat.le_of_ble_eq_true rfl) (Nat.le_of_ble_eq_true rfl) (by show _ = _; unfold sp_X12_force; rw [if_neg c_3, if_neg c_5, if_neg c_7, if_neg c_9, if_neg c_11, if_neg c_13, if_neg c_18, if_neg c_19, if_neg c_20, if_pos c_21]; try rfl)
                    ·
                      rw [if_neg c_21] at hw_17
                      rcases Classical.em (l0 = 4) with c_22 | c_22
                      ·
                        rw [if_pos c_22] at hw_17
                        obtain ⟨e1, e2⟩ := Prod.mk.inj hw_17
                        subst e1; subst e2
                        have hP : va_P g.1 classes [(m0, .inr (12, [.int 0, .ref m0a1, .int 0, .long 0, .int 0, .ref m0a5, .ref m0a6, .ref m0a7, .ref m0a8, .ref m0a9, .int 0, .ref m0a11, .ref m0a12, .ref m0a13, .ref m0a14, .ref m0a15, .ref m0a16, .int 0, .ref m0a18, .ref m0a19, .ref m0a20, .ref m0a21, .ref m0a22, .int 0, .ref m0a24, .ref m0a25, .ref m0a26, .int 0, .ref m0a28, .ref m0a29, .ref m0a30, .ref m0a31, .int 0, .ref m0a33, .ref m0a34, .ref m0a35, .ref m0a36, .ref m0a37, .ref m0a38, .ref m0a39, .ref m0a40, .ref m0a41, .ref m0a42, .ref m0a43, .ref m0a44, .ref m0a45, .ref m0a46, .ref m0a47, .int 0, .ref m0a49, .ref m0a50, .ref m0a51, .int 0, .ref m0a53, .ref m0a54, .ref m0a55, .ref m0a56, .ref m0a57, .ref m0a58, .ref m0a59, .ref m0a60, .ref m0a61, .ref m0a62, .ref m0a63, .long 0, .int 0, .int (-9), .ref m0a67, .ref m0a68, .ref m0a69, .ref m0a70, .ref m0a71, .ref m0a72, .ref m0a73, .ref m0a74, .ref m0a75, .long 0]))] H := hP
                        have hD : va_D A [(m0, .inr (12, [.int 0, .ref m0a1, .int 0, .long 0, .int 0, .ref m0a5, .ref m0a6, .ref m0a7, .ref m0a8, .ref m0a9, .int 0, .ref m0a11, .ref m0a12, .ref m0a13, .ref m0a14, .ref m0a15, .ref m0a16, .int 0, .ref m0a18, .ref m0a19, .ref m0a20, .ref m0a21, .ref m0a22, .int 0, .ref m0a24, .ref m0a25, .ref m0a26, .int 0, .ref m0a28, .ref m0a29, .ref m0a30, .ref m0a31, .int 0, .ref m0a33, .ref m0a34, .ref m0a35, .ref m0a36, .ref m0a37, .ref m0a38, .ref m0a39, .ref m0a40, .ref m0a41, .ref m0a42, .ref m0a43, .ref m0a44, .ref m0a45, .ref m0a46, .ref m0a47, .int 0, .ref m0a49, .ref m0a50, .ref m0a51, .int 0, .ref m0a53, .ref m0a54, .ref m0a55, .ref m0a56, .ref m0a57, .ref m0a58, .ref m0a59, .ref m0a60, .ref m0a61, .ref m0a62, .ref m0a63, .long 0, .int 0, .int (-9), .ref m0a67, .ref m0a68, .ref m0a69, .ref m0a70, .ref m0a71, .ref m0a72, .ref m0a73, .ref m0a74, .ref m0a75, .long 0]))] := hD
                        refine lv_goto (tgt := 20) hx hb dX12_force_16 (by decide) ?_
                        exact rI X hK hP hD hS dX12_force_20 (by rfl) (Nat.le_of_ble_eq_true rfl) (Nat.le_of_ble_eq_true rfl) (by show _ = _; unfold sp_X12_force; rw [if_neg c_3, if_neg c_5, if_neg c_7, if_neg c_9, if_neg c_11, if_neg c_13, if_neg c_18, if_neg c_19, if_neg c_20, if_neg c_21, if_pos c_22]; try rfl)
                      ·
                        rw [if_neg c_22] at hw_17
                        rcases Classical.em (l0 = 5) with c_23 | c_23
                        ·
                          rw [if_pos c_23] at hw_17
                          obtain ⟨e1, e2⟩ := Prod.mk.inj hw_17
                          subst e1; subst e2
                          have hP : va_P g.1 classes [(m0, .inr (12, [.int 0, .ref m0a1, .int 0, .long 0, .int 0, .ref m0a5, .ref m0a6, .ref m0a7, .ref m0a8, .ref m0a9, .int 0, .ref m0a11, .ref m0a12, .ref m0a13, .ref m0a14, .ref m0a15, .ref m0a16, .int 0, .ref m0a18, .ref m0a19, .ref m0a20, .ref m0a21, .ref m0a22, .int 0, .ref m0a24, .ref m0a25, .ref m0a26, .int 0, .ref m0a28, .ref m0a29, .ref m0a30, .ref m0a31, .int 0, .ref m0a33, .ref m0a34, .ref m0a35, .ref m0a36, .ref m0a37, .ref m0a38, .ref m0a39, .ref m0a40, .ref m0a41, .ref m0a42, .ref m0a43, .ref m0a44, .ref m0a45, .ref m0a46, .ref m0a47, .int 0, .ref m0a49, .ref m0a50, .ref m0a51, .int 0, .ref m0a53, .ref m0a54, .ref m0a55, .ref m0a56, .ref m0a57, .ref m0a58, .ref m0a59, .ref m0a60, .ref m0a61, .ref m0a62, .ref m0a63, .long 0, .int 0, .int (-9), .ref m0a67, .ref m0a68, .ref m0a69, .ref m0a70, .ref m0a71, .ref m0a72, .ref m0a73, .ref m0a74, .ref m0a75, .long 0]))] H := hP
                          have hD : va_D A [(m0, .inr (12, [.int 0, .ref m0a1, .int 0, .long 0, .int 0, .ref m0a5, .ref m0a6, .ref m0a7, .ref m0a8, .ref m0a9, .int 0, .ref m0a11, .ref m0a12, .ref m0a13, .ref m0a14, .ref m0a15, .ref m0a16, .int 0, .ref m0a18, .ref m0a19, .ref m0a20, .ref m0a21, .ref m0a22, .int 0, .ref m0a24, .ref m0a25, .ref m0a26, .int 0, .ref m0a28, .ref m0a29, .ref m0a30, .ref m0a31, .int 0, .ref m0a33, .ref m0a34, .ref m0a35, .ref m0a36, .ref m0a37, .ref m0a38, .ref m0a39, .ref m0a40, .ref m0a41, .ref m0a42, .ref m0a43, .ref m0a44, .ref m0a45, .ref m0a46, .ref m0a47, .int 0, .ref m0a49, .ref m0a50, .ref m0a51, .int 0, .ref m0a53, .ref m0a54, .ref m0a55, .ref m0a56, .ref m0a57, .ref m0a58, .ref m0a59, .ref m0a60, .ref m0a61, .ref m0a62, .ref m0a63, .long 0, .int 0, .int (-9), .ref m0a67, .ref m0a68, .ref m0a69, .ref m0a70, .ref m0a71, .ref m0a72, .ref m0a73, .ref m0a74, .ref m0a75, .long 0]))] := hD
                          refine lv_goto (tgt := 20) hx hb dX12_force_16 (by decide) ?_
                          exact rI X hK hP hD hS dX12_force_20 (by rfl) (Nat.le_of_ble_eq_true rfl) (Nat.le_of_ble_eq_true rfl) (by show _ = _; unfold sp_X12_force; rw [if_neg c_3, if_neg c_5, if_neg c_7, if_neg c_9, if_neg c_11, if_neg c_13, if_neg c_18, if_neg c_19, if_neg c_20, if_neg c_21, if_neg c_22, if_pos c_23]; try rfl)
                        ·
                          rw [if_neg c_23] at hw_17
                          rcases Classical.em (l0 = 6) with c_24 | c_24
                          ·
                            rw [if_pos c_24] at hw_17
                            obtain ⟨e1, e2⟩ := Prod.mk.inj hw_17
                            subst e1; subst e2
                            have hP : va_P g.1 classes [(m0, .inr (12, [.int 0, .ref m0a1, .int 0, .long 0, .int 0, .ref m0a5, .ref m0a6, .ref m0a7, .ref m0a8, .ref m0a9, .int 0, .ref m0a11, .ref m0a12, .ref m0a13, .ref m0a14, .ref m0a15, .ref m0a16, .int 0, .ref m0a18, .ref m0a19, .ref m0a20, .ref m0a21, .ref m0a22, .int 0, .ref m0a24, .ref m0a25, .ref m0a26, .int 0, .ref m0a28, .ref m0a29, .ref m0a30, .ref m0a31, .int 0, .ref m0a33, .ref m0a34, .ref m0a35, .ref m0a36, .ref m0a37, .ref m0a38, .ref m0a39, .ref m0a40, .ref m0a41, .ref m0a42, .ref m0a43, .ref m0a44, .ref m0a45, .ref m0a46, .ref m0a47, .int 0, .ref m0a49, .ref m0a50, .ref m0a51, .int 0, .ref m0a53, .ref m0a54, .ref m0a55, .ref m0a56, .ref m0a57, .ref m0a58, .ref m0a59, .ref m0a60, .ref m0a61, .ref m0a62, .ref m0a63, .long 0, .int 0, .int (-9), .ref m0a67, .ref m0a68, .ref m0a69, .ref m0a70, .ref m0a71, .ref m0a72, .ref m0a73, .ref m0a74, .ref m0a75, .long 0]))] H := hP
                            have hD : va_D A [(m0, .inr (12, [.int 0, .ref m0a1, .int 0, .long 0, .int 0, .ref m0a5, .ref m0a6, .ref m0a7, .ref m0a8, .ref m0a9, .int 0, .ref m0a11, .ref m0a12, .ref m0a13, .ref m0a14, .ref m0a15, .ref m0a16, .int 0, .ref m0a18, .ref m0a19, .ref m0a20, .ref m0a21, .ref m0a22, .int 0, .ref m0a24, .ref m0a25, .ref m0a26, .int 0, .ref m0a28, .ref m0a29, .ref m0a30, .ref m0a31, .int 0, .ref m0a33, .ref m0a34, .ref m0a35, .ref m0a36, .ref m0a37, .ref m0a38, .ref m0a39, .ref m0a40, .ref m0a41, .ref m0a42, .ref m0a43, .ref m0a44, .ref m0a45, .ref m0a46, .ref m0a47, .int 0, .ref m0a49, .ref m0a50, .ref m0a51, .int 0, .ref m0a53, .ref m0a54, .ref m0a55, .ref m0a56, .ref m0a57, .ref m0a58, .ref m0a59, .ref m0a60, .ref m0a61, .ref m0a62, .ref m0a63, .long 0, .int 0, .int (-9), .ref m0a67, .ref m0a68, .ref m0a69, .ref m0a70, .ref m0a71, .ref m0a72, .ref m0a73, .ref m0a74, .ref m0a75, .long 0]))] := hD
                            refine lv_goto (tgt := 20) hx hb dX12_force_16 (by decide) ?_
                            exact rI X hK hP hD hS dX12_force_20 (by rfl) (Nat.le_of_ble_eq_true rfl) (Nat.le_of_ble_eq_true rfl) (by show _ = _; unfold sp_X12_force; rw [if_neg c_3, if_neg c_5, if_neg c_7, if_neg c_9, if_neg c_11, if_neg c_13, if_neg c_18, if_neg c_19, if_neg c_20, if_neg c_21, if_neg c_22, if_neg c_23, if_pos c_24]; try rfl)
                          ·
                            rw [if_neg c_24] at hw_17
                            obtain ⟨e1, e2⟩ := Prod.mk.inj hw_17
                            subst e1; subst e2
                            have hP : va_P g.1 classes [(m0, .inr (12, [.int 0, .ref m0a1, .int 0, .long 0, .int 0, .ref m0a5, .ref m0a6, .ref m0a7, .ref m0a8, .ref m0a9, .int 0, .ref m0a11, .ref m0a12, .ref m0a13, .ref m0a14, .ref m0a15, .ref m0a16, .int 0, .ref m0a18, .ref m0a19, .ref m0a20, .ref m0a21, .ref m0a22, .int 0, .ref m0a24, .ref m0a25, .ref m0a26, .int 0, .ref m0a28, .ref m0a29, .ref m0a30, .ref m0a31, .int 0, .ref m0a33, .ref m0a34, .ref m0a35, .ref m0a36, .ref m0a37, .ref m0a38, .ref m0a39, .ref m0a40, .ref m0a41, .ref m0a42, .ref m0a43, .ref m0a44, .ref m0a45, .ref m0a46, .ref m0a47, .int 0, .ref m0a49, .ref m0a50, .ref m0a51, .int 0, .ref m0a53, .ref m0a54, .ref m0a55, .ref m0a56, .ref m0a57, .ref m0a58, .ref m0a59, .ref m0a60, .ref m0a61, .ref m0a62, .ref m0a63, .long 0, .int 0, .int (-9), .ref m0a67, .ref m0a68, .ref m0a69, .ref m0a70, .ref m0a71, .ref m0a72, .ref m0a73, .ref m0a74, .ref m0a75, .long 0]))] H := hP
                            have hD : va_D A [(m0, .inr (12, [.int 0, .ref m0a1, .int 0, .long 0, .int 0, .ref m0a5, .ref m0a6, .ref m0a7, .ref m0a8, .ref m0a9, .int 0, .ref m0a11, .ref m0a12, .ref m0a13, .ref m0a14, .ref m0a15, .ref m0a16, .int 0, .ref m0a18, .ref m0a19, .ref m0a20, .ref m0a21, .ref m0a22, .int 0, .ref m0a24, .ref m0a25, .ref m0a26, .int 0, .ref m0a28, .ref m0a29, .ref m0a30, .ref m0a31, .int 0, .ref m0a33, .ref m0a34, .ref m0a35, .ref m0a36, .ref m0a37, .ref m0a38, .ref m0a39, .ref m0a40, .ref m0a41, .ref m0a42, .ref m0a43, .ref m0a44, .ref m0a45, .ref m0a46, .ref m0a47, .int 0, .ref m0a49, .ref m0a50, .ref m0a51, .int 0, .ref m0a53, .ref m0a54, .ref m0a55, .ref m0a56, .ref m0a57, .ref m0a58, .ref m0a59, .ref m0a60, .ref m0a61, .ref m0a62, .ref m0a63, .long 0, .int 0, .int (-9), .ref m0a67, .ref m0a68, .ref m0a69, .ref m0a70, .ref m0a71, .ref m0a72, .ref m0a73, .ref m0a74, .ref m0a75, .long 0]))] := hD
                            refine lv_goto (tgt := 20) hx hb dX12_force_16 (by decide) ?_
                            exact rI X hK hP hD hS dX12_force_20 (by rfl) (Nat.le_of_ble_eq_true rfl) (Nat.le_of_ble_eq_true rfl) (by show _ = _; unfold sp_X12_force; rw [if_neg c_3, if_neg c_5, if_neg c_7, if_neg c_9, if_neg c_11, if_neg c_13, if_neg c_18, if_neg c_19, if_neg c_20, if_neg c_21, if_neg c_22, if_neg c_23, if_neg c_24]; try rfl)
def sp_J13_bitCount0 (g : GG)  : Int32 × va_W := (0, [])
set_option maxHeartbeats 4000000 in
set_option maxRecDepth 100000 in
theorem c_J13_bitCount0 (l : Launch) (g : GG)  : MI l g yJ13_bitCount_95d88 cJ13_bitCount_95d88 2 (some .int) 0 0 0 0 [] [.long 0] (fun rr_ ww_ => (rr_, ww_) = sp_J13_bitCount0 g ) := by
  refine met_of (fun A => va_Qi _ (bW g A) A) (by decide) (Nat.le_of_ble_eq_true rfl) ?_
  intro p e s m below meth c A ls X hK hP hD hA hZ hS hl
  have hx := X.1
  have hb := X.2.1
  have hml := X.2.2.1
  have hown := X.2.2.2.1
  have hts := X.2.2.2.2.1
  have hnm := X.2.2.2.2.2.2.2
  have hl : lv_has ls 2 [(0, .long 0)] := hl
  refine lv_lload_n hx hb dJ13_bitCount_95d88_0 rfl (lv_at hl 0 rfl) ?_
  refine lv_lload_n hx hb dJ13_bitCount_95d88_1 rfl (lv_at hl 0 rfl) ?_
  refine lv_iconst (v := 1) hx hb dJ13_bitCount_95d88_2 (by decide) ?_
  refine lv_lushr (v := 0) hx hb dJ13_bitCount_95d88_3 (by decide) ?_
  refine lv_ldc2 (v := 6148914691236517205) hx hb hown (hts _ q_938) dJ13_bitCount_95d88_4 ?_
  refine lv_land hx hb dJ13_bitCount_95d88_7 ?_
  refine lv_topkl (v := 0) (and0 _) ?_
  refine lv_lsub hx hb dJ13_bitCount_95d88_8 ?_
  refine lv_topkl (v := 0) (by decide) ?_
  refine lv_lstore_n (lv' := [(0, .long 0)]) hx hb dJ13_bitCount_95d88_9 rfl hl (by decide) rfl (fun ls hl => ?_)
  refine lv_lload_n hx hb dJ13_bitCount_95d88_10 rfl (lv_at hl 0 rfl) ?_
  refine lv_ldc2 (v := 3689348814741910323) hx hb hown (hts _ q_939) dJ13_bitCount_95d88_11 ?_
  refine lv_land hx hb dJ13_bitCount_95d88_14 ?_
  refine lv_topkl (v := 0) (and0 _) ?_
  refine lv_lload_n hx hb dJ13_bitCount_95d88_15 rfl (lv_at hl 0 rfl) ?_
  refine lv_iconst (v := 2) hx hb dJ13_bitCount_95d88_16 (by decide) ?_
  refine lv_lushr (v := 0) hx hb dJ13_bitCount_95d88_17 (by decide) ?_
  refine lv_ldc2 (v := 3689348814741910323) hx hb hown (hts _ q_939) dJ13_bitCount_95d88_18 ?_
  refine lv_land hx hb dJ13_bitCount_95d88_21 ?_
  refine lv_topkl (v := 0) (and0 _) ?_
  refine lv_ladd hx hb dJ13_bitCount_95d88_22 ?_
  refine lv_topkl (v := 0) (by decide) ?_
  refine lv_lstore_n (lv' := [(0, .long 0)]) hx hb dJ13_bitCount_95d88_23 rfl hl (by decide) rfl (fun ls hl => ?_)
  refine lv_lload_n hx hb dJ13_bitCount_95d88_24 rfl (lv_at hl 0 rfl) ?_
  refine lv_lload_n hx hb dJ13_bitCount_95d88_25 rfl (lv_at hl 0 rfl) ?_
  refine lv_iconst (v := 4) hx hb dJ13_bitCount_95d88_26 (by decide) ?_
  refine lv_lushr (v := 0) hx hb dJ13_bitCount_95d88_27 (by decide) ?_
  refine lv_ladd hx hb dJ13_bitCount_95d88_28 ?_
  refine lv_topkl (v := 0) (by decide) ?_
  refine lv_ldc2 (v := 1085102592571150095) hx hb hown (hts _ q_940) dJ13_bitCount_95d88_29 ?_
  refine lv_land hx hb dJ13_bitCount_95d88_32 ?_
  refine lv_topkl (v := 0) (and0 _) ?_
  refine lv_lstore_n (lv' := [(0, .long 0)]) hx hb dJ13_bitCount_95d88_33 rfl hl (by decide) rfl (fun ls hl => ?_)
  refine lv_lload_n hx hb dJ13_bitCount_95d88_34 rfl (lv_at hl 0 rfl) ?_
  refine lv_lload_n hx hb dJ13_bitCount_95d88_35 rfl (lv_at hl 0 rfl) ?_
  refine lv_bipush (v := 8) hx hb dJ13_bitCount_95d88_36 (by decide) ?_
  refine lv_lushr (v := 0) hx hb dJ13_bitCount_95d88_38 (by decide) ?_
  refine lv_ladd hx hb dJ13_bitCount_95d88_39 ?_
  refine lv_topkl (v := 0) (by decide) ?_
  refine lv_lstore_n (lv' := [(0, .long 0)]) hx hb dJ13_bitCount_95d88_40 rfl hl (by decide) rfl (fun ls hl => ?_)
  refine lv_lload_n hx hb dJ13_bitCount_95d88_41 rfl (lv_at hl 0 rfl) ?_
  refine lv_lload_n hx hb dJ13_bitCount_95d88_42 rfl (lv_at hl 0 rfl) ?_
  refine lv_bipush (v := 16) hx hb dJ13_bitCount_95d88_43 (by decide) ?_
  refine lv_lushr (v := 0) hx hb dJ13_bitCount_95d88_45 (by decide) ?_
  refine lv_ladd hx hb dJ13_bitCount_95d88_46 ?_
  refine lv_topkl (v := 0) (by decide) ?_
  refine lv_lstore_n (lv' := [(0, .long 0)]) hx hb dJ13_bitCount_95d88_47 rfl hl (by decide) rfl (fun ls hl => ?_)
  refine lv_lload_n hx hb dJ13_bitCount_95d88_48 rfl (lv_at hl 0 rfl) ?_
  refine lv_lload_n hx hb dJ13_bitCount_95d88_49 rfl (lv_at hl 0 rfl) ?_
  refine lv_bipush (v := 32) hx hb dJ13_bitCount_95d88_50 (by decide) ?_
  refine lv_lushr (v := 0) hx hb dJ13_bitCount_95d88_52 (by decide) ?_
  refine lv_ladd hx hb dJ13_bitCount_95d88_53 ?_
  refine lv_topkl (v := 0) (by decide) ?_
  refine lv_lstore_n (lv' := [(0, .long 0)]) hx hb dJ13_bitCount_95d88_54 rfl hl (by decide) rfl (fun ls hl => ?_)
  refine lv_lload_n hx hb dJ13_bitCount_95d88_55 rfl (lv_at hl 0 rfl) ?_
  refine lv_l2i (v := 0) hx hb dJ13_bitCount_95d88_56 (by decide) ?_
  refine lv_bipush (v := 127) hx hb dJ13_bitCount_95d88_57 (by decide) ?_
  refine lv_iand hx hb dJ13_bitCount_95d88_59 ?_
  refine lv_topk (v := 0) (by decide) ?_
  exact rI X hK hP hD hS dJ13_bitCount_95d88_60 (by rfl) (Nat.le_of_ble_eq_true rfl) (Nat.le_of_ble_eq_true rfl) (by show ((_, _) : Int32 × va_W) = _; unfold sp_J13_bitCount0; try rfl)
def sp_X1_standingCells (g : GG) (h0 : Nat) (h0a0 : Nat) (h0a1 : Nat) (h0a2 : Nat) (h0a3 : Nat) (h0a4 : Nat) (h0a5 : Nat) (h0a6 : Nat) (h0a7 : Nat) (h0a8 : Nat) (h0a9 : Nat) (h0a10 : Nat) (h0a11 : Nat) : Int64 × va_W := (0, [(h0, .inr (1, [.ref h0a0, .ref h0a1, .ref h0a2, .ref h0a3, .ref h0a4, .ref h0a5, .ref h0a6, .ref h0a7, .ref h0a8, .ref h0a9, .ref h0a10, .ref h0a11, .int 0, .int 0]))])
set_option maxHeartbeats 4000000 in
set_option maxRecDepth 100000 in
theorem c_X1_standingCells (l : Launch) (g : GG) (h0 : Nat) (h0a0 : Nat) (h0a1 : Nat) (h0a2 : Nat) (h0a3 : Nat) (h0a4 : Nat) (h0a5 : Nat) (h0a6 : Nat) (h0a7 : Nat) (h0a8 : Nat) (h0a9 : Nat) (h0a10 : Nat) (h0a11 : Nat) : ML l g yX1_standingCells cX1_standingCells 4 (some .long) 0 0 0 0 [(h0, .inr (1, [.ref h0a0, .ref h0a1, .ref h0a2, .ref h0a3, .ref h0a4, .ref h0a5, .ref h0a6, .ref h0a7, .ref h0a8, .ref h0a9, .ref h0a10, .ref h0a11, .int 0, .int 0]))] [.ref h0] (fun rr_ ww_ => (rr_, ww_) = sp_X1_standingCells g h0 h0a0 h0a1 h0a2 h0a3 h0a4 h0a5 h0a6 h0a7 h0a8 h0a9 h0a10 h0a11) := by
  refine met_of (fun A => va_Ql _ (bW g A) A) (by decide) (Nat.le_of_ble_eq_true rfl) ?_
  intro p e s m below meth c A ls X hK hP hD hA hZ hS hl
  have hx := X.1
  have hb := X.2.1
  have hml := X.2.2.1
  have hown := X.2.2.2.1
  have hts := X.2.2.2.2.1
  have hnm := X.2.2.2.2.2.2.2
  have hl : lv_has ls 4 [(0, .ref h0)] := hl
  refine lv_lconst (v := 0) hx hb dX1_standingCells_0 (by decide) ?_
  refine lv_lstore_n (lv' := [(1, .long 0), (0, .ref h0)]) hx hb dX1_standingCells_1 rfl hl (by decide) rfl (fun ls hl => ?_)
  refine lv_iconst (v := 0) hx hb dX1_standingCells_2 (by decide) ?_
  refine lv_istore_n (lv' := [(3, .int 0), (1, .long 0), (0, .ref h0)]) hx hb dX1_standingCells_3 rfl hl (by decide) rfl (fun ls hl => ?_)
  refine lv_iload_n hx hb dX1_standingCells_4 rfl (lv_at hl 0 rfl) ?_
  refine lv_aload_n hx hb dX1_standingCells_5 rfl (lv_at hl 2 rfl) ?_
  refine va_get (D := g.1) (ci := 1) (v := .int 0) (C := RX1) (T := TX1) (N := 14) hx hb hts fw_X1 hown hK hP 0 rfl rfl 12 (by decide) (hts _ q_172) (fun _ h9 => h9) rfl dX1_standingCells_6 ?_
  refine lv_icmp_ge (tgt := 39) hx hb dX1_standingCells_9 (by decide) (fun _ => ?_) (fun c_1 => absurd (by decide) c_1)
  refine lv_lload_n hx hb dX1_standingCells_39 rfl (lv_at hl 1 rfl) ?_
  exact rL X hK hP hD hS dX1_standingCells_40 (Nat.le_of_ble_eq_true rfl) (Nat.le_of_ble_eq_true rfl) (by show ((_, _) : Int64 × va_W) = _; unfold sp_X1_standingCells; try rfl)
def sp_X1_standingIn (g : GG) (h0 : Nat) (z0 : Int64) (h0a0 : Nat) (h0a1 : Nat) (h0a2 : Nat) (h0a3 : Nat) (h0a4 : Nat) (h0a5 : Nat) (h0a6 : Nat) (h0a7 : Nat) (h0a8 : Nat) (h0a9 : Nat) (h0a10 : Nat) (h0a11 : Nat) : Int32 × va_W := (0, [(h0, .inr (1, [.ref h0a0, .ref h0a1, .ref h0a2, .ref h0a3, .ref h0a4, .ref h0a5, .ref h0a6, .ref h0a7, .ref h0a8, .ref h0a9, .ref h0a10, .ref h0a11, .int 0, .int 0]))])
set_option maxHeartbeats 4000000 in
set_option maxRecDepth 100000 in
theorem c_X1_standingIn (l : Launch) (g : GG) (h0 : Nat) (z0 : Int64) (h0a0 : Nat) (h0a1 : Nat) (h0a2 : Nat) (h0a3 : Nat) (h0a4 : Nat) (h0a5 : Nat) (h0a6 : Nat) (h0a7 : Nat) (h0a8 : Nat) (h0a9 : Nat) (h0a10 : Nat) (h0a11 : Nat) : MI l g yX1_standingIn cX1_standingIn 3 (some .int) 1 23 0 0 [(h0, .inr (1, [.ref h0a0, .ref h0a1, .ref h0a2, .ref h0a3, .ref h0a4, .ref h0a5, .ref h0a6, .ref h0a7, .ref h0a8, .ref h0a9, .ref h0a10, .ref h0a11, .int 0, .int 0]))] [.ref h0, .long z0] (fun rr_ ww_ => (rr_, ww_) = sp_X1_standingIn g h0 z0 h0a0 h0a1 h0a2 h0a3 h0a4 h0a5 h0a6 h0a7 h0a8 h0a9 h0a10 h0a11) := by
  refine met_of (fun A => va_Qi _ (bW g A) A) (by decide) (Nat.le_of_ble_eq_true rfl) ?_
  intro p e s m below meth c A ls X hK hP hD hA hZ hS hl
  have hx := X.1
  have hb := X.2.1
  have hml := X.2.2.1
  have hown := X.2.2.2.1
  have hts := X.2.2.2.2.1
  have hnm := X.2.2.2.2.2.2.2
  have hl : lv_has ls 3 [(0, .ref h0), (1, .long z0)] := hl
  refine lv_aload_n hx hb dX1_standingIn_0 rfl (lv_at hl 0 rfl) ?_
  refine kVl (As := []) (rest := []) (wr := []) X (c_X1_standingCells l g h0 h0a0 h0a1 h0a2 h0a3 h0a4 h0a5 h0a6 h0a7 h0a8 h0a9 h0a10 h0a11) ok_X1_standingCells okv_X1_standingCells q_930 rfl hK hP hD hS hA hZ hl.1 [0] [] rfl rfl rfl rfl rfl 0 1 rfl rfl rfl (Nat.le_of_ble_eq_true rfl) ⟨Nat.le_of_ble_eq_true rfl, Nat.le_of_ble_eq_true rfl⟩ dX1_standingIn_1 ⟨Nat.le_of_ble_eq_true rfl, Nat.le_of_ble_eq_true rfl⟩ (fun r_1 w1 H locs hw_2 hP hD hS => ?_)
  rw [sp_X1_standingCells] at hw_2
  obtain ⟨e1, e2⟩ := Prod.mk.inj hw_2
  subst e1; subst e2
  have hP : va_P g.1 classes [(h0, .inr (1, [.ref h0a0, .ref h0a1, .ref h0a2, .ref h0a3, .ref h0a4, .ref h0a5, .ref h0a6, .ref h0a7, .ref h0a8, .ref h0a9, .ref h0a10, .ref h0a11, .int 0, .int 0]))] H := hP
  have hD : va_D A [(h0, .inr (1, [.ref h0a0, .ref h0a1, .ref h0a2, .ref h0a3, .ref h0a4, .ref h0a5, .ref h0a6, .ref h0a7, .ref h0a8, .ref h0a9, .ref h0a10, .ref h0a11, .int 0, .int 0]))] := hD
  refine lv_lload_n hx hb dX1_standingIn_4 rfl (lv_at hl 1 rfl) ?_
  refine lv_land hx hb dX1_standingIn_5 ?_
  refine lv_topkl (v := 0) (and0 _) ?_
  refine kSi (As := [.long 0]) (rest := []) (wr := [(h0, .inr (1, [.ref h0a0, .ref h0a1, .ref h0a2, .ref h0a3, .ref h0a4, .ref h0a5, .ref h0a6, .ref h0a7, .ref h0a8, .ref h0a9, .ref h0a10, .ref h0a11, .int 0, .int 0]))]) X (c_J13_bitCount0 l g) ok_J13_bitCount_95d88 q_936 q_935 rfl hK hP hD hS hA hZ hl.1 [] [0] rfl rfl rfl rfl rfl rfl (Nat.le_of_ble_eq_true rfl) ⟨Nat.le_of_ble_eq_true rfl, Nat.le_of_ble_eq_true rfl⟩ dX1_standingIn_6 ⟨Nat.le_of_ble_eq_true rfl, Nat.le_of_ble_eq_true rfl⟩ (fun r_3 w1 H locs hw_4 hP hD hS => ?_)
  rw [sp_J13_bitCount0] at hw_4
  obtain ⟨e1, e2⟩ := Prod.mk.inj hw_4
  subst e1; subst e2
  have hP : va_P g.1 classes [(h0, .inr (1, [.ref h0a0, .ref h0a1, .ref h0a2, .ref h0a3, .ref h0a4, .ref h0a5, .ref h0a6, .ref h0a7, .ref h0a8, .ref h0a9, .ref h0a10, .ref h0a11, .int 0, .int 0]))] H := hP
  have hD : va_D A [(h0, .inr (1, [.ref h0a0, .ref h0a1, .ref h0a2, .ref h0a3, .ref h0a4, .ref h0a5, .ref h0a6, .ref h0a7, .ref h0a8, .ref h0a9, .ref h0a10, .ref h0a11, .int 0, .int 0]))] := hD
  exact rI X hK hP hD hS dX1_standingIn_9 (by rfl) (Nat.le_of_ble_eq_true rfl) (Nat.le_of_ble_eq_true rfl) (by show ((_, _) : Int32 × va_W) = _; unfold sp_X1_standingIn; try rfl)
def sp_X8_present6 (g : GG) (h0 : Nat) (h0s : Nat) (h0p : Nat) : Int32 × va_W := (0, [(h0, .inr (8, [.int 6, .int 0, .ref h0s, .ref h0p])), (h0s, .inl (cI g, 6, .inl (fun _ => (-1))))])
set_option maxHeartbeats 4000000 in
set_option maxRecDepth 100000 in
theorem c_X8_present6 (l : Launch) (g : GG) (h0 : Nat) (h0s : Nat) (h0p : Nat) : MI l g yX8_present cX8_present 3 (some .int) 1 21 0 0 [(h0, .inr (8, [.int 6, .int 0, .ref h0s, .ref h0p])), (h0s, .inl (cI g, 6, .inl (fun _ => (-1))))] [.ref h0] (fun rr_ ww_ => (rr_, ww_) = sp_X8_present6 g h0 h0s h0p) := by
  refine met_of (fun A => va_Qi _ (bW g A) A) (by decide) (Nat.le_of_ble_eq_true rfl) ?_
  intro p e s m below meth c A ls X hK hP hD hA hZ hS hl
  have hx := X.1
  have hb := X.2.1
  have hml := X.2.2.1
  have hown := X.2.2.2.1
  have hts := X.2.2.2.2.1
  have hnm := X.2.2.2.2.2.2.2
  have hl : lv_has ls 3 [(0, .ref h0)] := hl
  refine lv_iconst (v := 0) hx hb dX8_present_0 (by decide) ?_
  refine lv_istore_n (lv' := [(1, .int 0), (0, .ref h0)]) hx hb dX8_present_1 rfl hl (by decide) rfl (fun ls hl => ?_)
  refine lv_iconst (v := 0) hx hb dX8_present_2 (by decide) ?_
  refine lv_istore_n (lv' := [(2, .int 0), (1, .int 0), (0, .ref h0)]) hx hb dX8_present_3 rfl hl (by decide) rfl (fun ls hl => ?_)
  refine lv_iload_n hx hb dX8_present_4 rfl (lv_at hl 0 rfl) ?_
  refine lv_aload_n hx hb dX8_present_5 rfl (lv_at hl 2 rfl) ?_
  refine va_get (D := g.1) (ci := 8) (v := .int 6) (C := RX8) (T := TX8) (N := 4) hx hb hts fw_X8 hown hK hP 0 rfl rfl 0 (by decide) (hts _ q_126) (fun _ h9 => h9) rfl dX8_present_6 ?_
  refine lv_icmp_ge (tgt := 29) hx hb dX8_present_9 (by decide) (fun c_1 => absurd c_1 (by decide)) (fun _ => ?_)
  refine lv_aload_n hx hb dX8_present_12 rfl (lv_at hl 2 rfl) ?_
  refine lv_iload_n hx hb dX8_present_13 rfl (lv_at hl 0 rfl) ?_
  refine kVi (As := [.int 0]) (rest := []) (wr := []) X (c_X8_isThere l g h0 0 6 0 h0s h0p (by decide) (by decide)) ok_X8_isThere okv_X8_isThere q_1409 rfl hK hP hD hS hA hZ hl.1 [0, 1] [] rfl rfl rfl rfl rfl 0 8 rfl rfl rfl (Nat.le_of_ble_eq_true rfl) ⟨Nat.le_of_ble_eq_true rfl, Nat.le_of_ble_eq_true rfl⟩ dX8_present_14 ⟨Nat.le_of_ble_eq_true rfl, Nat.le_of_ble_eq_true rfl⟩ (fun r_2 w1 H locs hw_3 hP hD hS => ?_)
  rw [sp_X8_isThere] at hw_3
  obtain ⟨e1, e2⟩ := Prod.mk.inj hw_3
  subst e1; subst e2
  have hP : va_P g.1 classes [(h0, .inr (8, [.int 6, .int 0, .ref h0s, .ref h0p])), (h0s, .inl (cI g, 6, .inl (fun _ => (-1))))] H := hP
  have hD : va_D A [(h0, .inr (8, [.int 6, .int 0, .ref h0s, .ref h0p])), (h0s, .inl (cI g, 6, .inl (fun _ => (-1))))] := hD
  refine lv_if_eq (tgt := 23) hx hb dX8_present_17 (by decide) (fun _ => ?_) (fun c_4 => absurd (by decide) c_4)
  refine lv_iinc (v := 1) (lv' := [(2, .int 1), (1, .int 0), (0, .ref h0)]) hx hb dX8_present_23 hl (k := 0) rfl (by decide) (by decide) rfl (fun ls hl => ?_)
  refine lv_goto (tgt := 4) hx hb dX8_present_26 (by decide) ?_
  refine lv_iload_n hx hb dX8_present_4 rfl (lv_at hl 0 rfl) ?_
  refine lv_aload_n hx hb dX8_present_5 rfl (lv_at hl 2 rfl) ?_
  refine va_get (D := g.1) (ci := 8) (v := .int 6) (C := RX8) (T := TX8) (N := 4) hx hb hts fw_X8 hown hK hP 0 rfl rfl 0 (by decide) (hts _ q_126) (fun _ h9 => h9) rfl dX8_present_6 ?_
  refine lv_icmp_ge (tgt := 29) hx hb dX8_present_9 (by decide) (fun c_5 => absurd c_5 (by decide)) (fun _ => ?_)
  refine lv_aload_n hx hb dX8_present_12 rfl (lv_at hl 2 rfl) ?_
  refine lv_iload_n hx hb dX8_present_13 rfl (lv_at hl 0 rfl) ?_
  refine kVi (As := [.int 1]) (rest := []) (wr := []) X (c_X8_isThere l g h0 1 6 0 h0s h0p (by decide) (by decide)) ok_X8_isThere okv_X8_isThere q_1409 rfl hK hP hD hS hA hZ hl.1 [0, 1] [] rfl rfl rfl rfl rfl 0 8 rfl rfl rfl (Nat.le_of_ble_eq_true rfl) ⟨Nat.le_of_ble_eq_true rfl, Nat.le_of_ble_eq_true rfl⟩ dX8_present_14 ⟨Nat.le_of_ble_eq_true rfl, Nat.le_of_ble_eq_true rfl⟩ (fun r_6 w1 H locs hw_7 hP hD hS => ?_)
  rw [sp_X8_isThere] at hw_7
  obtain ⟨e1, e2⟩ := Prod.mk.inj hw_7
  subst e1; subst e2
  have hP : va_P g.1 classes [(h0, .inr (8, [.int 6, .int 0, .ref h0s, .ref h0p])), (h0s, .inl (cI g, 6, .inl (fun _ => (-1))))] H := hP
  have hD : va_D A [(h0, .inr (8, [.int 6, .int 0, .ref h0s, .ref h0p])), (h0s, .inl (cI g, 6, .inl (fun _ => (-1))))] := hD
  refine lv_if_eq (tgt := 23) hx hb dX8_present_17 (by decide) (fun _ => ?_) (fun c_8 => absurd (by decide) c_8)
  refine lv_iinc (v := 2) (lv' := [(2, .int 2), (1, .int 0), (0, .ref h0)]) hx hb dX8_present_23 hl (k := 0) rfl (by decide) (by decide) rfl (fun ls hl => ?_)
  refine lv_goto (tgt := 4) hx hb dX8_present_26 (by decide) ?_
  refine lv_iload_n hx hb dX8_present_4 rfl (lv_at hl 0 rfl) ?_
  refine lv_aload_n hx hb dX8_present_5 rfl (lv_at hl 2 rfl) ?_
  refine va_get (D := g.1) (ci := 8) (v := .int 6) (C := RX8) (T := TX8) (N := 4) hx hb hts fw_X8 hown hK hP 0 rfl rfl 0 (by decide) (hts _ q_126) (fun _ h9 => h9) rfl dX8_present_6 ?_
  refine lv_icmp_ge (tgt := 29) hx hb dX8_present_9 (by decide) (fun c_9 => absurd c_9 (by decide)) (fun _ => ?_)
  refine lv_aload_n hx hb dX8_present_12 rfl (lv_at hl 2 rfl) ?_
  refine lv_iload_n hx hb dX8_present_13 rfl (lv_at hl 0 rfl) ?_
  refine kVi (As := [.int 2]) (rest := []) (wr := []) X (c_X8_isThere l g h0 2 6 0 h0s h0p (by decide) (by decide)) ok_X8_isThere okv_X8_isThere q_1409 rfl hK hP hD hS hA hZ hl.1 [0, 1] [] rfl rfl rfl rfl rfl 0 8 rfl rfl rfl (Nat.le_of_ble_eq_true rfl) ⟨Nat.le_of_ble_eq_true rfl, Nat.le_of_ble_eq_true rfl⟩ dX8_present_14 ⟨Nat.le_of_ble_eq_true rfl, Nat.le_of_ble_eq_true rfl⟩ (fun r_10 w1 H locs hw_11 hP hD hS => ?_)
  rw [sp_X8_isThere] at hw_11
  obtain ⟨e1, e2⟩ := Prod.mk.inj hw_11
  subst e1; subst e2
  have hP : va_P g.1 classes [(h0, .inr (8, [.int 6, .int 0, .ref h0s, .ref h0p])), (h0s, .inl (cI g, 6, .inl (fun _ => (-1))))] H := hP
  have hD : va_D A [(h0, .inr (8, [.int 6, .int 0, .ref h0s, .ref h0p])), (h0s, .inl (cI g, 6, .inl (fun _ => (-1))))] := hD
  refine lv_if_eq (tgt := 23) hx hb dX8_present_17 (by decide) (fun _ => ?_) (fun c_12 => absurd (by decide) c_12)
  refine lv_iinc (v := 3) (lv' := [(2, .int 3), (1, .int 0), (0, .ref h0)]) hx hb dX8_present_23 hl (k := 0) rfl (by decide) (by decide) rfl (fun ls hl => ?_)
  refine lv_goto (tgt := 4) hx hb dX8_present_26 (by decide) ?_
  refine lv_iload_n hx hb dX8_present_4 rfl (lv_at hl 0 rfl) ?_
  refine lv_aload_n hx hb dX8_present_5 rfl (lv_at hl 2 rfl) ?_
  refine va_get (D := g.1) (ci := 8) (v := .int 6) (C := RX8) (T := TX8) (N := 4) hx hb hts fw_X8 hown hK hP 0 rfl rfl 0 (by decide) (hts _ q_126) (fun _ h9 => h9) rfl dX8_present_6 ?_
  refine lv_icmp_ge (tgt := 29) hx hb dX8_present_9 (by decide) (fun c_13 => absurd c_13 (by decide)) (fun _ => ?_)
  refine lv_aload_n hx hb dX8_present_12 rfl (lv_at hl 2 rfl) ?_
  refine lv_iload_n hx hb dX8_present_13 rfl (lv_at hl 0 rfl) ?_
  refine kVi (As := [.int 3]) (rest := []) (wr := []) X (c_X8_isThere l g h0 3 6 0 h0s h0p (by decide) (by decide)) ok_X8_isThere okv_X8_isThere q_1409 rfl hK hP hD hS hA hZ hl.1 [0, 1] [] rfl rfl rfl rfl rfl 0 8 rfl rfl rfl (Nat.le_of_ble_eq_true rfl) ⟨Nat.le_of_ble_eq_true rfl, Nat.le_of_ble_eq_true rfl⟩ dX8_present_14 ⟨Nat.le_of_ble_eq_true rfl, Nat.le_of_ble_eq_true rfl⟩ (fun r_14 w1 H locs hw_15 hP hD hS => ?_)
  rw [sp_X8_isThere] at hw_15
  obtain ⟨e1, e2⟩ := Prod.mk.inj hw_15
  subst e1; subst e2
  have hP : va_P g.1 classes [(h0, .inr (8, [.int 6, .int 0, .ref h0s, .ref h0p])), (h0s, .inl (cI g, 6, .inl (fun _ => (-1))))] H := hP
  have hD : va_D A [(h0, .inr (8, [.int 6, .int 0, .ref h0s, .ref h0p])), (h0s, .inl (cI g, 6, .inl (fun _ => (-1))))] := hD
  refine lv_if_eq (tgt := 23) hx hb dX8_present_17 (by decide) (fun _ => ?_) (fun c_16 => absurd (by decide) c_16)
  refine lv_iinc (v := 4) (lv' := [(2, .int 4), (1, .int 0), (0, .ref h0)]) hx hb dX8_present_23 hl (k := 0) rfl (by decide) (by decide) rfl (fun ls hl => ?_)
  refine lv_goto (tgt := 4) hx hb dX8_present_26 (by decide) ?_
  refine lv_iload_n hx hb dX8_present_4 rfl (lv_at hl 0 rfl) ?_
  refine lv_aload_n hx hb dX8_present_5 rfl (lv_at hl 2 rfl) ?_
  refine va_get (D := g.1) (ci := 8) (v := .int 6) (C := RX8) (T := TX8) (N := 4) hx hb hts fw_X8 hown hK hP 0 rfl rfl 0 (by decide) (hts _ q_126) (fun _ h9 => h9) rfl dX8_present_6 ?_
  refine lv_icmp_ge (tgt := 29) hx hb dX8_present_9 (by decide) (fun c_17 => absurd c_17 (by decide)) (fun _ => ?_)
  refine lv_aload_n hx hb dX8_present_12 rfl (lv_at hl 2 rfl) ?_
  refine lv_iload_n hx hb dX8_present_13 rfl (lv_at hl 0 rfl) ?_
  refine kVi (As := [.int 4]) (rest := []) (wr := []) X (c_X8_isThere l g h0 4 6 0 h0s h0p (by decide) (by decide)) ok_X8_isThere okv_X8_isThere q_1409 rfl hK hP hD hS hA hZ hl.1 [0, 1] [] rfl rfl rfl rfl rfl 0 8 rfl rfl rfl (Nat.le_of_ble_eq_true rfl) ⟨Nat.le_of_ble_eq_true rfl, Nat.le_of_ble_eq_true rfl⟩ dX8_present_14 ⟨Nat.le_of_ble_eq_true rfl, Nat.le_of_ble_eq_true rfl⟩ (fun r_18 w1 H locs hw_19 hP hD hS => ?_)
  rw [sp_X8_isThere] at hw_19
  obtain ⟨e1, e2⟩ := Prod.mk.inj hw_19
  subst e1; subst e2
  have hP : va_P g.1 classes [(h0, .inr (8, [.int 6, .int 0, .ref h0s, .ref h0p])), (h0s, .inl (cI g, 6, .inl (fun _ => (-1))))] H := hP
  have hD : va_D A [(h0, .inr (8, [.int 6, .int 0, .ref h0s, .ref h0p])), (h0s, .inl (cI g, 6, .inl (fun _ => (-1))))] := hD
  refine lv_if_eq (tgt := 23) hx hb dX8_present_17 (by decide) (fun _ => ?_) (fun c_20 => absurd (by decide) c_20)
  refine lv_iinc (v := 5) (lv' := [(2, .int 5), (1, .int 0), (0, .ref h0)]) hx hb dX8_present_23 hl (k := 0) rfl (by decide) (by decide) rfl (fun ls hl => ?_)
  refine lv_goto (tgt := 4) hx hb dX8_present_26 (by decide) ?_
  refine lv_iload_n hx hb dX8_present_4 rfl (lv_at hl 0 rfl) ?_
  refine lv_aload_n hx hb dX8_present_5 rfl (lv_at hl 2 rfl) ?_
  refine va_get (D := g.1) (ci := 8) (v := .int 6) (C := RX8) (T := TX8) (N := 4) hx hb hts fw_X8 hown hK hP 0 rfl rfl 0 (by decide) (hts _ q_126) (fun _ h9 => h9) rfl dX8_present_6 ?_
  refine lv_icmp_ge (tgt := 29) hx hb dX8_present_9 (by decide) (fun c_21 => absurd c_21 (by decide)) (fun _ => ?_)
  refine lv_aload_n hx hb dX8_present_12 rfl (lv_at hl 2 rfl) ?_
  refine lv_iload_n hx hb dX8_present_13 rfl (lv_at hl 0 rfl) ?_
  refine kVi (As := [.int 5]) (rest := []) (wr := []) X (c_X8_isThere l g h0 5 6 0 h0s h0p (by decide) (by decide)) ok_X8_isThere okv_X8_isThere q_1409 rfl hK hP hD hS hA hZ hl.1 [0, 1] [] rfl rfl rfl rfl rfl 0 8 rfl rfl rfl (Nat.le_of_ble_eq_true rfl) ⟨Nat.le_of_ble_eq_true rfl, Nat.le_of_ble_eq_true rfl⟩ dX8_present_14 ⟨Nat.le_of_ble_eq_true rfl, Nat.le_of_ble_eq_true rfl⟩ (fun r_22 w1 H locs hw_23 hP hD hS => ?_)
  rw [sp_X8_isThere] at hw_23
  obtain ⟨e1, e2⟩ := Prod.mk.inj hw_23
  subst e1; subst e2
  have hP : va_P g.1 classes [(h0, .inr (8, [.int 6, .int 0, .ref h0s, .ref h0p])), (h0s, .inl (cI g, 6, .inl (fun _ => (-1))))] H := hP
  have hD : va_D A [(h0, .inr (8, [.int 6, .int 0, .ref h0s, .ref h0p])), (h0s, .inl (cI g, 6, .inl (fun _ => (-1))))] := hD
  refine lv_if_eq (tgt := 23) hx hb dX8_present_17 (by decide) (fun _ => ?_) (fun c_24 => absurd (by decide) c_24)
  refine lv_iinc (v := 6) (lv' := [(2, .int 6), (1, .int 0), (0, .ref h0)]) hx hb dX8_present_23 hl (k := 0) rfl (by decide) (by decide) rfl (fun ls hl => ?_)
  refine lv_goto (tgt := 4) hx hb dX8_present_26 (by decide) ?_
  refine lv_iload_n hx hb dX8_present_4 rfl (lv_at hl 0 rfl) ?_
  refine lv_aload_n hx hb dX8_present_5 rfl (lv_at hl 2 rfl) ?_
  refine va_get (D := g.1) (ci := 8) (v := .int 6) (C := RX8) (T := TX8) (N := 4) hx hb hts fw_X8 hown hK hP 0 rfl rfl 0 (by decide) (hts _ q_126) (fun _ h9 => h9) rfl dX8_present_6 ?_
  refine lv_icmp_ge (tgt := 29) hx hb dX8_present_9 (by decide) (fun _ => ?_) (fun c_25 => absurd (by decide) c_25)
  refine lv_iload_n hx hb dX8_present_29 rfl (lv_at hl 1 rfl) ?_
  exact rI X hK hP hD hS dX8_present_30 (by rfl) (Nat.le_of_ble_eq_true rfl) (Nat.le_of_ble_eq_true rfl) (by show ((_, _) : Int32 × va_W) = _; unfold sp_X8_present6; try rfl)
def sp_X8_present4 (g : GG) (h0 : Nat) (h0s : Nat) (h0p : Nat) : Int32 × va_W := (0, [(h0, .inr (8, [.int 4, .int 32, .ref h0s, .ref h0p])), (h0s, .inl (cI g, 6, .inl (fun _ => (-1))))])
set_option maxHeartbeats 4000000 in
set_option maxRecDepth 100000 in
theorem c_X8_present4 (l : Launch) (g : GG) (h0 : Nat) (h0s : Nat) (h0p : Nat) : MI l g yX8_present cX8_present 3 (some .int) 1 21 0 0 [(h0, .inr (8, [.int 4, .int 32, .ref h0s, .ref h0p])), (h0s, .inl (cI g, 6, .inl (fun _ => (-1))))] [.ref h0] (fun rr_ ww_ => (rr_, ww_) = sp_X8_present4 g h0 h0s h0p) := by
  refine met_of (fun A => va_Qi _ (bW g A) A) (by decide) (Nat.le_of_ble_eq_true rfl) ?_
  intro p e s m below meth c A ls X hK hP hD hA hZ hS hl
  have hx := X.1
  have hb := X.2.1
  have hml := X.2.2.1
  have hown := X.2.2.2.1
  have hts := X.2.2.2.2.1
  have hnm := X.2.2.2.2.2.2.2
  have hl : lv_has ls 3 [(0, .ref h0)] := hl
  refine lv_iconst (v := 0) hx hb dX8_present_0 (by decide) ?_
  refine lv_istore_n (lv' := [(1, .int 0), (0, .ref h0)]) hx hb dX8_present_1 rfl hl (by decide) rfl (fun ls hl => ?_)
  refine lv_iconst (v := 0) hx hb dX8_present_2 (by decide) ?_
  refine lv_istore_n (lv' := [(2, .int 0), (1, .int 0), (0, .ref h0)]) hx hb dX8_present_3 rfl hl (by decide) rfl (fun ls hl => ?_)
  refine lv_iload_n hx hb dX8_present_4 rfl (lv_at hl 0 rfl) ?_
  refine lv_aload_n hx hb dX8_present_5 rfl (lv_at hl 2 rfl) ?_
  refine va_get (D := g.1) (ci := 8) (v := .int 4) (C := RX8) (T := TX8) (N := 4) hx hb hts fw_X8 hown hK hP 0 rfl rfl 0 (by decide) (hts _ q_126) (fun _ h9 => h9) rfl dX8_present_6 ?_
  refine lv_icmp_ge (tgt := 29) hx hb dX8_present_9 (by decide) (fun c_1 => absurd c_1 (by decide)) (fun _ => ?_)
  refine lv_aload_n hx hb dX8_present_12 rfl (lv_at hl 2 rfl) ?_
  refine lv_iload_n hx hb dX8_present_13 rfl (lv_at hl 0 rfl) ?_
  refine kVi (As := [.int 0]) (rest := []) (wr := []) X (c_X8_isThere l g h0 0 4 32 h0s h0p (by decide) (by decide)) ok_X8_isThere okv_X8_isThere q_1409 rfl hK hP hD hS hA hZ hl.1 [0, 1] [] rfl rfl rfl rfl rfl 0 8 rfl rfl rfl (Nat.le_of_ble_eq_true rfl) ⟨Nat.le_of_ble_eq_true rfl, Nat.le_of_ble_eq_true rfl⟩ dX8_present_14 ⟨Nat.le_of_ble_eq_true rfl, Nat.le_of_ble_eq_true rfl⟩ (fun r_2 w1 H locs hw_3 hP hD hS => ?_)
  rw [sp_X8_isThere] at hw_3
  obtain ⟨e1, e2⟩ := Prod.mk.inj hw_3
  subst e1; subst e2
  have hP : va_P g.1 classes [(h0, .inr (8, [.int 4, .int 32, .ref h0s, .ref h0p])), (h0s, .inl (cI g, 6, .inl (fun _ => (-1))))] H := hP
  have hD : va_D A [(h0, .inr (8, [.int 4, .int 32, .ref h0s, .ref h0p])), (h0s, .inl (cI g, 6, .inl (fun _ => (-1))))] := hD
  refine lv_if_eq (tgt := 23) hx hb dX8_present_17 (by decide) (fun _ => ?_) (fun c_4 => absurd (by decide) c_4)
  refine lv_iinc (v := 1) (lv' := [(2, .int 1), (1, .int 0), (0, .ref h0)]) hx hb dX8_present_23 hl (k := 0) rfl (by decide) (by decide) rfl (fun ls hl => ?_)
  refine lv_goto (tgt := 4) hx hb dX8_present_26 (by decide) ?_
  refine lv_iload_n hx hb dX8_present_4 rfl (lv_at hl 0 rfl) ?_
  refine lv_aload_n hx hb dX8_present_5 rfl (lv_at hl 2 rfl) ?_
  refine va_get (D := g.1) (ci := 8) (v := .int 4) (C := RX8) (T := TX8) (N := 4) hx hb hts fw_X8 hown hK hP 0 rfl rfl 0 (by decide) (hts _ q_126) (fun _ h9 => h9) rfl dX8_present_6 ?_
  refine lv_icmp_ge (tgt := 29) hx hb dX8_present_9 (by decide) (fun c_5 => absurd c_5 (by decide)) (fun _ => ?_)
  refine lv_aload_n hx hb dX8_present_12 rfl (lv_at hl 2 rfl) ?_
  refine lv_iload_n hx hb dX8_present_13 rfl (lv_at hl 0 rfl) ?_
  refine kVi (As := [.int 1]) (rest := []) (wr := []) X (c_X8_isThere l g h0 1 4 32 h0s h0p (by decide) (by decide)) ok_X8_isThere okv_X8_isThere q_1409 rfl hK hP hD hS hA hZ hl.1 [0, 1] [] rfl rfl rfl rfl rfl 0 8 rfl rfl rfl (Nat.le_of_ble_eq_true rfl) ⟨Nat.le_of_ble_eq_true rfl, Nat.le_of_ble_eq_true rfl⟩ dX8_present_14 ⟨Nat.le_of_ble_eq_true rfl, Nat.le_of_ble_eq_true rfl⟩ (fun r_6 w1 H locs hw_7 hP hD hS => ?_)
  rw [sp_X8_isThere] at hw_7
  obtain ⟨e1, e2⟩ := Prod.mk.inj hw_7
  subst e1; subst e2
  have hP : va_P g.1 classes [(h0, .inr (8, [.int 4, .int 32, .ref h0s, .ref h0p])), (h0s, .inl (cI g, 6, .inl (fun _ => (-1))))] H := hP
  have hD : va_D A [(h0, .inr (8, [.int 4, .int 32, .ref h0s, .ref h0p])), (h0s, .inl (cI g, 6, .inl (fun _ => (-1))))] := hD
  refine lv_if_eq (tgt := 23) hx hb dX8_present_17 (by decide) (fun _ => ?_) (fun c_8 => absurd (by decide) c_8)
  refine lv_iinc (v := 2) (lv' := [(2, .int 2), (1, .int 0), (0, .ref h0)]) hx hb dX8_present_23 hl (k := 0) rfl (by decide) (by decide) rfl (fun ls hl => ?_)
  refine lv_goto (tgt := 4) hx hb dX8_present_26 (by decide) ?_
  refine lv_iload_n hx hb dX8_present_4 rfl (lv_at hl 0 rfl) ?_
  refine lv_aload_n hx hb dX8_present_5 rfl (lv_at hl 2 rfl) ?_
  refine va_get (D := g.1) (ci := 8) (v := .int 4) (C := RX8) (T := TX8) (N := 4) hx hb hts fw_X8 hown hK hP 0 rfl rfl 0 (by decide) (hts _ q_126) (fun _ h9 => h9) rfl dX8_present_6 ?_
  refine lv_icmp_ge (tgt := 29) hx hb dX8_present_9 (by decide) (fun c_9 => absurd c_9 (by decide)) (fun _ => ?_)
  refine lv_aload_n hx hb dX8_present_12 rfl (lv_at hl 2 rfl) ?_
  refine lv_iload_n hx hb dX8_present_13 rfl (lv_at hl 0 rfl) ?_
  refine kVi (As := [.int 2]) (rest := []) (wr := []) X (c_X8_isThere l g h0 2 4 32 h0s h0p (by decide) (by decide)) ok_X8_isThere okv_X8_isThere q_1409 rfl hK hP hD hS hA hZ hl.1 [0, 1] [] rfl rfl rfl rfl rfl 0 8 rfl rfl rfl (Nat.le_of_ble_eq_true rfl) ⟨Nat.le_of_ble_eq_true rfl, Nat.le_of_ble_eq_true rfl⟩ dX8_present_14 ⟨Nat.le_of_ble_eq_true rfl, Nat.le_of_ble_eq_true rfl⟩ (fun r_10 w1 H locs hw_11 hP hD hS => ?_)
  rw [sp_X8_isThere] at hw_11
  obtain ⟨e1, e2⟩ := Prod.mk.inj hw_11
  subst e1; subst e2
  have hP : va_P g.1 classes [(h0, .inr (8, [.int 4, .int 32, .ref h0s, .ref h0p])), (h0s, .inl (cI g, 6, .inl (fun _ => (-1))))] H := hP
  have hD : va_D A [(h0, .inr (8, [.int 4, .int 32, .ref h0s, .ref h0p])), (h0s, .inl (cI g, 6, .inl (fun _ => (-1))))] := hD
  refine lv_if_eq (tgt := 23) hx hb dX8_present_17 (by decide) (fun _ => ?_) (fun c_12 => absurd (by decide) c_12)
  refine lv_iinc (v := 3) (lv' := [(2, .int 3), (1, .int 0), (0, .ref h0)]) hx hb dX8_present_23 hl (k := 0) rfl (by decide) (by decide) rfl (fun ls hl => ?_)
  refine lv_goto (tgt := 4) hx hb dX8_present_26 (by decide) ?_
  refine lv_iload_n hx hb dX8_present_4 rfl (lv_at hl 0 rfl) ?_
  refine lv_aload_n hx hb dX8_present_5 rfl (lv_at hl 2 rfl) ?_
  refine va_get (D := g.1) (ci := 8) (v := .int 4) (C := RX8) (T := TX8) (N := 4) hx hb hts fw_X8 hown hK hP 0 rfl rfl 0 (by decide) (hts _ q_126) (fun _ h9 => h9) rfl dX8_present_6 ?_
  refine lv_icmp_ge (tgt := 29) hx hb dX8_present_9 (by decide) (fun c_13 => absurd c_13 (by decide)) (fun _ => ?_)
  refine lv_aload_n hx hb dX8_present_12 rfl (lv_at hl 2 rfl) ?_
  refine lv_iload_n hx hb dX8_present_13 rfl (lv_at hl 0 rfl) ?_
  refine kVi (As := [.int 3]) (rest := []) (wr := []) X (c_X8_isThere l g h0 3 4 32 h0s h0p (by decide) (by decide)) ok_X8_isThere okv_X8_isThere q_1409 rfl hK hP hD hS hA hZ hl.1 [0, 1] [] rfl rfl rfl rfl rfl 0 8 rfl rfl rfl (Nat.le_of_ble_eq_true rfl) ⟨Nat.le_of_ble_eq_true rfl, Nat.le_of_ble_eq_true rfl⟩ dX8_present_14 ⟨Nat.le_of_ble_eq_true rfl, Nat.le_of_ble_eq_true rfl⟩ (fun r_14 w1 H locs hw_15 hP hD hS => ?_)
  rw [sp_X8_isThere] at hw_15
  obtain ⟨e1, e2⟩ := Prod.mk.inj hw_15
  subst e1; subst e2
  have hP : va_P g.1 classes [(h0, .inr (8, [.int 4, .int 32, .ref h0s, .ref h0p])), (h0s, .inl (cI g, 6, .inl (fun _ => (-1))))] H := hP
  have hD : va_D A [(h0, .inr (8, [.int 4, .int 32, .ref h0s, .ref h0p])), (h0s, .inl (cI g, 6, .inl (fun _ => (-1))))] := hD
  refine lv_if_eq (tgt := 23) hx hb dX8_present_17 (by decide) (fun _ => ?_) (fun c_16 => absurd (by decide) c_16)
  refine lv_iinc (v := 4) (lv' := [(2, .int 4), (1, .int 0), (0, .ref h0)]) hx hb dX8_present_23 hl (k := 0) rfl (by decide) (by decide) rfl (fun ls hl => ?_)
  refine lv_goto (tgt := 4) hx hb dX8_present_26 (by decide) ?_
  refine lv_iload_n hx hb dX8_present_4 rfl (lv_at hl 0 rfl) ?_
  refine lv_aload_n hx hb dX8_present_5 rfl (lv_at hl 2 rfl) ?_
  refine va_get (D := g.1) (ci := 8) (v := .int 4) (C := RX8) (T := TX8) (N := 4) hx hb hts fw_X8 hown hK hP 0 rfl rfl 0 (by decide) (hts _ q_126) (fun _ h9 => h9) rfl dX8_present_6 ?_
  refine lv_icmp_ge (tgt := 29) hx hb dX8_present_9 (by decide) (fun _ => ?_) (fun c_17 => absurd (by decide) c_17)
  refine lv_iload_n hx hb dX8_present_29 rfl (lv_at hl 1 rfl) ?_
  exact rI X hK hP hD hS dX8_present_30 (by rfl) (Nat.le_of_ble_eq_true rfl) (Nat.le_of_ble_eq_true rfl) (by show ((_, _) : Int32 × va_W) = _; unfold sp_X8_present4; try rfl)
def sp_X11_count (g : GG) (x0 : Nat) (n : Int32) (xr : Nat) (xt : Nat) (xg : Nat) (xb : Nat) (xp : Nat) (xu : Nat) (xm : Nat) (xd : Nat) (xw : Nat) (xh : Nat) (xa : Nat) (xs : Nat) (xf : Nat) (xrs : Nat) (xrp : Nat) (xts : Nat) (xtp : Nat) (xba0 : Nat) (xba1 : Nat) (xba2 : Nat) (xba3 : Nat) (xba4 : Nat) (xba5 : Nat) (xba6 : Nat) (xba7 : Nat) (xba8 : Nat) (xba9 : Nat) (xba10 : Nat) (xba11 : Nat) (xpa0 : Nat) (xpa1 : Nat) (xpa2 : Nat) (xpa3 : Nat) (xua0 : Nat) (xua1 : Nat) (xua2 : Nat) (xma0 : Nat) (xma1 : Nat) (xma2 : Nat) (xma3 : Nat) (xma4 : Nat) (xma5 : Nat) (xma6 : Nat) (xma7 : Nat) (xma8 : Nat) (xma9 : Nat) (xma10 : Nat) (xma11 : Nat) (xma12 : Nat) (xda0 : Nat) (xda1 : Nat) (xda2 : Nat) (xda3 : Nat) (xda4 : Nat) (xda5 : Nat) : Int32 := if n = 0 then 0 else (if n = 1 then 0 else (if n = 2 then 0 else (if n = 3 then 0 else (if n = 4 then 0 else (if n = 5 then 0 else (if n = 6 then 0 else (if n = 7 then 0 else (if n = 8 then 0 else (if n = 9 then 0 else (-1))))))))))
set_option maxHeartbeats 4000000 in
set_option maxRecDepth 100000 in
theorem c_X11_count (l : Launch) (g : GG) (x0 : Nat) (n : Int32) (xr : Nat) (xt : Nat) (xg : Nat) (xb : Nat) (xp : Nat) (xu : Nat) (xm : Nat) (xd : Nat) (xw : Nat) (xh : Nat) (xa : Nat) (xs : Nat) (xf : Nat) (xrs : Nat) (xrp : Nat) (xts : Nat) (xtp : Nat) (xba0 : Nat) (xba1 : Nat) (xba2 : Nat) (xba3 : Nat) (xba4 : Nat) (xba5 : Nat) (xba6 : Nat) (xba7 : Nat) (xba8 : Nat) (xba9 : Nat) (xba10 : Nat) (xba11 : Nat) (xpa0 : Nat) (xpa1 : Nat) (xpa2 : Nat) (xpa3 : Nat) (xua0 : Nat) (xua1 : Nat) (xua2 : Nat) (xma0 : Nat) (xma1 : Nat) (xma2 : Nat) (xma3 : Nat) (xma4 : Nat) (xma5 : Nat) (xma6 : Nat) (xma7 : Nat) (xma8 : Nat) (xma9 : Nat) (xma10 : Nat) (xma11 : Nat) (xma12 : Nat) (xda0 : Nat) (xda1 : Nat) (xda2 : Nat) (xda3 : Nat) (xda4 : Nat) (xda5 : Nat) : MI l g yX11_count cX11_count 2 (some .int) 2 45 0 0 [(x0, .inr (11, [.ref xr, .ref xt, .ref xg, .ref xb, .ref xp, .ref xu, .ref xm, .ref xd, .ref xw, .ref xh, .ref xa, .ref xs, .ref xf, .int 0, .int 0, .long 0, .long 0, .int 0])), (xr, .inr (8, [.int 6, .int 0, .ref xrs, .ref xrp])), (xrs, .inl (cI g, 6, .inl (fun _ => (-1)))), (xt, .inr (8, [.int 4, .int 32, .ref xts, .ref xtp])), (xts, .inl (cI g, 6, .inl (fun _ => (-1)))), (xb, .inr (1, [.ref xba0, .ref xba1, .ref xba2, .ref xba3, .ref xba4, .ref xba5, .ref xba6, .ref xba7, .ref xba8, .ref xba9, .ref xba10, .ref xba11, .int 0, .int 0])), (xp, .inr (5, [.ref xpa0, .ref xpa1, .ref xpa2, .ref xpa3, .int 0])), (xu, .inr (7, [.ref xua0, .ref xua1, .ref xua2, .int 0])), (xm, .inr (4, [.ref xma0, .ref xma1, .ref xma2, .ref xma3, .ref xma4, .ref xma5, .ref xma6, .ref xma7, .ref xma8, .ref xma9, .ref xma10, .ref xma11, .ref xma12, .int 0])), (xd, .inr (2, [.ref xda0, .ref xda1, .ref xda2, .ref xda3, .ref xda4, .ref xda5, .int 0, .int 0]))] [.ref x0, .int n] (fun rr_ _ => rr_ = sp_X11_count g x0 n xr xt xg xb xp xu xm xd xw xh xa xs xf xrs xrp xts xtp xba0 xba1 xba2 xba3 xba4 xba5 xba6 xba7 xba8 xba9 xba10 xba11 xpa0 xpa1 xpa2 xpa3 xua0 xua1 xua2 xma0 xma1 xma2 xma3 xma4 xma5 xma6 xma7 xma8 xma9 xma10 xma11 xma12 xda0 xda1 xda2 xda3 xda4 xda5) := by
  refine met_of (fun A => va_Qi _ (bW g A) A) (by decide) (Nat.le_of_ble_eq_true rfl) ?_
  intro p e s m below meth c A ls X hK hP hD hA hZ hS hl
  have hx := X.1
  have hb := X.2.1
  have hml := X.2.2.1
  have hown := X.2.2.2.1
  have hts := X.2.2.2.2.1
  have hnm := X.2.2.2.2.2.2.2
  have hl : lv_has ls 2 [(0, .ref x0), (1, .int n)] := hl
  refine lv_iload_n hx hb dX11_count_0 rfl (lv_at hl 1 rfl) ?_
  rcases Classical.em (n = 0) with c_1 | c_1
  ·
    refine lv_tableIn (off := 55) (tgt := 56) hx hb dX11_count_1 (by rw [c_1]; decide) (by rw [c_1]; decide) (by rw [c_1]; decide) (by decide) ?_
    refine lv_aload_n hx hb dX11_count_56 rfl (lv_at hl 0 rfl) ?_
    refine va_get (D := g.1) (ci := 11) (v := .int 0) (C := RX11) (T := TX11) (N := 18) hx hb hts fw_X11 hown hK hP 0 rfl rfl 13 (by decide) (hts _ q_471) (fun _ h9 => h9) rfl dX11_count_57 ?_
    exact rI X hK hP hD hS dX11_count_60 (by rfl) (Nat.le_of_ble_eq_true rfl) (Nat.le_of_ble_eq_true rfl) (by show _ = _; unfold sp_X11_count; rw [if_pos c_1]; try rfl)
  ·
    rcases Classical.em (n = 1) with c_2 | c_2
    ·
      refine lv_tableIn (off := 60) (tgt := 61) hx hb dX11_count_1 (by rw [c_2]; decide) (by rw [c_2]; decide) (by rw [c_2]; decide) (by decide) ?_
      refine lv_aload_n hx hb dX11_count_61 rfl (lv_at hl 0 rfl) ?_
      refine va_get (D := g.1) (ci := 11) (v := .ref xb) (C := RX11) (T := TX11) (N := 18) hx hb hts fw_X11 hown hK hP 0 rfl rfl 3 (by decide) (hts _ q_461) (fun _ h9 => h9) rfl dX11_count_62 ?_
      refine lv_ldc2 (v := (-1)) hx hb hown (hts _ q_1185) dX11_count_65 ?_
      refine kVi (As := [.long (-1)]) (rest := []) (wr := [(x0, .inr (11, [.ref xr, .ref xt, .ref xg, .ref xb, .ref xp, .ref xu, .ref xm, .ref xd, .ref xw, .ref xh, .ref xa, .ref xs, .ref xf, .int 0, .int 0, .long 0, .long 0, .int 0])), (xr, .inr (8, [.int 6, .int 0, .ref xrs, .ref xrp])), (xrs, .inl (cI g, 6, .inl (fun _ => (-1)))), (xt, .inr (8, [.int 4, .int 32, .ref xts, .ref xtp])), (xts, .inl (cI g, 6, .inl (fun _ => (-1)))), (xp, .inr (5, [.ref xpa0, .ref xpa1, .ref xpa2, .ref xpa3, .int 0])), (xu, .inr (7, [.ref xua0, .ref xua1, .ref xua2, .int 0])), (xm, .inr (4, [.ref xma0, .ref xma1, .ref xma2, .ref xma3, .ref xma4, .ref xma5, .ref xma6, .ref xma7, .ref xma8, .ref xma9, .ref xma10, .ref xma11, .ref xma12, .int 0])), (xd, .inr (2, [.ref xda0, .ref xda1, .ref xda2, .ref xda3, .ref xda4, .ref xda5, .int 0, .int 0]))]) X (c_X1_standingIn l g xb (-1) xba0 xba1 xba2 xba3 xba4 xba5 xba6 xba7 xba8 xba9 xba10 xba11) ok_X1_standingIn okv_X1_standingIn q_926 rfl hK hP hD hS hA hZ hl.1 [5] [0, 1, 2, 3, 4, 6, 7, 8, 9] rfl rfl rfl rfl rfl 0 1 rfl rfl rfl (Nat.le_of_ble_eq_true rfl) ⟨Nat.le_of_ble_eq_true rfl, Nat.le_of_ble_eq_true rfl⟩ dX11_count_68 ⟨Nat.le_of_ble_eq_true rfl, Nat.le_of_ble_eq_true rfl⟩ (fun r_3 w1 H locs hw_4 hP hD hS => ?_)
      rw [sp_X1_standingIn] at hw_4
      obtain ⟨e1, e2⟩ := Prod.mk.inj hw_4
      subst e1; subst e2
      have hP : va_P g.1 classes [(x0, .inr (11, [.ref xr, .ref xt, .ref xg, .ref xb, .ref xp, .ref xu, .ref xm, .ref xd, .ref xw, .ref xh, .ref xa, .ref xs, .ref xf, .int 0, .int 0, .long 0, .long 0, .int 0])), (xr, .inr (8, [.int 6, .int 0, .ref xrs, .ref xrp])), (xrs, .inl (cI g, 6, .inl (fun _ => (-1)))), (xt, .inr (8, [.int 4, .int 32, .ref xts, .ref xtp])), (xts, .inl (cI g, 6, .inl (fun _ => (-1)))), (xp, .inr (5, [.ref xpa0, .ref xpa1, .ref xpa2, .ref xpa3, .int 0])), (xu, .inr (7, [.ref xua0, .ref xua1, .ref xua2, .int 0])), (xm, .inr (4, [.ref xma0, .ref xma1, .ref xma2, .ref xma3, .ref xma4, .ref xma5, .ref xma6, .ref xma7, .ref xma8, .ref xma9, .ref xma10, .ref xma11, .ref xma12, .int 0])), (xd, .inr (2, [.ref xda0, .ref xda1, .ref xda2, .ref xda3, .ref xda4, .ref xda5, .int 0, .int 0])), (xb, .inr (1, [.ref xba0, .ref xba1, .ref xba2, .ref xba3, .ref xba4, .ref xba5, .ref xba6, .ref xba7, .ref xba8, .ref xba9, .ref xba10, .ref xba11, .int 0, .int 0]))] H := hP
      have hD : va_D A [(x0, .inr (11, [.ref xr, .ref xt, .ref xg, .ref xb, .ref xp, .ref xu, .ref xm, .ref xd, .ref xw, .ref xh, .ref xa, .ref xs, .ref xf, .int 0, .int 0, .long 0, .long 0, .int 0])), (xr, .inr (8, [.int 6, .int 0, .ref xrs, .ref xrp])), (xrs, .inl (cI g, 6, .inl (fun _ => (-1)))), (xt, .inr (8, [.int 4, .int 32, .ref xts, .ref xtp])), (xts, .inl (cI g, 6, .inl (fun _ => (-1)))), (xp, .inr (5, [.ref xpa0, .ref xpa1, .ref xpa2, .ref xpa3, .int 0])), (xu, .inr (7, [.ref xua0, .ref xua1, .ref xua2, .int 0])), (xm, .inr (4, [.ref xma0, .ref xma1, .ref xma2, .ref xma3, .ref xma4, .ref xma5, .ref xma6, .ref xma7, .ref xma8, .ref xma9, .ref xma10, .ref xma11, .ref xma12, .int 0])), (xd, .inr (2, [.ref xda0, .ref xda1, .ref xda2, .ref xda3, .ref xda4, .ref xda5, .int 0, .int 0])), (xb, .inr (1, [.ref xba0, .ref xba1, .ref xba2, .ref xba3, .ref xba4, .ref xba5, .ref xba6, .ref xba7, .ref xba8, .ref xba9, .ref xba10, .ref xba11, .int 0, .int 0]))] := hD
      exact rI X hK hP hD hS dX11_count_71 (by rfl) (Nat.le_of_ble_eq_true rfl) (Nat.le_of_ble_eq_true rfl) (by show _ = _; unfold sp_X11_count; rw [if_neg c_1, if_pos c_2]; try rfl)
    ·
      rcases Classical.em (n = 2) with c_5 | c_5
      ·
        refine lv_tableIn (off := 71) (tgt := 72) hx hb dX11_count_1 (by rw [c_5]; decide) (by rw [c_5]; decide) (by rw [c_5]; decide) (by decide) ?_
        refine lv_aload_n hx hb dX11_count_72 rfl (lv_at hl 0 rfl) ?_
        refine va_get (D := g.1) (ci := 11) (v := .ref xp) (C := RX11) (T := TX11) (N := 18) hx hb hts fw_X11 hown hK hP 0 rfl rfl 4 (by decide) (hts _ q_462) (fun _ h9 => h9) rfl dX11_count_73 ?_
        refine kVi (As := []) (rest := []) (wr := [(x0, .inr (11, [.ref xr, .ref xt, .ref xg, .ref xb, .ref xp, .ref xu, .ref xm, .ref xd, .ref xw, .ref xh, .ref xa, .ref xs, .ref xf, .int 0, .int 0, .long 0, .long 0, .int 0])), (xr, .inr (8, [.int 6, .int 0, .ref xrs, .ref xrp])), (xrs, .inl (cI g, 6, .inl (fun _ => (-1)))), (xt, .inr (8, [.int 4, .int 32, .ref xts, .ref xtp])), (xts, .inl (cI g, 6, .inl (fun _ => (-1)))), (xb, .inr (1, [.ref xba0, .ref xba1, .ref xba2, .ref xba3, .ref xba4, .ref xba5, .ref xba6, .ref xba7, .ref xba8, .ref xba9, .ref xba10, .ref xba11, .int 0, .int 0])), (xu, .inr (7, [.ref xua0, .ref xua1, .ref xua2, .int 0])), (xm, .inr (4, [.ref xma0, .ref xma1, .ref xma2, .ref xma3, .ref xma4, .ref xma5, .ref xma6, .ref xma7, .ref xma8, .ref xma9, .ref xma10, .ref xma11, .ref xma12, .int 0])), (xd, .inr (2, [.ref xda0, .ref xda1, .ref xda2, .ref xda3, .ref xda4, .ref xda5, .int 0, .int 0]))]) X (c_X5_number l g xp xpa0 xpa1 xpa2 xpa3) ok_X5_number okv_X5_number q_703 rfl hK hP hD hS hA hZ hl.1 [6] [0, 1, 2, 3, 4, 5, 7, 8, 9] rfl rfl rfl rfl rfl 0 5 rfl rfl rfl (Nat.le_of_ble_eq_true rfl) ⟨Nat.le_of_ble_eq_true rfl, Nat.le_of_ble_eq_true rfl⟩ dX11_count_76 ⟨Nat.le_of_ble_eq_true rfl, Nat.le_of_ble_eq_true rfl⟩ (fun r_6 w1 H locs hw_7 hP hD hS => ?_)
        rw [sp_X5_number] at hw_7
        obtain ⟨e1, e2⟩ := Prod.mk.inj hw_7
        subst e1; subst e2
        have hP : va_P g.1 classes [(x0, .inr (11, [.ref xr, .ref xt, .ref xg, .ref xb, .ref xp, .ref xu, .ref xm, .ref xd, .ref xw, .ref xh, .ref xa, .ref xs, .ref xf, .int 0, .int 0, .long 0, .long 0, .int 0])), (xr, .inr (8, [.int 6, .int 0, .ref xrs, .ref xrp])), (xrs, .inl (cI g, 6, .inl (fun _ => (-1)))), (xt, .inr (8, [.int 4, .int 32, .ref xts, .ref xtp])), (xts, .inl (cI g, 6, .inl (fun _ => (-1)))), (xb, .inr (1, [.ref xba0, .ref xba1, .ref xba2, .ref xba3, .ref xba4, .ref xba5, .ref xba6, .ref xba7, .ref xba8, .ref xba9, .ref xba10, .ref xba11, .int 0, .int 0])), (xu, .inr (7, [.ref xua0, .ref xua1, .ref xua2, .int 0])), (xm, .inr (4, [.ref xma0, .ref xma1, .ref xma2, .ref xma3, .ref xma4, .ref xma5, .ref xma6, .ref xma7, .ref xma8, .ref xma9, .ref xma10, .ref xma11, .ref xma12, .int 0])), (xd, .inr (2, [.ref xda0, .ref xda1, .ref xda2, .ref xda3, .ref xda4, .ref xda5, .int 0, .int 0])), (xp, .inr (5, [.ref xpa0, .ref xpa1, .ref xpa2, .ref xpa3, .int 0]))] H := hP
        have hD : va_D A [(x0, .inr (11, [.ref xr, .ref xt, .ref xg, .ref xb, .ref xp, .ref xu, .ref xm, .ref xd, .ref xw, .ref xh, .ref xa, .ref xs, .ref xf, .int 0, .int 0, .long 0, .long 0, .int 0])), (xr, .inr (8, [.int 6, .int 0, .ref xrs, .ref xrp])), (xrs, .inl (cI g, 6, .inl (fun _ => (-1)))), (xt, .inr (8, [.int 4, .int 32, .ref xts, .ref xtp])), (xts, .inl (cI g, 6, .inl (fun _ => (-1)))), (xb, .inr (1, [.ref xba0, .ref xba1, .ref xba2, .ref xba3, .ref xba4, .ref xba5, .ref xba6, .ref xba7, .ref xba8, .ref xba9, .ref xba10, .ref xba11, .int 0, .int 0])), (xu, .inr (7, [.ref xua0, .ref xua1, .ref xua2, .int 0])), (xm, .inr (4, [.ref xma0, .ref xma1, .ref xma2, .ref xma3, .ref xma4, .ref xma5, .ref xma6, .ref xma7, .ref xma8, .ref xma9, .ref xma10, .ref xma11, .ref xma12, .int 0])), (xd, .inr (2, [.ref xda0, .ref xda1, .ref xda2, .ref xda3, .ref xda4, .ref xda5, .int 0, .int 0])), (xp, .inr (5, [.ref xpa0, .ref xpa1, .ref xpa2, .ref xpa3, .int 0]))] := hD
        exact rI X hK hP hD hS dX11_count_79 (by rfl) (Nat.le_of_ble_eq_true rfl) (Nat.le_of_ble_eq_true rfl) (by show _ = _; unfold sp_X11_count; rw [if_neg c_1, if_neg c_2, if_pos c_5]; try rfl)
      ·
        rcases Classical.em (n = 3) with c_8 | c_8
        ·
          refine lv_tableIn (off := 79) (tgt := 80) hx hb dX11_count_1 (by rw [c_8]; decide) (by rw [c_8]; decide) (by rw [c_8]; decide) (by decide) ?_
          refine lv_aload_n hx hb dX11_count_80 rfl (lv_at hl 0 rfl) ?_
          refine va_get (D := g.1) (ci := 11) (v := .ref xp) (C := RX11) (T := TX11) (N := 18) hx hb hts fw_X11 hown hK hP 0 rfl rfl 4 (by decide) (hts _ q_462) (fun _ h9 => h9) rfl dX11_count_81 ?_
          refine kVi (As := []) (rest := []) (wr := [(x0, .inr (11, [.ref xr, .ref xt, .ref xg, .ref xb, .ref xp, .ref xu, .ref xm, .ref xd, .ref xw, .ref xh, .ref xa, .ref xs, .ref xf, .int 0, .int 0, .long 0, .long 0, .int 0])), (xr, .inr (8, [.int 6, .int 0, .ref xrs, .ref xrp])), (xrs, .inl (cI g, 6, .inl (fun _ => (-1)))), (xt, .inr (8, [.int 4, .int 32, .ref xts, .ref xtp])), (xts, .inl (cI g, 6, .inl (fun _ => (-1)))), (xb, .inr (1, [.ref xba0, .ref xba1, .ref xba2, .ref xba3, .ref xba4, .ref xba5, .ref xba6, .ref xba7, .ref xba8, .ref xba9, .ref xba10, .ref xba11, .int 0, .int 0])), (xu, .inr (7, [.ref xua0, .ref xua1, .ref xua2, .int 0])), (xm, .inr (4, [.ref xma0, .ref xma1, .ref xma2, .ref xma3, .ref xma4, .ref xma5, .ref xma6, .ref xma7, .ref xma8, .ref xma9, .ref xma10, .ref xma11, .ref xma12, .int 0])), (xd, .inr (2, [.ref xda0, .ref xda1, .ref xda2, .ref xda3, .ref xda4, .ref xda5, .int 0, .int 0]))]) X (c_X5_homeless l g xp xpa0 xpa1 xpa2 xpa3) ok_X5_homeless okv_X5_homeless q_1397 rfl hK hP hD hS hA hZ hl.1 [6] [0, 1, 2, 3, 4, 5, 7, 8, 9] rfl rfl rfl rfl rfl 0 5 rfl rfl rfl (Nat.le_of_ble_eq_true rfl) ⟨Nat.le_of_ble_eq_true rfl, Nat.le_of_ble_eq_true rfl⟩ dX11_count_84 ⟨Nat.le_of_ble_eq_true rfl, Nat.le_of_ble_eq_true rfl⟩ (fun r_9 w1 H locs hw_10 hP hD hS => ?_)
          rw [sp_X5_homeless] at hw_10
          obtain ⟨e1, e2⟩ := Prod.mk.inj hw_10
          subst e1; subst e2
          have hP : va_P g.1 classes [(x0, .inr (11, [.ref xr, .ref xt, .ref xg, .ref xb, .ref xp, .ref xu, .ref xm, .ref xd, .ref xw, .ref xh, .ref xa, .ref xs, .ref xf, .int 0, .int 0, .long 0, .long 0, .int 0])), (xr, .inr (8, [.int 6, .int 0, .ref xrs, .ref xrp])), (xrs, .inl (cI g, 6, .inl (fun _ => (-1)))), (xt, .inr (8, [.int 4, .int 32, .ref xts, .ref xtp])), (xts, .inl (cI g, 6, .inl (fun _ => (-1)))), (xb, .inr (1, [.ref xba0, .ref xba1, .ref xba2, .ref xba3, .ref xba4, .ref xba5, .ref xba6, .ref xba7, .ref xba8, .ref xba9, .ref xba10, .ref xba11, .int 0, .int 0])), (xu, .inr (7, [.ref xua0, .ref xua1, .ref xua2, .int 0])), (xm, .inr (4, [.ref xma0, .ref xma1, .ref xma2, .ref xma3, .ref xma4, .ref xma5, .ref xma6, .ref xma7, .ref xma8, .ref xma9, .ref xma10, .ref xma11, .ref xma12, .int 0])), (xd, .inr (2, [.ref xda0, .ref xda1, .ref xda2, .ref xda3, .ref xda4, .ref xda5, .int 0, .int 0])), (xp, .inr (5, [.ref xpa0, .ref xpa1, .ref xpa2, .ref xpa3, .int 0]))] H := hP
          have hD : va_D A [(x0, .inr (11, [.ref xr, .ref xt, .ref xg, .ref xb, .ref xp, .ref xu, .ref xm, .ref xd, .ref xw, .ref xh, .ref xa, .ref xs, .ref xf, .int 0, .int 0, .long 0, .long 0, .int 0])), (xr, .inr (8, [.int 6, .int 0, .ref xrs, .ref xrp])), (xrs, .inl (cI g, 6, .inl (fun _ => (-1)))), (xt, .inr (8, [.int 4, .int 32, .ref xts, .ref xtp])), (xts, .inl (cI g, 6, .inl (fun _ => (-1)))), (xb, .inr (1, [.ref xba0, .ref xba1, .ref xba2, .ref xba3, .ref xba4, .ref xba5, .ref xba6, .ref xba7, .ref xba8, .ref xba9, .ref xba10, .ref xba11, .int 0, .int 0])), (xu, .inr (7, [.ref xua0, .ref xua1, .ref xua2, .int 0])), (xm, .inr (4, [.ref xma0, .ref xma1, .ref xma2, .ref xma3, .ref xma4, .ref xma5, .ref xma6, .ref xma7, .ref xma8, .ref xma9, .ref xma10, .ref xma11, .ref xma12, .int 0])), (xd, .inr (2, [.ref xda0, .ref xda1, .ref xda2, .ref xda3, .ref xda4, .ref xda5, .int 0, .int 0])), (xp, .inr (5, [.ref xpa0, .ref xpa1, .ref xpa2, .ref xpa3, .int 0]))] := hD
          exact rI X hK hP hD hS dX11_count_87 (by rfl) (Nat.le_of_ble_eq_true rfl) (Nat.le_of_ble_eq_true rfl) (by show _ = _; unfold sp_X11_count; rw [if_neg c_1, if_neg c_2, if_neg c_5, if_pos c_8]; try rfl)
        ·
          rcases Classical.em (n = 4) with c_11 | c_11
          ·
            refine lv_tableIn (off := 87) (tgt := 88) hx hb dX11_count_1 (by rw [c_11]; decide) (by rw [c_11]; decide) (by rw [c_11]; decide) (by decide) ?_
            refine lv_aload_n hx hb dX11_count_88 rfl (lv_at hl 0 rfl) ?_
            refine va_get (D := g.1) (ci := 11) (v := .ref xu) (C := RX11) (T := TX11) (N := 18) hx hb hts fw_X11 hown hK hP 0 rfl rfl 5 (by decide) (hts _ q_463) (fun _ h9 => h9) rfl dX11_count_89 ?_
            refine kVi (As := []) (rest := []) (wr := [(x0, .inr (11, [.ref xr, .ref xt, .ref xg, .ref xb, .ref xp, .ref xu, .ref xm, .ref xd, .ref xw, .ref xh, .ref xa, .ref xs, .ref xf, .int 0, .int 0, .long 0, .long 0, .int 0])), (xr, .inr (8, [.int 6, .int 0, .ref xrs, .ref xrp])), (xrs, .inl (cI g, 6, .inl (fun _ => (-1)))), (xt, .inr (8, [.int 4, .int 32, .ref xts, .ref xtp])), (xts, .inl (cI g, 6, .inl (fun _ => (-1)))), (xb, .inr (1, [.ref xba0, .ref xba1, .ref xba2, .ref xba3, .ref xba4, .ref xba5, .ref xba6, .ref xba7, .ref xba8, .ref xba9, .ref xba10, .ref xba11, .int 0, .int 0])), (xp, .inr (5, [.ref xpa0, .ref xpa1, .ref xpa2, .ref xpa3, .int 0])), (xm, .inr (4, [.ref xma0, .ref xma1, .ref xma2, .ref xma3, .ref xma4, .ref xma5, .ref xma6, .ref xma7, .ref xma8, .ref xma9, .ref xma10, .ref xma11, .ref xma12, .int 0])), (xd, .inr (2, [.ref xda0, .ref xda1, .ref xda2, .ref xda3, .ref xda4, .ref xda5, .int 0, .int 0]))]) X (c_X7_number l g xu xua0 xua1 xua2) ok_X7_number okv_X7_number q_752 rfl hK hP hD hS hA hZ hl.1 [7] [0, 1, 2, 3, 4, 5, 6, 8, 9] rfl rfl rfl rfl rfl 0 7 rfl rfl rfl (Nat.le_of_ble_eq_true rfl) ⟨Nat.le_of_ble_eq_true rfl, Nat.le_of_ble_eq_true rfl⟩ dX11_count_92 ⟨Nat.le_of_ble_eq_true rfl, Nat.le_of_ble_eq_true rfl⟩ (fun r_12 w1 H locs hw_13 hP hD hS => ?_)
            rw [sp_X7_number] at hw_13
            obtain ⟨e1, e2⟩ := Prod.mk.inj hw_13
            subst e1; subst e2
            have hP : va_P g.1 classes [(x0, .inr (11, [.ref xr, .ref xt, .ref xg, .ref xb, .ref xp, .ref xu, .ref xm, .ref xd, .ref xw, .ref xh, .ref xa, .ref xs, .ref xf, .int 0, .int 0, .long 0, .long 0, .int 0])), (xr, .inr (8, [.int 6, .int 0, .ref xrs, .ref xrp])), (xrs, .inl (cI g, 6, .inl (fun _ => (-1)))), (xt, .inr (8, [.int 4, .int 32, .ref xts, .ref xtp])), (xts, .inl (cI g, 6, .inl (fun _ => (-1)))), (xb, .inr (1, [.ref xba0, .ref xba1, .ref xba2, .ref xba3, .ref xba4, .ref xba5, .ref xba6, .ref xba7, .ref xba8, .ref xba9, .ref xba10, .ref xba11, .int 0, .int 0])), (xp, .inr (5, [.ref xpa0, .ref xpa1, .ref xpa2, .ref xpa3, .int 0])), (xm, .inr (4, [.ref xma0, .ref xma1, .ref xma2, .ref xma3, .ref xma4, .ref xma5, .ref xma6, .ref xma7, .ref xma8, .ref xma9, .ref xma10, .ref xma11, .ref xma12, .int 0])), (xd, .inr (2, [.ref xda0, .ref xda1, .ref xda2, .ref xda3, .ref xda4, .ref xda5, .int 0, .int 0])), (xu, .inr (7, [.ref xua0, .ref xua1, .ref xua2, .int 0]))] H := hP
            have hD : va_D A [(x0, .inr (11, [.ref xr, .ref xt, .ref xg, .ref xb, .ref xp, .ref xu, .ref xm, .ref xd, .ref xw, .ref xh, .ref xa, .ref xs, .ref xf, .int 0, .int 0, .long 0, .long 0, .int 0])), (xr, .inr (8, [.int 6, .int 0, .ref xrs, .ref xrp])), (xrs, .inl (cI g, 6, .inl (fun _ => (-1)))), (xt, .inr (8, [.int 4, .int 32, .ref xts, .ref xtp])), (xts, .inl (cI g, 6, .inl (fun _ => (-1)))), (xb, .inr (1, [.ref xba0, .ref xba1, .ref xba2, .ref xba3, .ref xba4, .ref xba5, .ref xba6, .ref xba7, .ref xba8, .ref xba9, .ref xba10, .ref xba11, .int 0, .int 0])), (xp, .inr (5, [.ref xpa0, .ref xpa1, .ref xpa2, .ref xpa3, .int 0])), (xm, .inr (4, [.ref xma0, .ref xma1, .ref xma2, .ref xma3, .ref xma4, .ref xma5, .ref xma6, .ref xma7, .ref xma8, .ref xma9, .ref xma10, .ref xma11, .ref xma12, .int 0])), (xd, .inr (2, [.ref xda0, .ref xda1, .ref xda2, .ref xda3, .ref xda4, .ref xda5, .int 0, .int 0])), (xu, .inr (7, [.ref xua0, .ref xua1, .ref xua2, .int 0]))] := hD
            exact rI X hK hP hD hS dX11_count_95 (by rfl) (Nat.le_of_ble_eq_true rfl) (Nat.le_of_ble_eq_true rfl) (by show _ = _; unfold sp_X11_count; rw [if_neg c_1, if_neg c_2, if_neg c_5, if_neg c_8, if_pos c_11]; try rfl)
          ·
            rcases Classical.em (n = 5) with c_14 | c_14
            ·
              refine lv_tableIn (off := 95) (tgt := 96) hx hb dX11_count_1 (by rw [c_14]; decide) (by rw [c_14]; decide) (by rw [c_14]; decide) (by decide) ?_
              refine lv_aload_n hx hb dX11_count_96 rfl (lv_at hl 0 rfl) ?_
              refine va_get (D := g.1) (ci := 11) (v := .ref xm) (C := RX11) (T := TX11) (N := 18) hx hb hts fw_X11 hown hK hP 0 rfl rfl 6 (by decide) (hts _ q_464) (fun _ h9 => h9) rfl dX11_count_97 ?_
              refine kVi (As := []) (rest := []) (wr := [(x0, .inr (11, [.ref xr, .ref xt, .ref xg, .ref xb, .ref xp, .ref xu, .ref xm, .ref xd, .ref xw, .ref xh, .ref xa, .ref xs, .ref xf, .int 0, .int 0, .long 0, .long 0, .int 0])), (xr, .inr (8, [.int 6, .int 0, .ref xrs, .ref xrp])), (xrs, .inl (cI g, 6, .inl (fun _ => (-1)))), (xt, .inr (8, [.int 4, .int 32, .ref xts, .ref xtp])), (xts, .inl (cI g, 6, .inl (fun _ => (-1)))), (xb, .inr (1, [.ref xba0, .ref xba1, .ref xba2, .ref xba3, .ref xba4, .ref xba5, .ref xba6, .ref xba7, .ref xba8, .ref xba9, .ref xba10, .ref xba11, .int 0, .int 0])), (xp, .inr (5, [.ref xpa0, .ref xpa1, .ref xpa2, .ref xpa3, .int 0])), (xu, .inr (7, [.ref xua0, .ref xua1, .ref xua2, .int 0])), (xd, .inr (2, [.ref xda0, .ref xda1, .ref xda2, .ref xda3, .ref xda4, .ref xda5, .int 0, .int 0]))]) X (c_X4_number l g xm xma0 xma1 xma2 xma3 xma4 xma5 xma6 xma7 xma8 xma9 xma10 xma11 xma12) ok_X4_number okv_X4_number q_790 rfl hK hP hD hS hA hZ hl.1 [8] [0, 1, 2, 3, 4, 5, 6, 7, 9] rfl rfl rfl rfl rfl 0 4 rfl rfl rfl (Nat.le_of_ble_eq_true rfl) ⟨Nat.le_of_ble_eq_true rfl, Nat.le_of_ble_eq_true rfl⟩ dX11_count_100 ⟨Nat.le_of_ble_eq_true rfl, Nat.le_of_ble_eq_true rfl⟩ (fun r_15 w1 H locs hw_16 hP hD hS => ?_)
              rw [sp_X4_number] at hw_16
              obtain ⟨e1, e2⟩ := Prod.mk.inj hw_16
              subst e1; subst e2
              have hP : va_P g.1 classes [(x0, .inr (11, [.ref xr, .ref xt, .ref xg, .ref xb, .ref xp, .ref xu, .ref xm, .ref xd, .ref xw, .ref xh, .ref xa, .ref xs, .ref xf, .int 0, .int 0, .long 0, .long 0, .int 0])), (xr, .inr (8, [.int 6, .int 0, .ref xrs, .ref xrp])), (xrs, .inl (cI g, 6, .inl (fun _ => (-1)))), (xt, .inr (8, [.int 4, .int 32, .ref xts, .ref xtp])), (xts, .inl (cI g, 6, .inl (fun _ => (-1)))), (xb, .inr (1, [.ref xba0, .ref xba1, .ref xba2, .ref xba3, .ref xba4, .ref xba5, .ref xba6, .ref xba7, .ref xba8, .ref xba9, .ref xba10, .ref xba11, .int 0, .int 0])), (xp, .inr (5, [.ref xpa0, .ref xpa1, .ref xpa2, .ref xpa3, .int 0])), (xu, .inr (7, [.ref xua0, .ref xua1, .ref xua2, .int 0])), (xd, .inr (2, [.ref xda0, .ref xda1, .ref xda2, .ref xda3, .ref xda4, .ref xda5, .int 0, .int 0])), (xm, .inr (4, [.ref xma0, .ref xma1, .ref xma2, .ref xma3, .ref xma4, .ref xma5, .ref xma6, .ref xma7, .ref xma8, .ref xma9, .ref xma10, .ref xma11, .ref xma12, .int 0]))] H := hP
              have hD : va_D A [(x0, .inr (11, [.ref xr, .ref xt, .ref xg, .ref xb, .ref xp, .ref xu, .ref xm, .ref xd, .ref xw, .ref xh, .ref xa, .ref xs, .ref xf, .int 0, .int 0, .long 0, .long 0, .int 0])), (xr, .inr (8, [.int 6, .int 0, .ref xrs, .ref xrp])), (xrs, .inl (cI g, 6, .inl (fun _ => (-1)))), (xt, .inr (8, [.int 4, .int 32, .ref xts, .ref xtp])), (xts, .inl (cI g, 6, .inl (fun _ => (-1)))), (xb, .inr (1, [.ref xba0, .ref xba1, .ref xba2, .ref xba3, .ref xba4, .ref xba5, .ref xba6, .ref xba7, .ref xba8, .ref xba9, .ref xba10, .ref xba11, .int 0, .int 0])), (xp, .inr (5, [.ref xpa0, .ref xpa1, .ref xpa2, .ref xpa3, .int 0])), (xu, .inr (7, [.ref xua0, .ref xua1, .ref xua2, .int 0])), (xd, .inr (2, [.ref xda0, .ref xda1, .ref xda2, .ref xda3, .ref xda4, .ref xda5, .int 0, .int 0])), (xm, .inr (4, [.ref xma0, .ref xma1, .ref xma2, .ref xma3, .ref xma4, .ref xma5, .ref xma6, .ref xma7, .ref xma8, .ref xma9, .ref xma10, .ref xma11, .ref xma12, .int 0]))] := hD
              exact rI X hK hP hD hS dX11_count_103 (by rfl) (Nat.le_of_ble_eq_true rfl) (Nat.le_of_ble_eq_true rfl) (by show _ = _; unfold sp_X11_count; rw [if_neg c_1, if_neg c_2, if_neg c_5, if_neg c_8, if_neg c_11, if_pos c_14]; try rfl)
            ·
              rcases Classical.em (n = 6) with c_17 | c_17
              ·
                refine lv_tableIn (off := 103) (tgt := 104) hx hb dX11_count_1 (by rw [c_17]; decide) (by rw [c_17]; decide) (by rw [c_17]; decide) (by decide) ?_
                refine lv_aload_n hx hb dX11_count_104 rfl (lv_at hl 0 rfl) ?_
                refine va_get (D := g.1) (ci := 11) (v := .ref xd) (C := RX11) (T := TX11) (N := 18) hx hb hts fw_X11 hown hK hP 0 rfl rfl 7 (by decide) (hts _ q_465) (fun _ h9 => h9) rfl dX11_count_105 ?_
                refine kVi (As := []) (rest := []) (wr := [(x0, .inr (11, [.ref xr, .ref xt, .ref xg, .ref xb, .ref xp, .ref xu, .ref xm, .ref xd, .ref xw, .ref xh, .ref xa, .ref xs, .ref xf, .int 0, .int 0, .long 0, .long 0, .int 0])), (xr, .inr (8, [.int 6, .int 0, .ref xrs, .ref xrp])), (xrs, .inl (cI g, 6, .inl (fun _ => (-1)))), (xt, .inr (8, [.int 4, .int 32, .ref xts, .ref xtp])), (xts, .inl (cI g, 6, .inl (fun _ => (-1)))), (xb, .inr (1, [.ref xba0, .ref xba1, .ref xba2, .ref xba3, .ref xba4, .ref xba5, .ref xba6, .ref xba7, .ref xba8, .ref xba9, .ref xba10, .ref xba11, .int 0, .int 0])), (xp, .inr (5, [.ref xpa0, .ref xpa1, .ref xpa2, .ref xpa3, .int 0])), (xu, .inr (7, [.ref xua0, .ref xua1, .ref xua2, .int 0])), (xm, .inr (4, [.ref xma0, .ref xma1, .ref xma2, .ref xma3, .ref xma4, .ref xma5, .ref xma6, .ref xma7, .ref xma8, .ref xma9, .ref xma10, .ref xma11, .ref xma12, .int 0]))]) X (c_X2_buys l g xd xda0 xda1 xda2 xda3 xda4 xda5) ok_X2_buys okv_X2_buys q_1070 rfl hK hP hD hS hA hZ hl.1 [9] [0, 1, 2, 3, 4, 5, 6, 7, 8] rfl rfl rfl rfl rfl 0 2 rfl rfl rfl (Nat.le_of_ble_eq_true rfl) ⟨Nat.le_of_ble_eq_true rfl, Nat.le_of_ble_eq_true rfl⟩ dX11_count_108 ⟨Nat.le_of_ble_eq_true rfl, Nat.le_of_ble_eq_true rfl⟩ (fun r_18 w1 H locs hw_19 hP hD hS => ?_)
                rw [sp_X2_buys] at hw_19
                obtain ⟨e1, e2⟩ := Prod.mk.inj hw_19
                subst e1; subst e2
                have hP : va_P g.1 classes [(x0, .inr (11, [.ref xr, .ref xt, .ref xg, .ref xb, .ref xp, .ref xu, .ref xm, .ref xd, .ref xw, .ref xh, .ref xa, .ref xs, .ref xf, .int 0, .int 0, .long 0, .long 0, .int 0])), (xr, .inr (8, [.int 6, .int 0, .ref xrs, .ref xrp])), (xrs, .inl (cI g, 6, .inl (fun _ => (-1)))), (xt, .inr (8, [.int 4, .int 32, .ref xts, .ref xtp])), (xts, .inl (cI g, 6, .inl (fun _ => (-1)))), (xb, .inr (1, [.ref xba0, .ref xba1, .ref xba2, .ref xba3, .ref xba4, .ref xba5, .ref xba6, .ref xba7, .ref xba8, .ref xba9, .ref xba10, .ref xba11, .int 0, .int 0])), (xp, .inr (5, [.ref xpa0, .ref xpa1, .ref xpa2, .ref xpa3, .int 0])), (xu, .inr (7, [.ref xua0, .ref xua1, .ref xua2, .int 0])), (xm, .inr (4, [.ref xma0, .ref xma1, .ref xma2, .ref xma3, .ref xma4, .ref xma5, .ref xma6, .ref xma7, .ref xma8, .ref xma9, .ref xma10, .ref xma11, .ref xma12, .int 0])), (xd, .inr (2, [.ref xda0, .ref xda1, .ref xda2, .ref xda3, .ref xda4, .ref xda5, .int 0, .int 0]))] H := hP
                have hD : va_D A [(x0, .inr (11, [.ref xr, .ref xt, .ref xg, .ref xb, .ref xp, .ref xu, .ref xm, .ref xd, .ref xw, .ref xh, .ref xa, .ref xs, .ref xf, .int 0, .int 0, .long 0, .long 0, .int 0])), (xr, .inr (8, [.int 6, .int 0, .ref xrs, .ref xrp])), (xrs, .inl (cI g, 6, .inl (fun _ => (-1)))), (xt, .inr (8, [.int 4, .int 32, .ref xts, .ref xtp])), (xts, .inl (cI g, 6, .inl (fun _ => (-1)))), (xb, .inr (1, [.ref xba0, .ref xba1, .ref xba2, .ref xba3, .ref xba4, .ref xba5, .ref xba6, .ref xba7, .ref xba8, .ref xba9, .ref xba10, .ref xba11, .int 0, .int 0])), (xp, .inr (5, [.ref xpa0, .ref xpa1, .ref xpa2, .ref xpa3, .int 0])), (xu, .inr (7, [.ref xua0, .ref xua1, .ref xua2, .int 0])), (xm, .inr (4, [.ref xma0, .ref xma1, .ref xma2, .ref xma3, .ref xma4, .ref xma5, .ref xma6, .ref xma7, .ref xma8, .ref xma9, .ref xma10, .ref xma11, .ref xma12, .int 0])), (xd, .inr (2, [.ref xda0, .ref xda1, .ref xda2, .ref xda3, .ref xda4, .ref xda5, .int 0, .int 0]))] := hD
                exact rI X hK hP hD hS dX11_count_111 (by rfl) (Nat.le_of_ble_eq_true rfl) (Nat.le_of_ble_eq_true rfl) (by show _ = _; unfold sp_X11_count; rw [if_neg c_1, if_neg c_2, if_neg c_5, if_neg c_8, if_neg c_11, if_neg c_14, if_pos c_17]; try rfl)
              ·
                rcases Classical.em (n = 7) with c_20 | c_20
                ·
                  refine lv_tableIn (off := 111) (tgt := 112) hx hb dX11_count_1 (by rw [c_20]; decide) (by rw [c_20]; decide) (by rw [c_20]; decide) (by decide) ?_
                  refine lv_aload_n hx hb dX11_count_112 rfl (lv_at hl 0 rfl) ?_
                  refine va_get (D := g.1) (ci := 11) (v := .ref xb) (C := RX11) (T := TX11) (N := 18) hx hb hts fw_X11 hown hK hP 0 rfl rfl 3 (by decide) (hts _ q_461) (fun _ h9 => h9) rfl dX11_count_113 ?_
                  refine kVi (As := []) (rest := []) (wr := [(x0, .inr (11, [.ref xr, .ref xt, .ref xg, .ref xb, .ref xp, .ref xu, .ref xm, .ref xd, .ref xw, .ref xh, .ref xa, .ref xs, .ref xf, .int 0, .int 0, .long 0, .long 0, .int 0])), (xr, .inr (8, [.int 6, .int 0, .ref xrs, .ref xrp])), (xrs, .inl (cI g, 6, .inl (fun _ => (-1)))), (xt, .inr (8, [.int 4, .int 32, .ref xts, .ref xtp])), (xts, .inl (cI g, 6, .inl (fun _ => (-1)))), (xp, .inr (5, [.ref xpa0, .ref xpa1, .ref xpa2, .ref xpa3, .int 0])), (xu, .inr (7, [.ref xua0, .ref xua1, .ref xua2, .int 0])), (xm, .inr (4, [.ref xma0, .ref xma1, .ref xma2, .ref xma3, .ref xma4, .ref xma5, .ref xma6, .ref xma7, .ref xma8, .ref xma9, .ref xma10, .ref xma11, .ref xma12, .int 0])), (xd, .inr (2, [.ref xda0, .ref xda1, .ref xda2, .ref xda3, .ref xda4, .ref xda5, .int 0, .int 0]))]) X (c_X1_tellings l g xb xba0 xba1 xba2 xba3 xba4 xba5 xba6 xba7 xba8 xba9 xba10 xba11) ok_X1_tellings okv_X1_tellings q_1401 rfl hK hP hD hS hA hZ hl.1 [5] [0, 1, 2, 3, 4, 6, 7, 8, 9] rfl rfl rfl rfl rfl 0 1 rfl rfl rfl (Nat.le_of_ble_eq_true rfl) ⟨Nat.le_of_ble_eq_true rfl, Nat.le_of_ble_eq_true rfl⟩ dX11_count_116 ⟨Nat.le_of_ble_eq_true rfl, Nat.le_of_ble_eq_true rfl⟩ (fun r_21 w1 H locs hw_22 hP hD hS => ?_)
                  rw [sp_X1_tellings] at hw_22
                  obtain ⟨e1, e2⟩ := Prod.mk.inj hw_22
                  subst e1; subst e2
                  have hP : va_P g.1 classes [(x0, .inr (11, [.ref xr, .ref xt, .ref xg, .ref xb, .ref xp, .ref xu, .ref xm, .ref xd, .ref xw, .ref xh, .ref xa, .ref xs, .ref xf, .int 0, .int 0, .long 0, .long 0, .int 0])), (xr, .inr (8, [.int 6, .int 0, .ref xrs, .ref xrp])), (xrs, .inl (cI g, 6, .inl (fun _ => (-1)))), (xt, .inr (8, [.int 4, .int 32, .ref xts, .ref xtp])), (xts, .inl (cI g, 6, .inl (fun _ => (-1)))), (xp, .inr (5, [.ref xpa0, .ref xpa1, .ref xpa2, .ref xpa3, .int 0])), (xu, .inr (7, [.ref xua0, .ref xua1, .ref xua2, .int 0])), (xm, .inr (4, [.ref xma0, .ref xma1, .ref xma2, .ref xma3, .ref xma4, .ref xma5, .ref xma6, .ref xma7, .ref xma8, .ref xma9, .ref xma10, .ref xma11, .ref xma12, .int 0])), (xd, .inr (2, [.ref xda0, .ref xda1, .ref xda2, .ref xda3, .ref xda4, .ref xda5, .int 0, .int 0])), (xb, .inr (1, [.ref xba0, .ref xba1, .ref xba2, .ref xba3, .ref xba4, .ref xba5, .ref xba6, .ref xba7, .ref xba8, .ref xba9, .ref xba10, .ref xba11, .int 0, .int 0]))] H := hP
                  have hD : va_D A [(x0, .inr (11, [.ref xr, .ref xt, .ref xg, .ref xb, .ref xp, .ref xu, .ref xm, .ref xd, .ref xw, .ref xh, .ref xa, .ref xs, .ref xf, .int 0, .int 0, .long 0, .long 0, .int 0])), (xr, .inr (8, [.int 6, .int 0, .ref xrs, .ref xrp])), (xrs, .inl (cI g, 6, .inl (fun _ => (-1)))), (xt, .inr (8, [.int 4, .int 32, .ref xts, .ref xtp])), (xts, .inl (cI g, 6, .inl (fun _ => (-1)))), (xp, .inr (5, [.ref xpa0, .ref xpa1, .ref xpa2, .ref xpa3, .int 0])), (xu, .inr (7, [.ref xua0, .ref xua1, .ref xua2, .int 0])), (xm, .inr (4, [.ref xma0, .ref xma1, .ref xma2, .ref xma3, .ref xma4, .ref xma5, .ref xma6, .ref xma7, .ref xma8, .ref xma9, .ref xma10, .ref xma11, .ref xma12, .int 0])), (xd, .inr (2, [.ref xda0, .ref xda1, .ref xda2, .ref xda3, .ref xda4, .ref xda5, .int 0, .int 0])), (xb, .inr (1, [.ref xba0, .ref xba1, .ref xba2, .ref xba3, .ref xba4, .ref xba5, .ref xba6, .ref xba7, .ref xba8, .ref xba9, .ref xba10, .ref xba11, .int 0, .int 0]))] := hD
                  exact rI X hK hP hD hS dX11_count_119 (by rfl) (Nat.le_of_ble_eq_true rfl) (Nat.le_of_ble_eq_true rfl) (by show _ = _; unfold sp_X11_count; rw [if_neg c_1, if_neg c_2, if_neg c_5, if_neg c_8, if_neg c_11, if_neg c_14, if_neg c_17, if_pos c_20]; try rfl)
                ·
                  rcases Classical.em (n = 8) with c_23 | c_23
                  ·
                    refine lv_tableIn (off := 119) (tgt := 120) hx hb dX11_count_1 (by rw [c_23]; decide) (by rw [c_23]; decide) (by rw [c_23]; decide) (by decide) ?_
                    refine lv_aload_n hx hb dX11_count_120 rfl (lv_at hl 0 rfl) ?_
                    refine va_get (D := g.1) (ci := 11) (v := .ref xr) (C := RX11) (T := TX11) (N := 18) hx hb hts fw_X11 hown hK hP 0 rfl rfl 0 (by decide) (hts _ q_458) (fun _ h9 => h9) rfl dX11_count_121 ?_
                    refine kVi (As := []) (rest := []) (wr := [(x0, .inr (11, [.ref xr, .ref xt, .ref xg, .ref xb, .ref xp, .ref xu, .ref xm, .ref xd, .ref xw, .ref xh, .ref xa, .ref xs, .ref xf, .int 0, .int 0, .long 0, .long 0, .int 0])), (xt, .inr (8, [.int 4, .int 32, .ref xts, .ref xtp])), (xts, .inl (cI g, 6, .inl (fun _ => (-1)))), (xb, .inr (1, [.ref xba0, .ref xba1, .ref xba2, .ref xba3, .ref xba4, .ref xba5, .ref xba6, .ref xba7, .ref xba8, .ref xba9, .ref xba10, .ref xba11, .int 0, .int 0])), (xp, .inr (5, [.ref xpa0, .ref xpa1, .ref xpa2, .ref xpa3, .int 0])), (xu, .inr (7, [.ref xua0, .ref xua1, .ref xua2, .int 0])), (xm, .inr (4, [.ref xma0, .ref xma1, .ref xma2, .ref xma3, .ref xma4, .ref xma5, .ref xma6, .ref xma7, .ref xma8, .ref xma9, .ref xma10, .ref xma11, .ref xma12, .int 0])), (xd, .inr (2, [.ref xda0, .ref xda1, .ref xda2, .ref xda3, .ref xda4, .ref xda5, .int 0, .int 0]))]) X (c_X8_present6 l g xr xrs xrp) ok_X8_present okv_X8_present q_1405 rfl hK hP hD hS hA hZ hl.1 [1, 2] [0, 3, 4, 5, 6, 7, 8, 9] rfl rfl rfl rfl rfl 0 8 rfl rfl rfl (Nat.le_of_ble_eq_true rfl) ⟨Nat.le_of_ble_eq_true rfl, Nat.le_of_ble_eq_true rfl⟩ dX11_count_124 ⟨Nat.le_of_ble_eq_true rfl, Nat.le_of_ble_eq_true rfl⟩ (fun r_24 w1 H locs hw_25 hP hD hS => ?_)
                    rw [sp_X8_present6] at hw_25
                    obtain ⟨e1, e2⟩ := Prod.mk.inj hw_25
                    subst e1; subst e2
                    have hP : va_P g.1 classes [(x0, .inr (11, [.ref xr, .ref xt, .ref xg, .ref xb, .ref xp, .ref xu, .ref xm, .ref xd, .ref xw, .ref xh, .ref xa, .ref xs, .ref xf, .int 0, .int 0, .long 0, .long 0, .int 0])), (xt, .inr (8, [.int 4, .int 32, .ref xts, .ref xtp])), (xts, .inl (cI g, 6, .inl (fun _ => (-1)))), (xb, .inr (1, [.ref xba0, .ref xba1, .ref xba2, .ref xba3, .ref xba4, .ref xba5, .ref xba6, .ref xba7, .ref xba8, .ref xba9, .ref xba10, .ref xba11, .int 0, .int 0])), (xp, .inr (5, [.ref xpa0, .ref xpa1, .ref xpa2, .ref xpa3, .int 0])), (xu, .inr (7, [.ref xua0, .ref xua1, .ref xua2, .int 0])), (xm, .inr (4, [.ref xma0, .ref xma1, .ref xma2, .ref xma3, .ref xma4, .ref xma5, .ref xma6, .ref xma7, .ref xma8, .ref xma9, .ref xma10, .ref xma11, .ref xma12, .int 0])), (xd, .inr (2, [.ref xda0, .ref xda1, .ref xda2, .ref xda3, .ref xda4, .ref xda5, .int 0, .int 0])), (xr, .inr (8, [.int 6, .int 0, .ref xrs, .ref xrp])), (xrs, .inl (cI g, 6, .inl (fun _ => (-1))))] H := hP
                    have hD : va_D A [(x0, .inr (11, [.ref xr, .ref xt, .ref xg, .ref xb, .ref xp, .ref xu, .ref xm, .ref xd, .ref xw, .ref xh, .ref xa, .ref xs, .ref xf, .int 0, .int 0, .long 0, .long 0, .int 0])), (xt, .inr (8, [.int 4, .int 32, .ref xts, .ref xtp])), (xts, .inl (cI g, 6, .inl (fun _ => (-1)))), (xb, .inr (1, [.ref xba0, .ref xba1, .ref xba2, .ref xba3, .ref xba4, .ref xba5, .ref xba6, .ref xba7, .ref xba8, .ref xba9, .ref xba10, .ref xba11, .int 0, .int 0])), (xp, .inr (5, [.ref xpa0, .ref xpa1, .ref xpa2, .ref xpa3, .int 0])), (xu, .inr (7, [.ref xua0, .ref xua1, .ref xua2, .int 0])), (xm, .inr (4, [.ref xma0, .ref xma1, .ref xma2, .ref xma3, .ref xma4, .ref xma5, .ref xma6, .ref xma7, .ref xma8, .ref xma9, .ref xma10, .ref xma11, .ref xma12, .int 0])), (xd, .inr (2, [.ref xda0, .ref xda1, .ref xda2, .ref xda3, .ref xda4, .ref xda5, .int 0, .int 0])), (xr, .inr (8, [.int 6, .int 0, .ref xrs, .ref xrp])), (xrs, .inl (cI g, 6, .inl (fun _ => (-1))))] := hD
                    exact rI X hK hP hD hS dX11_count_127 (by rfl) (Nat.le_of_ble_eq_true rfl) (Nat.le_of_ble_eq_true rfl) (by show _ = _; unfold sp_X11_count; rw [if_neg c_1, if_neg c_2, if_neg c_5, if_neg c_8, if_neg c_11, if_neg c_14, if_neg c_17, if_neg c_20, if_pos c_23]; try rfl)
                  ·
                    rcases Classical.em (n = 9) with c_26 | c_26
                    ·
                      refine lv_tableIn (off := 127) (tgt := 128) hx hb dX11_count_1 (by rw [c_26]; decide) (by rw [c_26]; decide) (by rw [c_26]; decide) (by decide) ?_
                      refine lv_aload_n hx hb dX11_count_128 rfl (lv_at hl 0 rfl) ?_
                      refine va_get (D := g.1) (ci := 11) (v := .ref xt) (C := RX11) (T := TX11) (N := 18) hx hb hts fw_X11 hown hK hP 0 rfl rfl 1 (by decide) (hts _ q_459) (fun _ h9 => h9) rfl dX11_count_129 ?_
                      refine kVi (As := []) (rest := []) (wr := [(x0, .inr (11, [.ref xr, .ref xt, .ref xg, .ref xb, .ref xp, .ref xu, .ref xm, .ref xd, .ref xw, .ref xh, .ref xa, .ref xs, .ref xf, .int 0, .int 0, .long 0, .long 0, .int 0])), (xr, .inr (8, [.int 6, .int 0, .ref xrs, .ref xrp])), (xrs, .inl (cI g, 6, .inl (fun _ => (-1)))), (xb, .inr (1, [.ref xba0, .ref xba1, .ref xba2, .ref xba3, .ref xba4, .ref xba5, .ref xba6, .ref xba7, .ref xba8, .ref xba9, .ref xba10, .ref xba11, .int 0, .int 0])), (xp, .inr (5, [.ref xpa0, .ref xpa1, .ref xpa2, .ref xpa3, .int 0])), (xu, .inr (7, [.ref xua0, .ref xua1, .ref xua2, .int 0])), (xm, .inr (4, [.ref xma0, .ref xma1, .ref xma2, .ref xma3, .ref xma4, .ref xma5, .ref xma6, .ref xma7, .ref xma8, .ref xma9, .ref xma10, .ref xma11, .ref xma12, .int 0])), (xd, .inr (2, [.ref xda0, .ref xda1, .ref xda2, .ref xda3, .ref xda4, .ref xda5, .int 0, .int 0]))]) X (c_X8_present4 l g xt xts xtp) ok_X8_present okv_X8_present q_1405 rfl hK hP hD hS hA hZ hl.1 [3, 4] [0, 1, 2, 5, 6, 7, 8, 9] rfl rfl rfl rfl rfl 0 8 rfl rfl rfl (Nat.le_of_ble_eq_true rfl) ⟨Nat.le_of_ble_eq_true rfl, Nat.le_of_ble_eq_true rfl⟩ dX11_count_132 ⟨Nat.le_of_ble_eq_true rfl, Nat.le_of_ble_eq_true rfl⟩ (fun r_27 w1 H locs hw_28 hP hD hS => ?_)
                      rw [sp_X8_present4] at hw_28
                      obtain ⟨e1, e2⟩ := Prod.mk.inj hw_28
                      subst e1; subst e2
                      have hP : va_P g.1 classes [(x0, .inr (11, [.ref xr, .ref xt, .ref xg, .ref xb, .ref xp, .ref xu, .ref xm, .ref xd, .ref xw, .ref xh, .ref xa, .ref xs, .ref xf, .int 0, .int 0, .long 0, .long 0, .int 0])), (xr, .inr (8, [.int 6, .int 0, .ref xrs, .ref xrp])), (xrs, .inl (cI g, 6, .inl (fun _ => (-1)))), (xb, .inr (1, [.ref xba0, .ref xba1, .ref xba2, .ref xba3, .ref xba4, .ref xba5, .ref xba6, .ref xba7, .ref xba8, .ref xba9, .ref xba10, .ref xba11, .int 0, .int 0])), (xp, .inr (5, [.ref xpa0, .ref xpa1, .ref xpa2, .ref xpa3, .int 0])), (xu, .inr (7, [.ref xua0, .ref xua1, .ref xua2, .int 0])), (xm, .inr (4, [.ref xma0, .ref xma1, .ref xma2, .ref xma3, .ref xma4, .ref xma5, .ref xma6, .ref xma7, .ref xma8, .ref xma9, .ref xma10, .ref xma11, .ref xma12, .int 0])), (xd, .inr (2, [.ref xda0, .ref xda1, .ref xda2, .ref xda3, .ref xda4, .ref xda5, .int 0, .int 0])), (xt, .inr (8, [.int 4, .int 32, .ref xts, .ref xtp])), (xts, .inl (cI g, 6, .inl (fun _ => (-1))))] H := hP
                      have hD : va_D A [(x0, .inr (11, [.ref xr, .ref xt, .ref xg, .ref xb, .ref xp, .ref xu, .ref xm, .ref xd, .ref xw, .ref xh, .ref xa, .ref xs, .ref xf, .int 0, .int 0, .long 0, .long 0, .int 0])), (xr, .inr (8, [.int 6, .int 0, .ref xrs, .ref xrp])), (xrs, .inl (cI g, 6, .inl (fun _ => (-1)))), (xb, .inr (1, [.ref xba0, .ref xba1, .ref xba2, .ref xba3, .ref xba4, .ref xba5, .ref xba6, .ref xba7, .ref xba8, .ref xba9, .ref xba10, .ref xba11, .int 0, .int 0])), (xp, .inr (5, [.ref xpa0, .ref xpa1, .ref xpa2, .ref xpa3, .int 0])), (xu, .inr (7, [.ref xua0, .ref xua1, .ref xua2, .int 0])), (xm, .inr (4, [.ref xma0, .ref xma1, .ref xma2, .ref xma3, .ref xma4, .ref xma5, .ref xma6, .ref xma7, .ref xma8, .ref xma9, .ref xma10, .ref xma11, .ref xma12, .int 0])), (xd, .inr (2, [.ref xda0, .ref xda1, .ref xda2, .ref xda3, .ref xda4, .ref xda5, .int 0, .int 0])), (xt, .inr (8, [.int 4, .int 32, .ref xts, .ref xtp])), (xts, .inl (cI g, 6, .inl (fun _ => (-1))))] := hD
                      exact rI X hK hP hD hS dX11_count_135 (by rfl) (Nat.le_of_ble_eq_true rfl) (Nat.le_of_ble_eq_true rfl) (by show _ = _; unfold sp_X11_count; rw [if_neg c_1, if_neg c_2, if_neg c_5, if_neg c_8, if_neg c_11, if_neg c_14, if_neg c_17, if_neg c_20, if_neg c_23, if_pos c_26]; try rfl)
                    ·
                      refine lv_tableOut (tgt := 136) hx hb dX11_count_1 (by simp only [i32eq, Int32.reduceToInt, i32lt, i32le] at c_1 c_2 c_5 c_8 c_11 c_14 c_17 c_20 c_23 c_26; omega) (by decide) ?_
                      refine lv_iconst (v := (-1)) hx hb dX11_count_136 (by decide) ?_
                      exact rI X hK hP hD hS dX11_count_137 (by rfl) (Nat.le_of_ble_eq_true rfl) (Nat.le_of_ble_eq_true rfl) (by show _ = _; unfold sp_X11_count; rw [if_neg c_1, if_neg c_2, if_neg c_5, if_neg c_8, if_neg c_11, if_neg c_14, if_neg c_17, if_neg c_20, if_neg c_23, if_neg c_26]; try rfl)
def sp_X12_counts (g : GG) (m0 : Nat) (n : Int32) (m0a1 : Nat) (m0a5 : Nat) (m0a6 : Nat) (m0a7 : Nat) (m0a8 : Nat) (m0a9 : Nat) (m0a11 : Nat) (m0a12 : Nat) (m0a13 : Nat) (m0a14 : Nat) (m0a15 : Nat) (m0a16 : Nat) (m0a18 : Nat) (m0a19 : Nat) (m0a20 : Nat) (m0a21 : Nat) (m0a22 : Nat) (m0a24 : Nat) (m0a25 : Nat) (m0a26 : Nat) (m0a28 : Nat) (m0a29 : Nat) (m0a30 : Nat) (m0a31 : Nat) (m0a33 : Nat) (m0a34 : Nat) (m0a35 : Nat) (m0a36 : Nat) (m0a37 : Nat) (m0a38 : Nat) (m0a39 : Nat) (m0a40 : Nat) (m0a41 : Nat) (m0a42 : Nat) (m0a43 : Nat) (m0a44 : Nat) (m0a45 : Nat) (m0a46 : Nat) (m0a47 : Nat) (m0a49 : Nat) (m0a50 : Nat) (m0a51 : Nat) (m0a53 : Nat) (m0a54 : Nat) (m0a55 : Nat) (m0a56 : Nat) (m0a57 : Nat) (m0a58 : Nat) (m0a59 : Nat) (m0a60 : Nat) (m0a61 : Nat) (m0a62 : Nat) (m0a63 : Nat) (m0a67 : Nat) (m0a68 : Nat) (m0a69 : Nat) (m0a70 : Nat) (m0a71 : Nat) (m0a72 : Nat) (m0a73 : Nat) (m0a74 : Nat) (m0a75 : Nat) : Int32 × va_W := if n = 0 then (0, [(m0, .inr (12, [.int 0, .ref m0a1, .int 0, .long 0, .int 0, .ref m0a5, .ref m0a6, .ref m0a7, .ref m0a8, .ref m0a9, .int 0, .ref m0a11, .ref m0a12, .ref m0a13, .ref m0a14, .ref m0a15, .ref m0a16, .int 0, .ref m0a18, .ref m0a19, .ref m0a20, .ref m0a21, .ref m0a22, .int 0, .ref m0a24, .ref m0a25, .ref m0a26, .int 0, .ref m0a28, .ref m0a29, .ref m0a30, .ref m0a31, .int 0, .ref m0a33, .ref m0a34, .ref m0a35, .ref m0a36, .ref m0a37, .ref m0a38, .ref m0a39, .ref m0a40, .ref m0a41, .ref m0a42, .ref m0a43, .ref m0a44, .ref m0a45, .ref m0a46, .ref m0a47, .int 0, .ref m0a49, .ref m0a50, .ref m0a51, .int 0, .ref m0a53, .ref m0a54, .ref m0a55, .ref m0a56, .ref m0a57, .ref m0a58, .ref m0a59, .ref m0a60, .ref m0a61, .ref m0a62, .ref m0a63, .long 0, .int 0, .int (-9), .ref m0a67, .ref m0a68, .ref m0a69, .ref m0a70, .ref m0a71, .ref m0a72, .ref m0a73, .ref m0a74, .ref m0a75, .long 0])), (m0a5, .inl (cI g, 6, .inl (fun _ => (-9)))), (m0a8, .inl (cI g, 4, .inl (fun _ => (-9))))]) else (if n = 1 then (0, [(m0, .inr (12, [.int 0, .ref m0a1, .int 0, .long 0, .int 0, .ref m0a5, .ref m0a6, .ref m0a7, .ref m0a8, .ref m0a9, .int 0, .ref m0a11, .ref m0a12, .ref m0a13, .ref m0a14, .ref m0a15, .ref m0a16, .int 0, .ref m0a18, .ref m0a19, .ref m0a20, .ref m0a21, .ref m0a22, .int 0, .ref m0a24, .ref m0a25, .ref m0a26, .int 0, .ref m0a28, .ref m0a29, .ref m0a30, .ref m0a31, .int 0, .ref m0a33, .ref m0a34, .ref m0a35, .ref m0a36, .ref m0a37, .ref m0a38, .ref m0a39, .ref m0a40, .ref m0a41, .ref m0a42, .ref m0a43, .ref m0a44, .ref m0a45, .ref m0a46, .ref m0a47, .int 0, .ref m0a49, .ref m0a50, .ref m0a51, .int 0, .ref m0a53, .ref m0a54, .ref m0a55, .ref m0a56, .ref m0a57, .ref m0a58, .ref m0a59, .ref m0a60, .ref m0a61, .ref m0a62, .ref m0a63, .long 0, .int 0, .int (-9), .ref m0a67, .ref m0a68, .ref m0a69, .ref m0a70, .ref m0a71, .ref m0a72, .ref m0a73, .ref m0a74, .ref m0a75, .long 0])), (m0a5, .inl (cI g, 6, .inl (fun _ => (-9)))), (m0a8, .inl (cI g, 4, .inl (fun _ => (-9))))]) else (if n = 2 then (0, [(m0, .inr (12, [.int 0, .ref m0a1, .int 0, .long 0, .int 0, .ref m0a5, .ref m0a6, .ref m0a7, .ref m0a8, .ref m0a9, .int 0, .ref m0a11, .ref m0a12, .ref m0a13, .ref m0a14, .ref m0a15, .ref m0a16, .int 0, .ref m0a18, .ref m0a19, .ref m0a20, .ref m0a21, .ref m0a22, .int 0, .ref m0a24, .ref m0a25, .ref m0a26, .int 0, .ref m0a28, .ref m0a29, .ref m0a30, .ref m0a31, .int 0, .ref m0a33, .ref m0a34, .ref m0a35, .ref m0a36, .ref m0a37, .ref m0a38, .ref m0a39, .ref m0a40, .ref m0a41, .ref m0a42, .ref m0a43, .ref m0a44, .ref m0a45, .ref m0a46, .ref m0a47, .int 0, .ref m0a49, .ref m0a50, .ref m0a51, .int 0, .ref m0a53, .ref m0a54, .ref m0a55, .ref m0a56, .ref m0a57, .ref m0a58, .ref m0a59, .ref m0a60, .ref m0a61, .ref m0a62, .ref m0a63, .long 0, .int 0, .int (-9), .ref m0a67, .ref m0a68, .ref m0a69, .ref m0a70, .ref m0a71, .ref m0a72, .ref m0a73, .ref m0a74, .ref m0a75, .long 0])), (m0a5, .inl (cI g, 6, .inl (fun _ => (-9)))), (m0a8, .inl (cI g, 4, .inl (fun _ => (-9))))]) else (if n = 3 then (0, [(m0, .inr (12, [.int 0, .ref m0a1, .int 0, .long 0, .int 0, .ref m0a5, .ref m0a6, .ref m0a7, .ref m0a8, .ref m0a9, .int 0, .ref m0a11, .ref m0a12, .ref m0a13, .ref m0a14, .ref m0a15, .ref m0a16, .int 0, .ref m0a18, .ref m0a19, .ref m0a20, .ref m0a21, .ref m0a22, .int 0, .ref m0a24, .ref m0a25, .ref m0a26, .int 0, .ref m0a28, .ref m0a29, .ref m0a30, .ref m0a31, .int 0, .ref m0a33, .ref m0a34, .ref m0a35, .ref m0a36, .ref m0a37, .ref m0a38, .ref m0a39, .ref m0a40, .ref m0a41, .ref m0a42, .ref m0a43, .ref m0a44, .ref m0a45, .ref m0a46, .ref m0a47, .int 0, .ref m0a49, .ref m0a50, .ref m0a51, .int 0, .ref m0a53, .ref m0a54, .ref m0a55, .ref m0a56, .ref m0a57, .ref m0a58, .ref m0a59, .ref m0a60, .ref m0a61, .ref m0a62, .ref m0a63, .long 0, .int 0, .int (-9), .ref m0a67, .ref m0a68, .ref m0a69, .ref m0a70, .ref m0a71, .ref m0a72, .ref m0a73, .ref m0a74, .ref m0a75, .long 0])), (m0a5, .inl (cI g, 6, .inl (fun _ => (-9)))), (m0a8, .inl (cI g, 4, .inl (fun _ => (-9))))]) else (if n = 4 then (0, [(m0, .inr (12, [.int 0, .ref m0a1, .int 0, .long 0, .int 0, .ref m0a5, .ref m0a6, .ref m0a7, .ref m0a8, .ref m0a9, .int 0, .ref m0a11, .ref m0a12, .ref m0a13, .ref m0a14, .ref m0a15, .ref m0a16, .int 0, .ref m0a18, .ref m0a19, .ref m0a20, .ref m0a21, .ref m0a22, .int 0, .ref m0a24, .ref m0a25, .ref m0a26, .int 0, .ref m0a28, .ref m0a29, .ref m0a30, .ref m0a31, .int 0, .ref m0a33, .ref m0a34, .ref m0a35, .ref m0a36, .ref m0a37, .ref m0a38, .ref m0a39, .ref m0a40, .ref m0a41, .ref m0a42, .ref m0a43, .ref m0a44, .ref m0a45, .ref m0a46, .ref m0a47, .int 0, .ref m0a49, .ref m0a50, .ref m0a51, .int 0, .ref m0a53, .ref m0a54, .ref m0a55, .ref m0a56, .ref m0a57, .ref m0a58, .ref m0a59, .ref m0a60, .ref m0a61, .ref m0a62, .ref m0a63, .long 0, .int 0, .int (-9), .ref m0a67, .ref m0a68, .ref m0a69, .ref m0a70, .ref m0a71, .ref m0a72, .ref m0a73, .ref m0a74, .ref m0a75, .long 0])), (m0a5, .inl (cI g, 6, .inl (fun _ => (-9)))), (m0a8, .inl (cI g, 4, .inl (fun _ => (-9))))]) else (if n = 5 then (0, [(m0, .inr (12, [.int 0, .ref m0a1, .int 0, .long 0, .int 0, .ref m0a5, .ref m0a6, .ref m0a7, .ref m0a8, .ref m0a9, .int 0, .ref m0a11, .ref m0a12, .ref m0a13, .ref m0a14, .ref m0a15, .ref m0a16, .int 0, .ref m0a18, .ref m0a19, .ref m0a20, .ref m0a21, .ref m0a22, .int 0, .ref m0a24, .ref m0a25, .ref m0a26, .int 0, .ref m0a28, .ref m0a29, .ref m0a30, .ref m0a31, .int 0, .ref m0a33, .ref m0a34, .ref m0a35, .ref m0a36, .ref m0a37, .ref m0a38, .ref m0a39, .ref m0a40, .ref m0a41, .ref m0a42, .ref m0a43, .ref m0a44, .ref m0a45, .ref m0a46, .ref m0a47, .int 0, .ref m0a49, .ref m0a50, .ref m0a51, .int 0, .ref m0a53, .ref m0a54, .ref m0a55, .ref m0a56, .ref m0a57, .ref m0a58, .ref m0a59, .ref m0a60, .ref m0a61, .ref m0a62, .ref m0a63, .long 0, .int 0, .int (-9), .ref m0a67, .ref m0a68, .ref m0a69, .ref m0a70, .ref m0a71, .ref m0a72, .ref m0a73, .ref m0a74, .ref m0a75, .long 0])), (m0a5, .inl (cI g, 6, .inl (fun _ => (-9)))), (m0a8, .inl (cI g, 4, .inl (fun _ => (-9))))]) else (if n = 6 then (0, [(m0, .inr (12, [.int 0, .ref m0a1, .int 0, .long 0, .int 0, .ref m0a5, .ref m0a6, .ref m0a7, .ref m0a8, .ref m0a9, .int 0, .ref m0a11, .ref m0a12, .ref m0a13, .ref m0a14, .ref m0a15, .ref m0a16, .int 0, .ref m0a18, .ref m0a19, .ref m0a20, .ref m0a21, .ref m0a22, .int 0, .ref m0a24, .ref m0a25, .ref m0a26, .int 0, .ref m0a28, .ref m0a29, .ref m0a30, .ref m0a31, .int 0, .ref m0a33, .ref m0a34, .ref m0a35, .ref m0a36, .ref m0a37, .ref m0a38, .ref m0a39, .ref m0a40, .ref m0a41, .ref m0a42, .ref m0a43, .ref m0a44, .ref m0a45, .ref m0a46, .ref m0a47, .int 0, .ref m0a49, .ref m0a50, .ref m0a51, .int 0, .ref m0a53, .ref m0a54, .ref m0a55, .ref m0a56, .ref m0a57, .ref m0a58, .ref m0a59, .ref m0a60, .ref m0a61, .ref m0a62, .ref m0a63, .long 0, .int 0, .int (-9), .ref m0a67, .ref m0a68, .ref m0a69, .ref m0a70, .ref m0a71, .ref m0a72, .ref m0a73, .ref m0a74, .ref m0a75, .long 0])), (m0a5, .inl (cI g, 6, .inl (fun _ => (-9)))), (m0a8, .inl (cI g, 4, .inl (fun _ => (-9))))]) else (if n = 7 then (0, [(m0, .inr (12, [.int 0, .ref m0a1, .int 0, .long 0, .int 0, .ref m0a5, .ref m0a6, .ref m0a7, .ref m0a8, .ref m0a9, .int 0, .ref m0a11, .ref m0a12, .ref m0a13, .ref m0a14, .ref m0a15, .ref m0a16, .int 0, .ref m0a18, .ref m0a19, .ref m0a20, .ref m0a21, .ref m0a22, .int 0, .ref m0a24, .ref m0a25, .ref m0a26, .int 0, .ref m0a28, .ref m0a29, .ref m0a30, .ref m0a31, .int 0, .ref m0a33, .ref m0a34, .ref m0a35, .ref m0a36, .ref m0a37, .ref m0a38, .ref m0a39, .ref m0a40, .ref m0a41, .ref m0a42, .ref m0a43, .ref m0a44, .ref m0a45, .ref m0a46, .ref m0a47, .int 0, .ref m0a49, .ref m0a50, .ref m0a51, .int 0, .ref m0a53, .ref m0a54, .ref m0a55, .ref m0a56, .ref m0a57, .ref m0a58, .ref m0a59, .ref m0a60, .ref m0a61, .ref m0a62, .ref m0a63, .long 0, .int 0, .int (-9), .ref m0a67, .ref m0a68, .ref m0a69, .ref m0a70, .ref m0a71, .ref m0a72, .ref m0a73, .ref m0a74, .ref m0a75, .long 0])), (m0a5, .inl (cI g, 6, .inl (fun _ => (-9)))), (m0a8, .inl (cI g, 4, .inl (fun _ => (-9))))]) else (if n = 8 then (0, [(m0, .inr (12, [.int 0, .ref m0a1, .int 0, .long 0, .int 0, .ref m0a5, .ref m0a6, .ref m0a7, .ref m0a8, .ref m0a9, .int 0, .ref m0a11, .ref m0a12, .ref m0a13, .ref m0a14, .ref m0a15, .ref m0a16, .int 0, .ref m0a18, .ref m0a19, .ref m0a20, .ref m0a21, .ref m0a22, .int 0, .ref m0a24, .ref m0a25, .ref m0a26, .int 0, .ref m0a28, .ref m0a29, .ref m0a30, .ref m0a31, .int 0, .ref m0a33, .ref m0a34, .ref m0a35, .ref m0a36, .ref m0a37, .ref m0a38, .ref m0a39, .ref m0a40, .ref m0a41, .ref m0a42, .ref m0a43, .ref m0a44, .ref m0a45, .ref m0a46, .ref m0a47, .int 0, .ref m0a49, .ref m0a50, .ref m0a51, .int 0, .ref m0a53, .ref m0a54, .ref m0a55, .ref m0a56, .ref m0a57, .ref m0a58, .ref m0a59, .ref m0a60, .ref m0a61, .ref m0a62, .ref m0a63, .long 0, .int 0, .int (-9), .ref m0a67, .ref m0a68, .ref m0a69, .ref m0a70, .ref m0a71, .ref m0a72, .ref m0a73, .ref m0a74, .ref m0a75, .long 0])), (m0a5, .inl (cI g, 6, .inl (fun _ => (-9)))), (m0a8, .inl (cI g, 4, .inl (fun _ => (-9))))]) else (0, [(m0, .inr (12, [.int 0, .ref m0a1, .int 0, .long 0, .int 0, .ref m0a5, .ref m0a6, .ref m0a7, .ref m0a8, .ref m0a9, .int 0, .ref m0a11, .ref m0a12, .ref m0a13, .ref m0a14, .ref m0a15, .ref m0a16, .int 0, .ref m0a18, .ref m0a19, .ref m0a20, .ref m0a21, .ref m0a22, .int 0, .ref m0a24, .ref m0a25, .ref m0a26, .int 0, .ref m0a28, .ref m0a29, .ref m0a30, .ref m0a31, .int 0, .ref m0a33, .ref m0a34, .ref m0a35, .ref m0a36, .ref m0a37, .ref m0a38, .ref m0a39, .ref m0a40, .ref m0a41, .ref m0a42, .ref m0a43, .ref m0a44, .ref m0a45, .ref m0a46, .ref m0a47, .int 0, .ref m0a49, .ref m0a50, .ref m0a51, .int 0, .ref m0a53, .ref m0a54, .ref m0a55, .ref m0a56, .ref m0a57, .ref m0a58, .ref m0a59, .ref m0a60, .ref m0a61, .ref m0a62, .ref m0a63, .long 0, .int 0, .int (-9), .ref m0a67, .ref m0a68, .ref m0a69, .ref m0a70, .ref m0a71, .ref m0a72, .ref m0a73, .ref m0a74, .ref m0a75, .long 0])), (m0a5, .inl (cI g, 6, .inl (fun _ => (-9)))), (m0a8, .inl (cI g, 4, .inl (fun _ => (-9))))])))))))))
set_option maxHeartbeats 4000000 in
set_option maxRecDepth 100000 in
theorem c_X12_counts (l : Launch) (g : GG) (m0 : Nat) (n : Int32) (m0a1 : Nat) (m0a5 : Nat) (m0a6 : Nat) (m0a7 : Nat) (m0a8 : Nat) (m0a9 : Nat) (m0a11 : Nat) (m0a12 : Nat) (m0a13 : Nat) (m0a14 : Nat) (m0a15 : Nat) (m0a16 : Nat) (m0a18 : Nat) (m0a19 : Nat) (m0a20 : Nat) (m0a21 : Nat) (m0a22 : Nat) (m0a24 : Nat) (m0a25 : Nat) (m0a26 : Nat) (m0a28 : Nat) (m0a29 : Nat) (m0a30 : Nat) (m0a31 : Nat) (m0a33 : Nat) (m0a34 : Nat) (m0a35 : Nat) (m0a36 : Nat) (m0a37 : Nat) (m0a38 : Nat) (m0a39 : Nat) (m0a40 : Nat) (m0a41 : Nat) (m0a42 : Nat) (m0a43 : Nat) (m0a44 : Nat) (m0a45 : Nat) (m0a46 : Nat) (m0a47 : Nat) (m0a49 : Nat) (m0a50 : Nat) (m0a51 : Nat) (m0a53 : Nat) (m0a54 : Nat) (m0a55 : Nat) (m0a56 : Nat) (m0a57 : Nat) (m0a58 : Nat) (m0a59 : Nat) (m0a60 : Nat) (m0a61 : Nat) (m0a62 : Nat) (m0a63 : Nat) (m0a67 : Nat) (m0a68 : Nat) (m0a69 : Nat) (m0a70 : Nat) (m0a71 : Nat) (m0a72 : Nat) (m0a73 : Nat) (m0a74 : Nat) (m0a75 : Nat) (hn0 : ¬ (n < 0)) (hn9 : ¬ (9 < n)) : MI l g yX12_counts cX12_counts 4 (some .int) 0 0 0 0 [(m0, .inr (12, [.int 0, .ref m0a1, .int 0, .long 0, .int 0, .ref m0a5, .ref m0a6, .ref m0a7, .ref m0a8, .ref m0a9, .int 0, .ref m0a11, .ref m0a12, .ref m0a13, .ref m0a14, .ref m0a15, .ref m0a16, .int 0, .ref m0a18, .ref m0a19, .ref m0a20, .ref m0a21, .ref m0a22, .int 0, .ref m0a24, .ref m0a25, .ref m0a26, .int 0, .ref m0a28, .ref m0a29, .ref m0a30, .ref m0a31, .int 0, .ref m0a33, .ref m0a34, .ref m0a35, .ref m0a36, .ref m0a37, .ref m0a38, .ref m0a39, .ref m0a40, .ref m0a41, .ref m0a42, .ref m0a43, .ref m0a44, .ref m0a45, .ref m0a46, .ref m0a47, .int 0, .ref m0a49, .ref m0a50, .ref m0a51, .int 0, .ref m0a53, .ref m0a54, .ref m0a55, .ref m0a56, .ref m0a57, .ref m0a58, .ref m0a59, .ref m0a60, .ref m0a61, .ref m0a62, .ref m0a63, .long 0, .int 0, .int (-9), .ref m0a67, .ref m0a68, .ref m0a69, .ref m0a70, .ref m0a71, .ref m0a72, .ref m0a73, .ref m0a74, .ref m0a75, .long 0])), (m0a5, .inl (cI g, 6, .inl (fun _ => (-9)))), (m0a8, .inl (cI g, 4, .inl (fun _ => (-9))))] [.ref m0, .int n] (fun rr_ ww_ => (rr_, ww_) = sp_X12_counts g m0 n m0a1 m0a5 m0a6 m0a7 m0a8 m0a9 m0a11 m0a12 m0a13 m0a14 m0a15 m0a16 m0a18 m0a19 m0a20 m0a21 m0a22 m0a24 m0a25 m0a26 m0a28 m0a29 m0a30 m0a31 m0a33 m0a34 m0a35 m0a36 m0a37 m0a38 m0a39 m0a40 m0a41 m0a42 m0a43 m0a44 m0a45 m0a46 m0a47 m0a49 m0a50 m0a51 m0a53 m0a54 m0a55 m0a56 m0a57 m0a58 m0a59 m0a60 m0a61 m0a62 m0a63 m0a67 m0a68 m0a69 m0a70 m0a71 m0a72 m0a73 m0a74 m0a75) := by
  refine met_of (fun A => va_Qi _ (bW g A) A) (by decide) (Nat.le_of_ble_eq_true rfl) ?_
  intro p e s m below meth c A ls X hK hP hD hA hZ hS hl
  have hx := X.1
  have hb := X.2.1
  have hml := X.2.2.1
  have hown := X.2.2.2.1
  have hts := X.2.2.2.2.1
  have hnm := X.2.2.2.2.2.2.2
  have hl : lv_has ls 4 [(0, .ref m0), (1, .int n)] := hl
  refine lv_iconst (v := 0) hx hb dX12_counts_0 (by decide) ?_
  refine lv_istore_n (lv' := [(2, .int 0), (0, .ref m0), (1, .int n)]) hx hb dX12_counts_1 rfl hl (by decide) rfl (fun ls hl => ?_)
  refine lv_iload_n hx hb dX12_counts_2 rfl (lv_at hl 2 rfl) ?_
  rcases Classical.em (n = 0) with c_1 | c_1
  ·
    refine lv_tableIn (off := 49) (tgt := 52) hx hb dX12_counts_3 (by rw [c_1]; decide) (by rw [c_1]; decide) (by rw [c_1]; decide) (by decide) ?_
    refine lv_aload_n hx hb dX12_counts_52 rfl (lv_at hl 1 rfl) ?_
    refine va_get (D := g.1) (ci := 12) (v := .int 0) (C := RX12) (T := TX12) (N := 77) hx hb hts fw_X12 hown hK hP 0 rfl rfl 4 (by decide) (hts _ q_1470) (fun _ h9 => h9) rfl dX12_counts_53 ?_
    exact rI X hK hP hD hS dX12_counts_56 (by rfl) (Nat.le_of_ble_eq_true rfl) (Nat.le_of_ble_eq_true rfl) (by show ((_, _) : Int32 × va_W) = _; unfold sp_X12_counts; rw [if_pos c_1]; try rfl)
  ·
    rcases Classical.em (n = 1) with c_2 | c_2
    ·
      refine lv_tableIn (off := 54) (tgt := 57) hx hb dX12_counts_3 (by rw [c_2]; decide) (by rw [c_2]; decide) (by rw [c_2]; decide) (by decide) ?_
      refine lv_iconst (v := 0) hx hb dX12_counts_57 (by decide) ?_
      refine lv_istore_n (lv' := [(3, .int 0), (2, .int 0), (0, .ref m0), (1, .int n)]) hx hb dX12_counts_58 rfl hl (by decide) rfl (fun ls hl => ?_)
      refine lv_iload_n hx hb dX12_counts_59 rfl (lv_at hl 0 rfl) ?_
      refine lv_aload_n hx hb dX12_counts_60 rfl (lv_at hl 2 rfl) ?_
      refine va_get (D := g.1) (ci := 12) (v := .int 0) (C := RX12) (T := TX12) (N := 77) hx hb hts fw_X12 hown hK hP 0 rfl rfl 17 (by decide) (hts _ q_1483) (fun _ h9 => h9) rfl dX12_counts_61 ?_
      refine lv_icmp_ge (tgt := 90) hx hb dX12_counts_64 (by decide) (fun _ => ?_) (fun c_3 => absurd (by decide) c_3)
      refine lv_iload_n hx hb dX12_counts_90 rfl (lv_at hl 1 rfl) ?_
      exact rI X hK hP hD hS dX12_counts_91 (by rfl) (Nat.le_of_ble_eq_true rfl) (Nat.le_of_ble_eq_true rfl) (by show ((_, _) : Int32 × va_W) = _; unfold sp_X12_counts; rw [if_neg c_1, if_pos c_2]; try rfl)
    ·
      rcases Classical.em (n = 2) with c_4 | c_4
      ·
        refine lv_tableIn (off := 89) (tgt := 92) hx hb dX12_counts_3 (by rw [c_4]; decide) (by rw [c_4]; decide) (by rw [c_4]; decide) (by decide) ?_
        refine lv_aload_n hx hb dX12_counts_92 rfl (lv_at hl 1 rfl) ?_
        refine va_get (D := g.1) (ci := 12) (v := .int 0) (C := RX12) (T := TX12) (N := 77) hx hb hts fw_X12 hown hK hP 0 rfl rfl 27 (by decide) (hts _ q_1493) (fun _ h9 => h9) rfl dX12_counts_93 ?_
        exact rI X hK hP hD hS dX12_counts_96 (by rfl) (Nat.le_of_ble_eq_true rfl) (Nat.le_of_ble_eq_true rfl) (by show ((_, _) : Int32 × va_W) = _; unfold sp_X12_counts; rw [if_neg c_1, if_neg c_2, if_pos c_4]; try rfl)
      ·
        rcases Classical.em (n = 3) with c_5 | c_5
        ·
          refine lv_tableIn (off := 94) (tgt := 97) hx hb dX12_counts_3 (by rw [c_5]; decide) (by rw [c_5]; decide) (by rw [c_5]; decide) (by decide) ?_
          refine lv_iconst (v := 0) hx hb dX12_counts_97 (by decide) ?_
          refine lv_istore_n (lv' := [(3, .int 0), (2, .int 0), (0, .ref m0), (1, .int n)]) hx hb dX12_counts_98 rfl hl (by decide) rfl (fun ls hl => ?_)
          refine lv_iload_n hx hb dX12_counts_99 rfl (lv_at hl 0 rfl) ?_
          refine lv_aload_n hx hb dX12_counts_100 rfl (lv_at hl 2 rfl) ?_
          refine va_get (D := g.1) (ci := 12) (v := .int 0) (C := RX12) (T := TX12) (N := 77) hx hb hts fw_X12 hown hK hP 0 rfl rfl 27 (by decide) (hts _ q_1493) (fun _ h9 => h9) rfl dX12_counts_101 ?_
          refine lv_icmp_ge (tgt := 130) hx hb dX12_counts_104 (by decide) (fun _ => ?_) (fun c_6 => absurd (by decide) c_6)
          refine lv_iload_n hx hb dX12_counts_130 rfl (lv_at hl 1 rfl) ?_
          exact rI X hK hP hD hS dX12_counts_131 (by rfl) (Nat.le_of_ble_eq_true rfl) (Nat.le_of_ble_eq_true rfl) (by show ((_, _) : Int32 × va_W) = _; unfold sp_X12_counts; rw [if_neg c_1, if_neg c_2, if_neg c_4, if_pos c_5]; try rfl)
        ·
          rcases Classical.em (n = 4) with c_7 | c_7
          ·
            refine lv_tableIn (off := 129) (tgt := 132) hx hb dX12_counts_3 (by rw [c_7]; decide) (by rw [c_7]; decide) (by rw [c_7]; decide) (by decide) ?_
            refine lv_aload_n hx hb dX12_counts_132 rfl (lv_at hl 1 rfl) ?_
            refine va_get (D := g.1) (ci := 12) (v := .int 0) (C := RX12) (T := TX12) (N := 77) hx hb hts fw_X12 hown hK hP 0 rfl rfl 10 (by decide) (hts _ q_1476) (fun _ h9 => h9) rfl dX12_counts_133 ?_
            exact rI X hK hP hD hS dX12_counts_136 (by rfl) (Nat.le_of_ble_eq_true rfl) (Nat.le_of_ble_eq_true rfl) (by show ((_, _) : Int32 × va_W) = _; unfold sp_X12_counts; rw [if_neg c_1, if_neg c_2, if_neg c_4, if_neg c_5, if_pos c_7]; try rfl)
          ·
            rcases Classical.em (n = 5) with c_8 | c_8
            ·
              refine lv_tableIn (off := 134) (tgt := 137) hx hb dX12_counts_3 (by rw [c_8]; decide) (by rw [c_8]; decide) (by rw [c_8]; decide) (by decide) ?_
              refine lv_aload_n hx hb dX12_counts_137 rfl (lv_at hl 1 rfl) ?_
              refine va_get (D := g.1) (ci := 12) (v := .int 0) (C := RX12) (T := TX12) (N := 77) hx hb hts fw_X12 hown hK hP 0 rfl rfl 32 (by decide) (hts _ q_1498) (fun _ h9 => h9) rfl dX12_counts_138 ?_
              exact rI X hK hP hD hS dX12_counts_141 (by rfl) (Nat.le_of_ble_eq_true rfl) (Nat.le_of_ble_eq_true rfl) (by show ((_, _) : Int32 × va_W) = _; unfold sp_X12_counts; rw [if_neg c_1, if_neg c_2, if_neg c_4, if_neg c_5, if_neg c_7, if_pos c_8]; try rfl)
            ·
              rcases Classical.em (n = 6) with c_9 | c_9
              ·
                refine lv_tableIn (off := 139) (tgt := 142) hx hb dX12_counts_3 (by rw [c_9]; decide) (by rw [c_9]; decide) (by rw [c_9]; decide) (by decide) ?_
                refine lv_aload_n hx hb dX12_counts_142 rfl (lv_at hl 1 rfl) ?_
                refine va_get (D := g.1) (ci := 12) (v := .int 0) (C := RX12) (T := TX12) (N := 77) hx hb hts fw_X12 hown hK hP 0 rfl rfl 48 (by decide) (hts _ q_1514) (fun _ h9 => h9) rfl dX12_counts_143 ?_
                exact rI X hK hP hD hS dX12_counts_146 (by rfl) (Nat.le_of_ble_eq_true rfl) (Nat.le_of_ble_eq_true rfl) (by show ((_, _) : Int32 × va_W) = _; unfold sp_X12_counts; rw [if_neg c_1, if_neg c_2, if_neg c_4, if_neg c_5, if_neg c_7, if_neg c_8, if_pos c_9]; try rfl)
              ·
                rcases Classical.em (n = 7) with c_10 | c_10
                ·
                  refine lv_tableIn (off := 144) (tgt := 147) hx hb dX12_counts_3 (by rw [c_10]; decide) (by rw [c_10]; decide) (by rw [c_10]; decide) (by decide) ?_
                  refine lv_aload_n hx hb dX12_counts_147 rfl (lv_at hl 1 rfl) ?_
                  refine va_get (D := g.1) (ci := 12) (v := .int 0) (C := RX12) (T := TX12) (N := 77) hx hb hts fw_X12 hown hK hP 0 rfl rfl 23 (by decide) (hts _ q_1489) (fun _ h9 => h9) rfl dX12_counts_148 ?_
                  exact rI X hK hP hD hS dX12_counts_151 (by rfl) (Nat.le_of_ble_eq_true rfl) (Nat.le_of_ble_eq_true rfl) (by show ((_, _) : Int32 × va_W) = _; unfold sp_X12_counts; rw [if_neg c_1, if_neg c_2, if_neg c_4, if_neg c_5, if_neg c_7, if_neg c_8, if_neg c_9, if_pos c_10]; try rfl)
                ·
                  rcases Classical.em (n = 8) with c_11 | c_11
                  ·
                    refine lv_tableIn (off := 149) (tgt := 152) hx hb dX12_counts_3 (by rw [c_11]; decide) (by rw [c_11]; decide) (by rw [c_11]; decide) (by decide) ?_
                    refine lv_iconst (v := 0) hx hb dX12_counts_152 (by decide) ?_
                    refine lv_istore_n (lv' := [(3, .int 0), (2, .int 0), (0, .ref m0), (1, .int n)]) hx hb dX12_counts_153 rfl hl (by decide) rfl (fun ls hl => ?_)
                    refine lv_iload_n hx hb dX12_counts_154 rfl (lv_at hl 0 rfl) ?_
                    refine lv_bipush (v := 6) hx hb dX12_counts_155 (by decide) ?_
                    refine lv_icmp_ge (tgt := 183) hx hb dX12_counts_157 (by decide) (fun c_12 => absurd c_12 (by decide)) (fun _ => ?_)
                    refine lv_iload_n hx hb dX12_counts_160 rfl (lv_at hl 1 rfl) ?_
                    refine lv_aload_n hx hb dX12_counts_161 rfl (lv_at hl 2 rfl) ?_
                    refine va_get (D := g.1) (ci := 12) (v := .ref m0a5) (C := RX12) (T := TX12) (N := 77) hx hb hts fw_X12 hown hK hP 0 rfl rfl 5 (by decide) (hts _ q_1471) (fun _ h9 => h9) rfl dX12_counts_162 ?_
                    refine lv_iload_n hx hb dX12_counts_165 rfl (lv_at hl 0 rfl) ?_
                    refine va_iald hx hb hK hP 1 0 rfl rfl (by unfold vp_in; decide) dX12_counts_166 ?_
                    refine lv_topk (v := (-9)) rfl ?_
                    refine lv_if_lt (tgt := 174) hx hb dX12_counts_167 (by decide) (fun _ => ?_) (fun c_13 => absurd (by decide) c_13)
                    refine lv_iconst (v := 0) hx hb dX12_counts_174 (by decide) ?_
                    refine lv_iadd hx hb dX12_counts_175 ?_
                    refine lv_topk (v := 0) (by decide) ?_
                    refine lv_istore_n (lv' := [(2, .int 0), (3, .int 0), (0, .ref m0), (1, .int n)]) hx hb dX12_counts_176 rfl hl (by decide) rfl (fun ls hl => ?_)
                    refine lv_iinc (v := 1) (lv' := [(3, .int 1), (2, .int 0), (0, .ref m0), (1, .int n)]) hx hb dX12_counts_177 hl (k := 1) rfl (by decide) (by decide) rfl (fun ls hl => ?_)
                    refine lv_goto (tgt := 154) hx hb dX12_counts_180 (by decide) ?_
                    refine lv_iload_n hx hb dX12_counts_154 rfl (lv_at hl 0 rfl) ?_
                    refine lv_bipush (v := 6) hx hb dX12_counts_155 (by decide) ?_
                    refine lv_icmp_ge (tgt := 183) hx hb dX12_counts_157 (by decide) (fun c_14 => absurd c_14 (by decide)) (fun _ => ?_)
                    refine lv_iload_n hx hb dX12_counts_160 rfl (lv_at hl 1 rfl) ?_
                    refine lv_aload_n hx hb dX12_counts_161 rfl (lv_at hl 2 rfl) ?_
                    refine va_get (D := g.1) (ci := 12) (v := .ref m0a5) (C := RX12) (T := TX12) (N := 77) hx hb hts fw_X12 hown hK hP 0 rfl rfl 5 (by decide) (hts _ q_1471) (fun _ h9 => h9) rfl dX12_counts_162 ?_
                    refine lv_iload_n hx hb dX12_counts_165 rfl (lv_at hl 0 rfl) ?_
                    refine va_iald hx hb hK hP 1 0 rfl rfl (by unfold vp_in; decide) dX12_counts_166 ?_
                    refine lv_topk (v := (-9)) rfl ?_
                    refine lv_if_lt (tgt := 174) hx hb dX12_counts_167 (by decide) (fun _ => ?_) (fun c_15 => absurd (by decide) c_15)
                    refine lv_iconst (v := 0) hx hb dX12_counts_174 (by decide) ?_
                    refine lv_iadd hx hb dX12_counts_175 ?_
                    refine lv_topk (v := 0) (by decide) ?_
                    refine lv_istore_n (lv' := [(2, .int 0), (3, .int 1), (0, .ref m0), (1, .int n)]) hx hb dX12_counts_176 rfl hl (by decide) rfl (fun ls hl => ?_)
                    refine lv_iinc (v := 2) (lv' := [(3, .int 2), (2, .int 0), (0, .ref m0), (1, .int n)]) hx hb dX12_counts_177 hl (k := 1) rfl (by decide) (by decide) rfl (fun ls hl => ?_)
                    refine lv_goto (tgt := 154) hx hb dX12_counts_180 (by decide) ?_
                    refine lv_iload_n hx hb dX12_counts_154 rfl (lv_at hl 0 rfl) ?_
                    refine lv_bipush (v := 6) hx hb dX12_counts_155 (by decide) ?_
                    refine lv_icmp_ge (tgt := 183) hx hb dX12_counts_157 (by decide) (fun c_16 => absurd c_16 (by decide)) (fun _ => ?_)
                    refine lv_iload_n hx hb dX12_counts_160 rfl (lv_at hl 1 rfl) ?_
                    refine lv_aload_n hx hb dX12_counts_161 rfl (lv_at hl 2 rfl) ?_
                    refine va_get (D := g.1) (ci := 12) (v := .ref m0a5) (C := RX12) (T := TX12) (N := 77) hx hb hts fw_X12 hown hK hP 0 rfl rfl 5 (by decide) (hts _ q_1471) (fun _ h9 => h9) rfl dX12_counts_162 ?_
                    refine lv_iload_n hx hb dX12_counts_165 rfl (lv_at hl 0 rfl) ?_
                    refine va_iald hx hb hK hP 1 0 rfl rfl (by unfold vp_in; decide) dX12_counts_166 ?_
                    refine lv_topk (v := (-9)) rfl ?_
                    refine lv_if_lt (tgt := 174) hx hb dX12_counts_167 (by decide) (fun _ => ?_) (fun c_17 => absurd (by decide) c_17)
                    refine lv_iconst (v := 0) hx hb dX12_counts_174 (by decide) ?_
                    refine lv_iadd hx hb dX12_counts_175 ?_
                    refine lv_topk (v := 0) (by decide) ?_
                    refine lv_istore_n (lv' := [(2, .int 0), (3, .int 2), (0, .ref m0), (1, .int n)]) hx hb dX12_counts_176 rfl hl (by decide) rfl (fun ls hl => ?_)
                    refine lv_iinc (v := 3) (lv' := [(3, .int 3), (2, .int 0), (0, .ref m0), (1, .int n)]) hx hb dX12_counts_177 hl (k := 1) rfl (by decide) (by decide) rfl (fun ls hl => ?_)
                    refine lv_goto (tgt := 154) hx hb dX12_counts_180 (by decide) ?_
                    refine lv_iload_n hx hb dX12_counts_154 rfl (lv_at hl 0 rfl) ?_
                    refine lv_bipush (v := 6) hx hb dX12_counts_155 (by decide) ?_
                    refine lv_icmp_ge (tgt := 183) hx hb dX12_counts_157 (by decide) (fun c_18 => absurd c_18 (by decide)) (fun _ => ?_)
                    refine lv_iload_n hx hb dX12_counts_160 rfl (lv_at hl 1 rfl) ?_
                    refine lv_aload_n hx hb dX12_counts_161 rfl (lv_at hl 2 rfl) ?_
                    refine va_get (D := g.1) (ci := 12) (v := .ref m0a5) (C := RX12) (T := TX12) (N := 77) hx hb hts fw_X12 hown hK hP 0 rfl rfl 5 (by decide) (hts _ q_1471) (fun _ h9 => h9) rfl dX12_counts_162 ?_
                    refine lv_iload_n hx hb dX12_counts_165 rfl (lv_at hl 0 rfl) ?_
                    refine va_iald hx hb hK hP 1 0 rfl rfl (by unfold vp_in; decide) dX12_counts_166 ?_
                    refine lv_topk (v := (-9)) rfl ?_
                    refine lv_if_lt (tgt := 174) hx hb dX12_counts_167 (by decide) (fun _ => ?_) (fun c_19 => absurd (by decide) c_19)
                    refine lv_iconst (v := 0) hx hb dX12_counts_174 (by decide) ?_
                    refine lv_iadd hx hb dX12_counts_175 ?_
                    refine lv_topk (v := 0) (by decide) ?_
                    refine lv_istore_n (lv' := [(2, .int 0), (3, .int 3), (0, .ref m0), (1, .int n)]) hx hb dX12_counts_176 rfl hl (by decide) rfl (fun ls hl => ?_)
                    refine lv_iinc (v := 4) (lv' := [(3, .int 4), (2, .int 0), (0, .ref m0), (1, .int n)]) hx hb dX12_counts_177 hl (k := 1) rfl (by decide) (by decide) rfl (fun ls hl => ?_)
                    refine lv_goto (tgt := 154) hx hb dX12_counts_180 (by decide) ?_
                    refine lv_iload_n hx hb dX12_counts_154 rfl (lv_at hl 0 rfl) ?_
                    refine lv_bipush (v := 6) hx hb dX12_counts_155 (by decide) ?_
                    refine lv_icmp_ge (tgt := 183) hx hb dX12_counts_157 (by decide) (fun c_20 => absurd c_20 (by decide)) (fun _ => ?_)
                    refine lv_iload_n hx hb dX12_counts_160 rfl (lv_at hl 1 rfl) ?_
                    refine lv_aload_n hx hb dX12_counts_161 rfl (lv_at hl 2 rfl) ?_
                    refine va_get (D := g.1) (ci := 12) (v := .ref m0a5) (C := RX12) (T := TX12) (N := 77) hx hb hts fw_X12 hown hK hP 0 rfl rfl 5 (by decide) (hts _ q_1471) (fun _ h9 => h9) rfl dX12_counts_162 ?_
                    refine lv_iload_n hx hb dX12_counts_165 rfl (lv_at hl 0 rfl) ?_
                    refine va_iald hx hb hK hP 1 0 rfl rfl (by unfold vp_in; decide) dX12_counts_166 ?_
                    refine lv_topk (v := (-9)) rfl ?_
                    refine lv_if_lt (tgt := 174) hx hb dX12_counts_167 (by decide) (fun _ => ?_) (fun c_21 => absurd (by decide) c_21)
                    refine lv_iconst (v := 0) hx hb dX12_counts_174 (by decide) ?_
                    refine lv_iadd hx hb dX12_counts_175 ?_
                    refine lv_topk (v := 0) (by decide) ?_
                    refine lv_istore_n (lv' := [(2, .int 0), (3, .int 4), (0, .ref m0), (1, .int n)]) hx hb dX12_counts_176 rfl hl (by decide) rfl (fun ls hl => ?_)
                    refine lv_iinc (v := 5) (lv' := [(3, .int 5), (2, .int 0), (0, .ref m0), (1, .int n)]) hx hb dX12_counts_177 hl (k := 1) rfl (by decide) (by decide) rfl (fun ls hl => ?_)
                    refine lv_goto (tgt := 154) hx hb dX12_counts_180 (by decide) ?_
                    refine lv_iload_n hx hb dX12_counts_154 rfl (lv_at hl 0 rfl) ?_
                    refine lv_bipush (v := 6) hx hb dX12_counts_155 (by decide) ?_
                    refine lv_icmp_ge (tgt := 183) hx hb dX12_counts_157 (by decide) (fun c_22 => absurd c_22 (by decide)) (fun _ => ?_)
                    refine lv_iload_n hx hb dX12_counts_160 rfl (lv_at hl 1 rfl) ?_
                    refine lv_aload_n hx hb dX12_counts_161 rfl (lv_at hl 2 rfl) ?_
                    refine va_get (D := g.1) (ci := 12) (v := .ref m0a5) (C := RX12) (T := TX12) (N := 77) hx hb hts fw_X12 hown hK hP 0 rfl rfl 5 (by decide) (hts _ q_1471) (fun _ h9 => h9) rfl dX12_counts_162 ?_
                    refine lv_iload_n hx hb dX12_counts_165 rfl (lv_at hl 0 rfl) ?_
                    refine va_iald hx hb hK hP 1 0 rfl rfl (by unfold vp_in; decide) dX12_counts_166 ?_
                    refine lv_topk (v := (-9)) rfl ?_
                    refine lv_if_lt (tgt := 174) hx hb dX12_counts_167 (by decide) (fun _ => ?_) (fun c_23 => absurd (by decide) c_23)
                    refine lv_iconst (v := 0) hx hb dX12_counts_174 (by decide) ?_
                    refine lv_iadd hx hb dX12_counts_175 ?_
                    refine lv_topk (v := 0) (by decide) ?_
                    refine lv_istore_n (lv' := [(2, .int 0), (3, .int 5), (0, .ref m0), (1, .int n)]) hx hb dX12_counts_176 rfl hl (by decide) rfl (fun ls hl => ?_)
                    refine lv_iinc (v := 6) (lv' := [(3, .int 6), (2, .int 0), (0, .ref m0), (1, .int n)]) hx hb dX12_counts_177 hl (k := 1) rfl (by decide) (by decide) rfl (fun ls hl => ?_)
                    refine lv_goto (tgt := 154) hx hb dX12_counts_180 (by decide) ?_
                    refine lv_iload_n hx hb dX12_counts_154 rfl (lv_at hl 0 rfl) ?_
                    refine lv_bipush (v := 6) hx hb dX12_counts_155 (by decide) ?_
                    refine lv_icmp_ge (tgt := 183) hx hb dX12_counts_157 (by decide) (fun _ => ?_) (fun c_24 => absurd (by decide) c_24)
                    refine lv_iload_n hx hb dX12_counts_183 rfl (lv_at hl 1 rfl) ?_
                    exact rI X hK hP hD hS dX12_counts_184 (by rfl) (Nat.le_of_ble_eq_true rfl) (Nat.le_of_ble_eq_true rfl) (by show ((_, _) : Int32 × va_W) = _; unfold sp_X12_counts; rw [if_neg c_1, if_neg c_2, if_neg c_4, if_neg c_5, if_neg c_7, if_neg c_8, if_neg c_9, if_neg c_10, if_pos c_11]; try rfl)
                  ·
                    refine lv_tableOut (tgt := 185) hx hb dX12_counts_3 (by simp only [i32eq, Int32.reduceToInt, i32lt, i32le] at hn0 hn9 c_1 c_2 c_4 c_5 c_7 c_8 c_9 c_10 c_11; omega) (by decide) ?_
                    refine lv_iconst (v := 0) hx hb dX12_counts_185 (by decide) ?_
                    refine lv_istore_n (lv' := [(3, .int 0), (2, .int 0), (0, .ref m0), (1, .int n)]) hx hb dX12_counts_186 rfl hl (by decide) rfl (fun ls hl => ?_)
                    refine lv_iload_n hx hb dX12_counts_187 rfl (lv_at hl 0 rfl) ?_
                    refine lv_iconst (v := 4) hx hb dX12_counts_188 (by decide) ?_
                    refine lv_icmp_ge (tgt := 215) hx hb dX12_counts_189 (by decide) (fun c_25 => absurd c_25 (by decide)) (fun _ => ?_)
                    refine lv_iload_n hx hb dX12_counts_192 rfl (lv_at hl 1 rfl) ?_
                    refine lv_aload_n hx hb dX12_counts_193 rfl (lv_at hl 2 rfl) ?_
                    refine va_get (D := g.1) (ci := 12) (v := .ref m0a8) (C := RX12) (T := TX12) (N := 77) hx hb hts fw_X12 hown hK hP 0 rfl rfl 8 (by decide) (hts _ q_1474) (fun _ h9 => h9) rfl dX12_counts_194 ?_
                    refine lv_iload_n hx hb dX12_counts_197 rfl (lv_at hl 0 rfl) ?_
                    refine va_iald hx hb hK hP 2 0 rfl rfl (by unfold vp_in; decide) dX12_counts_198 ?_
                    refine lv_topk (v := (-9)) rfl ?_
                    refine lv_if_lt (tgt := 206) hx hb dX12_counts_199 (by decide) (fun _ => ?_) (fun c_26 => absurd (by decide) c_26)
                    refine lv_iconst (v := 0) hx hb dX12_counts_206 (by decide) ?_
                    refine lv_iadd hx hb dX12_counts_207 ?_
                    refine lv_topk (v := 0) (by decide) ?_
                    refine lv_istore_n (lv' := [(2, .int 0), (3, .int 0), (0, .ref m0), (1, .int n)]) hx hb dX12_counts_208 rfl hl (by decide) rfl (fun ls hl => ?_)
                    refine lv_iinc (v := 1) (lv' := [(3, .int 1), (2, .int 0), (0, .ref m0), (1, .int n)]) hx hb dX12_counts_209 hl (k := 1) rfl (by decide) (by decide) rfl (fun ls hl => ?_)
                    refine lv_goto (tgt := 187) hx hb dX12_counts_212 (by decide) ?_
                    refine lv_iload_n hx hb dX12_counts_187 rfl (lv_at hl 0 rfl) ?_
                    refine lv_iconst (v := 4) hx hb dX12_counts_188 (by decide) ?_
                    refine lv_icmp_ge (tgt := 215) hx hb dX12_counts_189 (by decide) (fun c_27 => absurd c_27 (by decide)) (fun _ => ?_)
                    refine lv_iload_n hx hb dX12_counts_192 rfl (lv_at hl 1 rfl) ?_
                    refine lv_aload_n hx hb dX12_counts_193 rfl (lv_at hl 2 rfl) ?_
                    refine va_get (D := g.1) (ci := 12) (v := .ref m0a8) (C := RX12) (T := TX12) (N := 77) hx hb hts fw_X12 hown hK hP 0 rfl rfl 8 (by decide) (hts _ q_1474) (fun _ h9 => h9) rfl dX12_counts_194 ?_
                    refine lv_iload_n hx hb dX12_counts_197 rfl (lv_at hl 0 rfl) ?_
                    refine va_iald hx hb hK hP 2 0 rfl rfl (by unfold vp_in; decide) dX12_counts_198 ?_
                    refine lv_topk (v := (-9)) rfl ?_
                    refine lv_if_lt (tgt := 206) hx hb dX12_counts_199 (by decide) (fun _ => ?_) (fun c_28 => absurd (by decide) c_28)
                    refine lv_iconst (v := 0) hx hb dX12_counts_206 (by decide) ?_
                    refine lv_iadd hx hb dX12_counts_207 ?_
                    refine lv_topk (v := 0) (by decide) ?_
                    refine lv_istore_n (lv' := [(2, .int 0), (3, .int 1), (0, .ref m0), (1, .int n)]) hx hb dX12_counts_208 rfl hl (by decide) rfl (fun ls hl => ?_)
                    refine lv_iinc (v := 2) (lv' := [(3, .int 2), (2, .int 0), (0, .ref m0), (1, .int n)]) hx hb dX12_counts_209 hl (k := 1) rfl (by decide) (by decide) rfl (fun ls hl => ?_)
                    refine lv_goto (tgt := 187) hx hb dX12_counts_212 (by decide) ?_
                    refine lv_iload_n hx hb dX12_counts_187 rfl (lv_at hl 0 rfl) ?_
                    refine lv_iconst (v := 4) hx hb dX12_counts_188 (by decide) ?_
                    refine lv_icmp_ge (tgt := 215) hx hb dX12_counts_189 (by decide) (fun c_29 => absurd c_29 (by decide)) (fun _ => ?_)
                    refine lv_iload_n hx hb dX12_counts_192 rfl (lv_at hl 1 rfl) ?_
                    refine lv_aload_n hx hb dX12_counts_193 rfl (lv_at hl 2 rfl) ?_
                    refine va_get (D := g.1) (ci := 12) (v := .ref m0a8) (C := RX12) (T := TX12) (N := 77) hx hb hts fw_X12 hown hK hP 0 rfl rfl 8 (by decide) (hts _ q_1474) (fun _ h9 => h9) rfl dX12_counts_194 ?_
                    refine lv_iload_n hx hb dX12_counts_197 rfl (lv_at hl 0 rfl) ?_
                    refine va_iald hx hb hK hP 2 0 rfl rfl (by unfold vp_in; decide) dX12_counts_198 ?_
                    refine lv_topk (v := (-9)) rfl ?_
                    refine lv_if_lt (tgt := 206) hx hb dX12_counts_199 (by decide) (fun _ => ?_) (fun c_30 => absurd (by decide) c_30)
                    refine lv_iconst (v := 0) hx hb dX12_counts_206 (by decide) ?_
                    refine lv_iadd hx hb dX12_counts_207 ?_
                    refine lv_topk (v := 0) (by decide) ?_
                    refine lv_istore_n (lv' := [(2, .int 0), (3, .int 2), (0, .ref m0), (1, .int n)]) hx hb dX12_counts_208 rfl hl (by decide) rfl (fun ls hl => ?_)
                    refine lv_iinc (v := 3) (lv' := [(3, .int 3), (2, .int 0), (0, .ref m0), (1, .int n)]) hx hb dX12_counts_209 hl (k := 1) rfl (by decide) (by decide) rfl (fun ls hl => ?_)
                    refine lv_goto (tgt := 187) hx hb dX12_counts_212 (by decide) ?_
                    refine lv_iload_n hx hb dX12_counts_187 rfl (lv_at hl 0 rfl) ?_
                    refine lv_iconst (v := 4) hx hb dX12_counts_188 (by decide) ?_
                    refine lv_icmp_ge (tgt := 215) hx hb dX12_counts_189 (by decide) (fun c_31 => absurd c_31 (by decide)) (fun _ => ?_)
                    refine lv_iload_n hx hb dX12_counts_192 rfl (lv_at hl 1 rfl) ?_
                    refine lv_aload_n hx hb dX12_counts_193 rfl (lv_at hl 2 rfl) ?_
                    refine va_get (D := g.1) (ci := 12) (v := .ref m0a8) (C := RX12) (T := TX12) (N := 77) hx hb hts fw_X12 hown hK hP 0 rfl rfl 8 (by decide) (hts _ q_1474) (fun _ h9 => h9) rfl dX12_counts_194 ?_
                    refine lv_iload_n hx hb dX12_counts_197 rfl (lv_at hl 0 rfl) ?_
                    refine va_iald hx hb hK hP 2 0 rfl rfl (by unfold vp_in; decide) dX12_counts_198 ?_
                    refine lv_topk (v := (-9)) rfl ?_
                    refine lv_if_lt (tgt := 206) hx hb dX12_counts_199 (by decide) (fun _ => ?_) (fun c_32 => absurd (by decide) c_32)
                    refine lv_iconst (v := 0) hx hb dX12_counts_206 (by decide) ?_
                    refine lv_iadd hx hb dX12_counts_207 ?_
                    refine lv_topk (v := 0) (by decide) ?_
                    refine lv_istore_n (lv' := [(2, .int 0), (3, .int 3), (0, .ref m0), (1, .int n)]) hx hb dX12_counts_208 rfl hl (by decide) rfl (fun ls hl => ?_)
                    refine lv_iinc (v := 4) (lv' := [(3, .int 4), (2, .int 0), (0, .ref m0), (1, .int n)]) hx hb dX12_counts_209 hl (k := 1) rfl (by decide) (by decide) rfl (fun ls hl => ?_)
                    refine lv_goto (tgt := 187) hx hb dX12_counts_212 (by decide) ?_
                    refine lv_iload_n hx hb dX12_counts_187 rfl (lv_at hl 0 rfl) ?_
                    refine lv_iconst (v := 4) hx hb dX12_counts_188 (by decide) ?_
                    refine lv_icmp_ge (tgt := 215) hx hb dX12_counts_189 (by decide) (fun _ => ?_) (fun c_33 => absurd (by decide) c_33)
                    refine lv_iload_n hx hb dX12_counts_215 rfl (lv_at hl 1 rfl) ?_
                    exact rI X hK hP hD hS dX12_counts_216 (by rfl) (Nat.le_of_ble_eq_true rfl) (Nat.le_of_ble_eq_true rfl) (by show ((_, _) : Int32 × va_W) = _; unfold sp_X12_counts; rw [if_neg c_1, if_neg c_2, if_neg c_4, if_neg c_5, if_neg c_7, if_neg c_8, if_neg c_9, if_neg c_10, if_neg c_11]; try rfl)
def sp_X12_count (g : GG) (m0 : Nat) (n : Int32) (m0a1 : Nat) (m0a5 : Nat) (m0a6 : Nat) (m0a7 : Nat) (m0a8 : Nat) (m0a9 : Nat) (m0a11 : Nat) (m0a12 : Nat) (m0a13 : Nat) (m0a14 : Nat) (m0a15 : Nat) (m0a16 : Nat) (m0a18 : Nat) (m0a19 : Nat) (m0a20 : Nat) (m0a21 : Nat) (m0a22 : Nat) (m0a24 : Nat) (m0a25 : Nat) (m0a26 : Nat) (m0a28 : Nat) (m0a29 : Nat) (m0a30 : Nat) (m0a31 : Nat) (m0a33 : Nat) (m0a34 : Nat) (m0a35 : Nat) (m0a36 : Nat) (m0a37 : Nat) (m0a38 : Nat) (m0a39 : Nat) (m0a40 : Nat) (m0a41 : Nat) (m0a42 : Nat) (m0a43 : Nat) (m0a44 : Nat) (m0a45 : Nat) (m0a46 : Nat) (m0a47 : Nat) (m0a49 : Nat) (m0a50 : Nat) (m0a51 : Nat) (m0a53 : Nat) (m0a54 : Nat) (m0a55 : Nat) (m0a56 : Nat) (m0a57 : Nat) (m0a58 : Nat) (m0a59 : Nat) (m0a60 : Nat) (m0a61 : Nat) (m0a62 : Nat) (m0a63 : Nat) (m0a67 : Nat) (m0a68 : Nat) (m0a69 : Nat) (m0a70 : Nat) (m0a71 : Nat) (m0a72 : Nat) (m0a73 : Nat) (m0a74 : Nat) (m0a75 : Nat) : Int32 := if n < 0 then (-1) else (if 9 < n then (-1) else (if n = 0 then 0 else (if n = 1 then 0 else (if n = 2 then 0 else (if n = 3 then 0 else (if n = 4 then 0 else (if n = 5 then 0 else (if n = 6 then 0 else (if n = 7 then 0 else (if n = 8 then 0 else 0))))))))))
set_option maxHeartbeats 4000000 in
set_option maxRecDepth 100000 in
theorem c_X12_count (l : Launch) (g : GG) (m0 : Nat) (n : Int32) (m0a1 : Nat) (m0a5 : Nat) (m0a6 : Nat) (m0a7 : Nat) (m0a8 : Nat) (m0a9 : Nat) (m0a11 : Nat) (m0a12 : Nat) (m0a13 : Nat) (m0a14 : Nat) (m0a15 : Nat) (m0a16 : Nat) (m0a18 : Nat) (m0a19 : Nat) (m0a20 : Nat) (m0a21 : Nat) (m0a22 : Nat) (m0a24 : Nat) (m0a25 : Nat) (m0a26 : Nat) (m0a28 : Nat) (m0a29 : Nat) (m0a30 : Nat) (m0a31 : Nat) (m0a33 : Nat) (m0a34 : Nat) (m0a35 : Nat) (m0a36 : Nat) (m0a37 : Nat) (m0a38 : Nat) (m0a39 : Nat) (m0a40 : Nat) (m0a41 : Nat) (m0a42 : Nat) (m0a43 : Nat) (m0a44 : Nat) (m0a45 : Nat) (m0a46 : Nat) (m0a47 : Nat) (m0a49 : Nat) (m0a50 : Nat) (m0a51 : Nat) (m0a53 : Nat) (m0a54 : Nat) (m0a55 : Nat) (m0a56 : Nat) (m0a57 : Nat) (m0a58 : Nat) (m0a59 : Nat) (m0a60 : Nat) (m0a61 : Nat) (m0a62 : Nat) (m0a63 : Nat) (m0a67 : Nat) (m0a68 : Nat) (m0a69 : Nat) (m0a70 : Nat) (m0a71 : Nat) (m0a72 : Nat) (m0a73 : Nat) (m0a74 : Nat) (m0a75 : Nat) : MI l g yX12_count cX12_count 2 (some .int) 1 23 0 0 [(m0, .inr (12, [.int 0, .ref m0a1, .int 0, .long 0, .int 0, .ref m0a5, .ref m0a6, .ref m0a7, .ref m0a8, .ref m0a9, .int 0, .ref m0a11, .ref m0a12, .ref m0a13, .ref m0a14, .ref m0a15, .ref m0a16, .int 0, .ref m0a18, .ref m0a19, .ref m0a20, .ref m0a21, .ref m0a22, .int 0, .ref m0a24, .ref m0a25, .ref m0a26, .int 0, .ref m0a28, .ref m0a29, .ref m0a30, .ref m0a31, .int 0, .ref m0a33, .ref m0a34, .ref m0a35, .ref m0a36, .ref m0a37, .ref m0a38, .ref m0a39, .ref m0a40, .ref m0a41, .ref m0a42, .ref m0a43, .ref m0a44, .ref m0a45, .ref m0a46, .ref m0a47, .int 0, .ref m0a49, .ref m0a50, .ref m0a51, .int 0, .ref m0a53, .ref m0a54, .ref m0a55, .ref m0a56, .ref m0a57, .ref m0a58, .ref m0a59, .ref m0a60, .ref m0a61, .ref m0a62, .ref m0a63, .long 0, .int 0, .int (-9), .ref m0a67, .ref m0a68, .ref m0a69, .ref m0a70, .ref m0a71, .ref m0a72, .ref m0a73, .ref m0a74, .ref m0a75, .long 0])), (m0a5, .inl (cI g, 6, .inl (fun _ => (-9)))), (m0a8, .inl (cI g, 4, .inl (fun _ => (-9))))] [.ref m0, .int n] (fun rr_ _ => rr_ = sp_X12_count g m0 n m0a1 m0a5 m0a6 m0a7 m0a8 m0a9 m0a11 m0a12 m0a13 m0a14 m0a15 m0a16 m0a18 m0a19 m0a20 m0a21 m0a22 m0a24 m0a25 m0a26 m0a28 m0a29 m0a30 m0a31 m0a33 m0a34 m0a35 m0a36 m0a37 m0a38 m0a39 m0a40 m0a41 m0a42 m0a43 m0a44 m0a45 m0a46 m0a47 m0a49 m0a50 m0a51 m0a53 m0a54 m0a55 m0a56 m0a57 m0a58 m0a59 m0a60 m0a61 m0a62 m0a63 m0a67 m0a68 m0a69 m0a70 m0a71 m0a72 m0a73 m0a74 m0a75) := by
  refine met_of (fun A => va_Qi _ (bW g A) A) (by decide) (Nat.le_of_ble_eq_true rfl) ?_
  intro p e s m below meth c A ls X hK hP hD hA hZ hS hl
  have hx := X.1
  have hb := X.2.1
  have hml := X.2.2.1
  have hown := X.2.2.2.1
  have hts := X.2.2.2.2.1
  have hnm := X.2.2.2.2.2.2.2
  have hl : lv_has ls 2 [(0, .ref m0), (1, .int n)] := hl
  refine lv_iload_n hx hb dX12_count_0 rfl (lv_at hl 1 rfl) ?_
  refine lv_iconst (v := 0) hx hb dX12_count_1 (by decide) ?_
  refine lv_bipush (v := 9) hx hb dX12_count_2 (by decide) ?_
  refine kSi (As := [.int n, .int 0, .int 9]) (rest := []) (wr := [(m0, .inr (12, [.int 0, .ref m0a1, .int 0, .long 0, .int 0, .ref m0a5, .ref m0a6, .ref m0a7, .ref m0a8, .ref m0a9, .int 0, .ref m0a11, .ref m0a12, .ref m0a13, .ref m0a14, .ref m0a15, .ref m0a16, .int 0, .ref m0a18, .ref m0a19, .ref m0a20, .ref m0a21, .ref m0a22, .int 0, .ref m0a24, .ref m0a25, .ref m0a26, .int 0, .ref m0a28, .ref m0a29, .ref m0a30, .ref m0a31, .int 0, .ref m0a33, .ref m0a34, .ref m0a35, .ref m0a36, .ref m0a37, .ref m0a38, .ref m0a39, .ref m0a40, .ref m0a41, .ref m0a42, .ref m0a43, .ref m0a44, .ref m0a45, .ref m0a46, .ref m0a47, .int 0, .ref m0a49, .ref m0a50, .ref m0a51, .int 0, .ref m0a53, .ref m0a54, .ref m0a55, .ref m0a56, .ref m0a57, .ref m0a58, .ref m0a59, .ref m0a60, .ref m0a61, .ref m0a62, .ref m0a63, .long 0, .int 0, .int (-9), .ref m0a67, .ref m0a68, .ref m0a69, .ref m0a70, .ref m0a71, .ref m0a72, .ref m0a73, .ref m0a74, .ref m0a75, .long 0])), (m0a5, .inl (cI g, 6, .inl (fun _ => (-9)))), (m0a8, .inl (cI g, 4, .inl (fun _ => (-9))))]) X (c_X12_in l g n 0 9) ok_X12_in q_1706 q_1705 rfl hK hP hD hS hA hZ hl.1 [] [0, 1, 2] rfl rfl rfl rfl rfl rfl (Nat.le_of_ble_eq_true rfl) ⟨Nat.le_of_ble_eq_true rfl, Nat.le_of_ble_eq_true rfl⟩ dX12_count_4 ⟨Nat.le_of_ble_eq_true rfl, Nat.le_of_ble_eq_true rfl⟩ (fun r_1 w1 H locs hw_2 hP hD hS => ?_)
  rw [sp_X12_in] at hw_2
  rcases Classical.em (n < 0) with c_3 | c_3
  ·
    rw [if_pos c_3] at hw_2
    obtain ⟨e1, e2⟩ := Prod.mk.inj hw_2
    subst e1; subst e2
    have hP : va_P g.1 classes [(m0, .inr (12, [.int 0, .ref m0a1, .int 0, .long 0, .int 0, .ref m0a5, .ref m0a6, .ref m0a7, .ref m0a8, .ref m0a9, .int 0, .ref m0a11, .ref m0a12, .ref m0a13, .ref m0a14, .ref m0a15, .ref m0a16, .int 0, .ref m0a18, .ref m0a19, .ref m0a20, .ref m0a21, .ref m0a22, .int 0, .ref m0a24, .ref m0a25, .ref m0a26, .int 0, .ref m0a28, .ref m0a29, .ref m0a30, .ref m0a31, .int 0, .ref m0a33, .ref m0a34, .ref m0a35, .ref m0a36, .ref m0a37, .ref m0a38, .ref m0a39, .ref m0a40, .ref m0a41, .ref m0a42, .ref m0a43, .ref m0a44, .ref m0a45, .ref m0a46, .ref m0a47, .int 0, .ref m0a49, .ref m0a50, .ref m0a51, .int 0, .ref m0a53, .ref m0a54, .ref m0a55, .ref m0a56, .ref m0a57, .ref m0a58, .ref m0a59, .ref m0a60, .ref m0a61, .ref m0a62, .ref m0a63, .long 0, .int 0, .int (-9), .ref m0a67, .ref m0a68, .ref m0a69, .ref m0a70, .ref m0a71, .ref m0a72, .ref m0a73, .ref m0a74, .ref m0a75, .long 0])), (m0a5, .inl (cI g, 6, .inl (fun _ => (-9)))), (m0a8, .inl (cI g, 4, .inl (fun _ => (-9))))] H := hP
    have hD : va_D A [(m0, .inr (12, [.int 0, .ref m0a1, .int 0, .long 0, .int 0, .ref m0a5, .ref m0a6, .ref m0a7, .ref m0a8, .ref m0a9, .int 0, .ref m0a11, .ref m0a12, .ref m0a13, .ref m0a14, .ref m0a15, .ref m0a16, .int 0, .ref m0a18, .ref m0a19, .ref m0a20, .ref m0a21, .ref m0a22, .int 0, .ref m0a24, .ref m0a25, .ref m0a26, .int 0, .ref m0a28, .ref m0a29, .ref m0a30, .ref m0a31, .int 0, .ref m0a33, .ref m0a34, .ref m0a35, .ref m0a36, .ref m0a37, .ref m0a38, .ref m0a39, .ref m0a40, .ref m0a41, .ref m0a42, .ref m0a43, .ref m0a44, .ref m0a45, .ref m0a46, .ref m0a47, .int 0, .ref m0a49, .ref m0a50, .ref m0a51, .int 0, .ref m0a53, .ref m0a54, .ref m0a55, .ref m0a56, .ref m0a57, .ref m0a58, .ref m0a59, .ref m0a60, .ref m0a61, .ref m0a62, .ref m0a63, .long 0, .int 0, .int (-9), .ref m0a67, .ref m0a68, .ref m0a69, .ref m0a70, .ref m0a71, .ref m0a72, .ref m0a73, .ref m0a74, .ref m0a75, .long 0])), (m0a5, .inl (cI g, 6, .inl (fun _ => (-9)))), (m0a8, .inl (cI g, 4, .inl (fun _ => (-9))))] := hD
    refine lv_if_eq (tgt := 18) hx hb dX12_count_7 (by decide) (fun _ => ?_) (fun c_4 => absurd (by decide) c_4)
    refine lv_iconst (v := (-1)) hx hb dX12_count_18 (by decide) ?_
    exact rI X hK hP hD hS dX12_count_19 (by rfl) (Nat.le_of_ble_eq_true rfl) (Nat.le_of_ble_eq_true rfl) (by show _ = _; unfold sp_X12_count; rw [if_pos c_3]; try rfl)
  ·
    rw [if_neg c_3] at hw_2
    rcases Classical.em (9 < n) with c_5 | c_5
    ·
      rw [if_pos c_5] at hw_2
      obtain ⟨e1, e2⟩ := Prod.mk.inj hw_2
      subst e1; subst e2
      have hP : va_P g.1 classes [(m0, .inr (12, [.int 0, .ref m0a1, .int 0, .long 0, .int 0, .ref m0a5, .ref m0a6, .ref m0a7, .ref m0a8, .ref m0a9, .int 0, .ref m0a11, .ref m0a12, .ref m0a13, .ref m0a14, .ref m0a15, .ref m0a16, .int 0, .ref m0a18, .ref m0a19, .ref m0a20, .ref m0a21, .ref m0a22, .int 0, .ref m0a24, .ref m0a25, .ref m0a26, .int 0, .ref m0a28, .ref m0a29, .ref m0a30, .ref m0a31, .int 0, .ref m0a33, .ref m0a34, .ref m0a35, .ref m0a36, .ref m0a37, .ref m0a38, .ref m0a39, .ref m0a40, .ref m0a41, .ref m0a42, .ref m0a43, .ref m0a44, .ref m0a45, .ref m0a46, .ref m0a47, .int 0, .ref m0a49, .ref m0a50, .ref m0a51, .int 0, .ref m0a53, .ref m0a54, .ref m0a55, .ref m0a56, .ref m0a57, .ref m0a58, .ref m0a59, .ref m0a60, .ref m0a61, .ref m0a62, .ref m0a63, .long 0, .int 0, .int (-9), .ref m0a67, .ref m0a68, .ref m0a69, .ref m0a70, .ref m0a71, .ref m0a72, .ref m0a73, .ref m0a74, .ref m0a75, .long 0])), (m0a5, .inl (cI g, 6, .inl (fun _ => (-9)))), (m0a8, .inl (cI g, 4, .inl (fun _ => (-9))))] H := hP
      have hD : va_D A [(m0, .inr (12, [.int 0, .ref m0a1, .int 0, .long 0, .int 0, .ref m0a5, .ref m0a6, .ref m0a7, .ref m0a8, .ref m0a9, .int 0, .ref m0a11, .ref m0a12, .ref m0a13, .ref m0a14, .ref m0a15, .ref m0a16, .int 0, .ref m0a18, .ref m0a19, .ref m0a20, .ref m0a21, .ref m0a22, .int 0, .ref m0a24, .ref m0a25, .ref m0a26, .int 0, .ref m0a28, .ref m0a29, .ref m0a30, .ref m0a31, .int 0, .ref m0a33, .ref m0a34, .ref m0a35, .ref m0a36, .ref m0a37, .ref m0a38, .ref m0a39, .ref m0a40, .ref m0a41, .ref m0a42, .ref m0a43, .ref m0a44, .ref m0a45, .ref m0a46, .ref m0a47, .int 0, .ref m0a49, .ref m0a50, .ref m0a51, .int 0, .ref m0a53, .ref m0a54, .ref m0a55, .ref m0a56, .ref m0a57, .ref m0a58, .ref m0a59, .ref m0a60, .ref m0a61, .ref m0a62, .ref m0a63, .long 0, .int 0, .int (-9), .ref m0a67, .ref m0a68, .ref m0a69, .ref m0a70, .ref m0a71, .ref m0a72, .ref m0a73, .ref m0a74, .ref m0a75, .long 0])), (m0a5, .inl (cI g, 6, .inl (fun _ => (-9)))), (m0a8, .inl (cI g, 4, .inl (fun _ => (-9))))] := hD
      refine lv_if_eq (tgt := 18) hx hb dX12_count_7 (by decide) (fun _ => ?_) (fun c_6 => absurd (by decide) c_6)
      refine lv_iconst (v := (-1)) hx hb dX12_count_18 (by decide) ?_
      exact rI X hK hP hD hS dX12_count_19 (by rfl) (Nat.le_of_ble_eq_true rfl) (Nat.le_of_ble_eq_true rfl) (by show _ = _; unfold sp_X12_count; rw [if_neg c_3, if_pos c_5]; try rfl)
    ·
      rw [if_neg c_5] at hw_2
      obtain ⟨e1, e2⟩ := Prod.mk.inj hw_2
      subst e1; subst e2
      have hP : va_P g.1 classes [(m0, .inr (12, [.int 0, .ref m0a1, .int 0, .long 0, .int 0, .ref m0a5, .ref m0a6, .ref m0a7, .ref m0a8, .ref m0a9, .int 0, .ref m0a11, .ref m0a12, .ref m0a13, .ref m0a14, .ref m0a15, .ref m0a16, .int 0, .ref m0a18, .ref m0a19, .ref m0a20, .ref m0a21, .ref m0a22, .int 0, .ref m0a24, .ref m0a25, .ref m0a26, .int 0, .ref m0a28, .ref m0a29, .ref m0a30, .ref m0a31, .int 0, .ref m0a33, .ref m0a34, .ref m0a35, .ref m0a36, .ref m0a37, .ref m0a38, .ref m0a39, .ref m0a40, .ref m0a41, .ref m0a42, .ref m0a43, .ref m0a44, .ref m0a45, .ref m0a46, .ref m0a47, .int 0, .ref m0a49, .ref m0a50, .ref m0a51, .int 0, .ref m0a53, .ref m0a54, .ref m0a55, .ref m0a56, .ref m0a57, .ref m0a58, .ref m0a59, .ref m0a60, .ref m0a61, .ref m0a62, .ref m0a63, .long 0, .int 0, .int (-9), .ref m0a67, .ref m0a68, .ref m0a69, .ref m0a70, .ref m0a71, .ref m0a72, .ref m0a73, .ref m0a74, .ref m0a75, .long 0])), (m0a5, .inl (cI g, 6, .inl (fun _ => (-9)))), (m0a8, .inl (cI g, 4, .inl (fun _ => (-9))))] H := hP
      have hD : va_D A [(m0, .inr (12, [.int 0, .ref m0a1, .int 0, .long 0, .int 0, .ref m0a5, .ref m0a6, .ref m0a7, .ref m0a8, .ref m0a9, .int 0, .ref m0a11, .ref m0a12, .ref m0a13, .ref m0a14, .ref m0a15, .ref m0a16, .int 0, .ref m0a18, .ref m0a19, .ref m0a20, .ref m0a21, .ref m0a22, .int 0, .ref m0a24, .ref m0a25, .ref m0a26, .int 0, .ref m0a28, .ref m0a29, .ref m0a30, .ref m0a31, .int 0, .ref m0a33, .ref m0a34, .ref m0a35, .ref m0a36, .ref m0a37, .ref m0a38, .ref m0a39, .ref m0a40, .ref m0a41, .ref m0a42, .ref m0a43, .ref m0a44, .ref m0a45, .ref m0a46, .ref m0a47, .int 0, .ref m0a49, .ref m0a50, .ref m0a51, .int 0, .ref m0a53, .ref m0a54, .ref m0a55, .ref m0a56, .ref m0a57, .ref m0a58, .ref m0a59, .ref m0a60, .ref m0a61, .ref m0a62, .ref m0a63, .long 0, .int 0, .int (-9), .ref m0a67, .ref m0a68, .ref m0a69, .ref m0a70, .ref m0a71, .ref m0a72, .ref m0a73, .ref m0a74, .ref m0a75, .long 0])), (m0a5, .inl (cI g, 6, .inl (fun _ => (-9)))), (m0a8, .inl (cI g, 4, .inl (fun _ => (-9))))] := hD
      refine lv_if_eq (tgt := 18) hx hb dX12_count_7 (by decide) (fun c_7 => absurd c_7 (by decide)) (fun _ => ?_)
      refine lv_aload_n hx hb dX12_count_10 rfl (lv_at hl 0 rfl) ?_
      refine lv_iload_n hx hb dX12_count_11 rfl (lv_at hl 1 rfl) ?_
      refine kVi (As := [.int n]) (rest := []) (wr := []) X (c_X12_counts l g m0 n m0a1 m0a5 m0a6 m0a7 m0a8 m0a9 m0a11 m0a12 m0a13 m0a14 m0a15 m0a16 m0a18 m0a19 m0a20 m0a21 m0a22 m0a24 m0a25 m0a26 m0a28 m0a29 m0a30 m0a31 m0a33 m0a34 m0a35 m0a36 m0a37 m0a38 m0a39 m0a40 m0a41 m0a42 m0a43 m0a44 m0a45 m0a46 m0a47 m0a49 m0a50 m0a51 m0a53 m0a54 m0a55 m0a56 m0a57 m0a58 m0a59 m0a60 m0a61 m0a62 m0a63 m0a67 m0a68 m0a69 m0a70 m0a71 m0a72 m0a73 m0a74 m0a75 c_3 c_5) ok_X12_counts okv_X12_counts q_2134 rfl hK hP hD hS hA hZ hl.1 [0, 1, 2] [] rfl rfl rfl rfl rfl 0 12 rfl rfl rfl (Nat.le_of_ble_eq_true rfl) ⟨Nat.le_of_ble_eq_true rfl, Nat.le_of_ble_eq_true rfl⟩ dX12_count_12 ⟨Nat.le_of_ble_eq_true rfl, Nat.le_of_ble_eq_true rfl⟩ (fun r_8 w1 H locs hw_9 hP hD hS => ?_)
      rw [sp_X12_counts] at hw_9
      rcases Classical.em (n = 0) with c_10 | c_10
      ·
        rw [if_pos c_10] at hw_9
        obtain ⟨e1, e2⟩ := Prod.mk.inj hw_9
        subst e1; subst e2
        have hP : va_P g.1 classes [(m0, .inr (12, [.int 0, .ref m0a1, .int 0, .long 0, .int 0, .ref m0a5, .ref m0a6, .ref m0a7, .ref m0a8, .ref m0a9, .int 0, .ref m0a11, .ref m0a12, .ref m0a13, .ref m0a14, .ref m0a15, .ref m0a16, .int 0, .ref m0a18, .ref m0a19, .ref m0a20, .ref m0a21, .ref m0a22, .int 0, .ref m0a24, .ref m0a25, .ref m0a26, .int 0, .ref m0a28, .ref m0a29, .ref m0a30, .ref m0a31, .int 0, .ref m0a33, .ref m0a34, .ref m0a35, .ref m0a36, .ref m0a37, .ref m0a38, .ref m0a39, .ref m0a40, .ref m0a41, .ref m0a42, .ref m0a43, .ref m0a44, .ref m0a45, .ref m0a46, .ref m0a47, .int 0, .ref m0a49, .ref m0a50, .ref m0a51, .int 0, .ref m0a53, .ref m0a54, .ref m0a55, .ref m0a56, .ref m0a57, .ref m0a58, .ref m0a59, .ref m0a60, .ref m0a61, .ref m0a62, .ref m0a63, .long 0, .int 0, .int (-9), .ref m0a67, .ref m0a68, .ref m0a69, .ref m0a70, .ref m0a71, .ref m0a72, .ref m0a73, .ref m0a74, .ref m0a75, .long 0])), (m0a5, .inl (cI g, 6, .inl (fun _ => (-9)))), (m0a8, .inl (cI g, 4, .inl (fun _ => (-9))))] H := hP
        have hD : va_D A [(m0, .inr (12, [.int 0, .ref m0a1, .int 0, .long 0, .int 0, .ref m0a5, .ref m0a6, .ref m0a7, .ref m0a8, .ref m0a9, .int 0, .ref m0a11, .ref m0a12, .ref m0a13, .ref m0a14, .ref m0a15, .ref m0a16, .int 0, .ref m0a18, .ref m0a19, .ref m0a20, .ref m0a21, .ref m0a22, .int 0, .ref m0a24, .ref m0a25, .ref m0a26, .int 0, .ref m0a28, .ref m0a29, .ref m0a30, .ref m0a31, .int 0, .ref m0a33, .ref m0a34, .ref m0a35, .ref m0a36, .ref m0a37, .ref m0a38, .ref m0a39, .ref m0a40, .ref m0a41, .ref m0a42, .ref m0a43, .ref m0a44, .ref m0a45, .ref m0a46, .ref m0a47, .int 0, .ref m0a49, .ref m0a50, .ref m0a51, .int 0, .ref m0a53, .ref m0a54, .ref m0a55, .ref m0a56, .ref m0a57, .ref m0a58, .ref m0a59, .ref m0a60, .ref m0a61, .ref m0a62, .ref m0a63, .long 0, .int 0, .int (-9), .ref m0a67, .ref m0a68, .ref m0a69, .ref m0a70, .ref m0a71, .ref m0a72, .ref m0a73, .ref m0a74, .ref m0a75, .long 0])), (m0a5, .inl (cI g, 6, .inl (fun _ => (-9)))), (m0a8, .inl (cI g, 4, .inl (fun _ => (-9))))] := hD
        refine lv_goto (tgt := 19) hx hb dX12_count_15 (by decide) ?_
        exact rI X hK hP hD hS dX12_count_19 (by rfl) (Nat.le_of_ble_eq_true rfl) (Nat.le_of_ble_eq_true rfl) (by show _ = _; unfold sp_X12_count; rw [if_neg c_3, if_neg c_5, if_pos c_10]; try rfl)
      ·
        rw [if_neg c_10] at hw_9
        rcases Classical.em (n = 1) with c_11 | c_11
        ·
          rw [if_pos c_11] at hw_9
          obtain ⟨e1, e2⟩ := Prod.mk.inj hw_9
          subst e1; subst e2
          have hP : va_P g.1 classes [(m0, .inr (12, [.int 0, .ref m0a1, .int 0, .long 0, .int 0, .ref m0a5, .ref m0a6, .ref m0a7, .ref m0a8, .ref m0a9, .int 0, .ref m0a11, .ref m0a12, .ref m0a13, .ref m0a14, .ref m0a15, .ref m0a16, .int 0, .ref m0a18, .ref m0a19, .ref m0a20, .ref m0a21, .ref m0a22, .int 0, .ref m0a24, .ref m0a25, .ref m0a26, .int 0, .ref m0a28, .ref m0a29, .ref m0a30, .ref m0a31, .int 0, .ref m0a33, .ref m0a34, .ref m0a35, .ref m0a36, .ref m0a37, .ref m0a38, .ref m0a39, .ref m0a40, .ref m0a41, .ref m0a42, .ref m0a43, .ref m0a44, .ref m0a45, .ref m0a46, .ref m0a47, .int 0, .ref m0a49, .ref m0a50, .ref m0a51, .int 0, .ref m0a53, .ref m0a54, .ref m0a55, .ref m0a56, .ref m0a57, .ref m0a58, .ref m0a59, .ref m0a60, .ref m0a61, .ref m0a62, .ref m0a63, .long 0, .int 0, .int (-9), .ref m0a67, .ref m0a68, .ref m0a69, .ref m0a70, .ref m0a71, .ref m0a72, .ref m0a73, .ref m0a74, .ref m0a75, .long 0])), (m0a5, .inl (cI g, 6, .inl (fun _ => (-9)))), (m0a8, .inl (cI g, 4, .inl (fun _ => (-9))))] H := hP
          have hD : va_D A [(m0, .inr (12, [.int 0, .ref m0a1, .int 0, .long 0, .int 0, .ref m0a5, .ref m0a6, .ref m0a7, .ref m0a8, .ref m0a9, .int 0, .ref m0a11, .ref m0a12, .ref m0a13, .ref m0a14, .ref m0a15, .ref m0a16, .int 0, .ref m0a18, .ref m0a19, .ref m0a20, .ref m0a21, .ref m0a22, .int 0, .ref m0a24, .ref m0a25, .ref m0a26, .int 0, .ref m0a28, .ref m0a29, .ref m0a30, .ref m0a31, .int 0, .ref m0a33, .ref m0a34, .ref m0a35, .ref m0a36, .ref m0a37, .ref m0a38, .ref m0a39, .ref m0a40, .ref m0a41, .ref m0a42, .ref m0a43, .ref m0a44, .ref m0a45, .ref m0a46, .ref m0a47, .int 0, .ref m0a49, .ref m0a50, .ref m0a51, .int 0, .ref m0a53, .ref m0a54, .ref m0a55, .ref m0a56, .ref m0a57, .ref m0a58, .ref m0a59, .ref m0a60, .ref m0a61, .ref m0a62, .ref m0a63, .long 0, .int 0, .int (-9), .ref m0a67, .ref m0a68, .ref m0a69, .ref m0a70, .ref m0a71, .ref m0a72, .ref m0a73, .ref m0a74, .ref m0a75, .long 0])), (m0a5, .inl (cI g, 6, .inl (fun _ => (-9)))), (m0a8, .inl (cI g, 4, .inl (fun _ => (-9))))] := hD
          refine lv_goto (tgt := 19) hx hb dX12_count_15 (by decide) ?_
          exact rI X hK hP hD hS dX12_count_19 (by rfl) (Nat.le_of_ble_eq_true rfl) (Nat.le_of_ble_eq_true rfl) (by show _ = _; unfold sp_X12_count; rw [if_neg c_3, if_neg c_5, if_neg c_10, if_pos c_11]; try rfl)
        ·
          rw [if_neg c_11] at hw_9
          rcases Classical.em (n = 2) with c_12 | c_12
          ·
            rw [if_pos c_12] at hw_9
            obtain ⟨e1, e2⟩ := Prod.mk.inj hw_9
            subst e1; subst e2
            have hP : va_P g.1 classes [(m0, .inr (12, [.int 0, .ref m0a1, .int 0, .long 0, .int 0, .ref m0a5, .ref m0a6, .ref m0a7, .ref m0a8, .ref m0a9, .int 0, .ref m0a11, .ref m0a12, .ref m0a13, .ref m0a14, .ref m0a15, .ref m0a16, .int 0, .ref m0a18, .ref m0a19, .ref m0a20, .ref m0a21, .ref m0a22, .int 0, .ref m0a24, .ref m0a25, .ref m0a26, .int 0, .ref m0a28, .ref m0a29, .ref m0a30, .ref m0a31, .int 0, .ref m0a33, .ref m0a34, .ref m0a35, .ref m0a36, .ref m0a37, .ref m0a38, .ref m0a39, .ref m0a40, .ref m0a41, .ref m0a42, .ref m0a43, .ref m0a44, .ref m0a45, .ref m0a46, .ref m0a47, .int 0, .ref m0a49, .ref m0a50, .ref m0a51, .int 0, .ref m0a53, .ref m0a54, .ref m0a55, .ref m0a56, .ref m0a57, .ref m0a58, .ref m0a59, .ref m0a60, .ref m0a61, .ref m0a62, .ref m0a63, .long 0, .int 0, .int (-9), .ref m0a67, .ref m0a68, .ref m0a69, .ref m0a70, .ref m0a71, .ref m0a72, .ref m0a73, .ref m0a74, .ref m0a75, .long 0])), (m0a5, .inl (cI g, 6, .inl (fun _ => (-9)))), (m0a8, .inl (cI g, 4, .inl (fun _ => (-9))))] H := hP
            have hD : va_D A [(m0, .inr (12, [.int 0, .ref m0a1, .int 0, .long 0, .int 0, .ref m0a5, .ref m0a6, .ref m0a7, .ref m0a8, .ref m0a9, .int 0, .ref m0a11, .ref m0a12, .ref m0a13, .ref m0a14, .ref m0a15, .ref m0a16, .int 0, .ref m0a18, .ref m0a19, .ref m0a20, .ref m0a21, .ref m0a22, .int 0, .ref m0a24, .ref m0a25, .ref m0a26, .int 0, .ref m0a28, .ref m0a29, .ref m0a30, .ref m0a31, .int 0, .ref m0a33, .ref m0a34, .ref m0a35, .ref m0a36, .ref m0a37, .ref m0a38, .ref m0a39, .ref m0a40, .ref m0a41, .ref m0a42, .ref m0a43, .ref m0a44, .ref m0a45, .ref m0a46, .ref m0a47, .int 0, .ref m0a49, .ref m0a50, .ref m0a51, .int 0, .ref m0a53, .ref m0a54, .ref m0a55, .ref m0a56, .ref m0a57, .ref m0a58, .ref m0a59, .ref m0a60, .ref m0a61, .ref m0a62, .ref m0a63, .long 0, .int 0, .int (-9), .ref m0a67, .ref m0a68, .ref m0a69, .ref m0a70, .ref m0a71, .ref m0a72, .ref m0a73, .ref m0a74, .ref m0a75, .long 0])), (m0a5, .inl (cI g, 6, .inl (fun _ => (-9)))), (m0a8, .inl (cI g, 4, .inl (fun _ => (-9))))] := hD
            refine lv_goto (tgt := 19) hx hb dX12_count_15 (by decide) ?_
            exact rI X hK hP hD hS dX12_count_19 (by rfl) (Nat.le_of_ble_eq_true rfl) (Nat.le_of_ble_eq_true rfl) (by show _ = _; unfold sp_X12_count; rw [if_neg c_3, if_neg c_5, if_neg c_10, if_neg c_11, if_pos c_12]; try rfl)
          ·
            rw [if_neg c_12] at hw_9
            rcases Classical.em (n = 3) with c_13 | c_13
            ·
              rw [if_pos c_13] at hw_9
              obtain ⟨e1, e2⟩ := Prod.mk.inj hw_9
              subst e1; subst e2
              have hP : va_P g.1 classes [(m0, .inr (12, [.int 0, .ref m0a1, .int 0, .long 0, .int 0, .ref m0a5, .ref m0a6, .ref m0a7, .ref m0a8, .ref m0a9, .int 0, .ref m0a11, .ref m0a12, .ref m0a13, .ref m0a14, .ref m0a15, .ref m0a16, .int 0, .ref m0a18, .ref m0a19, .ref m0a20, .ref m0a21, .ref m0a22, .int 0, .ref m0a24, .ref m0a25, .ref m0a26, .int 0, .ref m0a28, .ref m0a29, .ref m0a30, .ref m0a31, .int 0, .ref m0a33, .ref m0a34, .ref m0a35, .ref m0a36, .ref m0a37, .ref m0a38, .ref m0a39, .ref m0a40, .ref m0a41, .ref m0a42, .ref m0a43, .ref m0a44, .ref m0a45, .ref m0a46, .ref m0a47, .int 0, .ref m0a49, .ref m0a50, .ref m0a51, .int 0, .ref m0a53, .ref m0a54, .ref m0a55, .ref m0a56, .ref m0a57, .ref m0a58, .ref m0a59, .ref m0a60, .ref m0a61, .ref m0a62, .ref m0a63, .long 0, .int 0, .int (-9), .ref m0a67, .ref m0a68, .ref m0a69, .ref m0a70, .ref m0a71, .ref m0a72, .ref m0a73, .ref m0a74, .ref m0a75, .long 0])), (m0a5, .inl (cI g, 6, .inl (fun _ => (-9)))), (m0a8, .inl (cI g, 4, .inl (fun _ => (-9))))] H := hP
              have hD : va_D A [(m0, .inr (12, [.int 0, .ref m0a1, .int 0, .long 0, .int 0, .ref m0a5, .ref m0a6, .ref m0a7, .ref m0a8, .ref m0a9, .int 0, .ref m0a11, .ref m0a12, .ref m0a13, .ref m0a14, .ref m0a15, .ref m0a16, .int 0, .ref m0a18, .ref m0a19, .ref m0a20, .ref m0a21, .ref m0a22, .int 0, .ref m0a24, .ref m0a25, .ref m0a26, .int 0, .ref m0a28, .ref m0a29, .ref m0a30, .ref m0a31, .int 0, .ref m0a33, .ref m0a34, .ref m0a35, .ref m0a36, .ref m0a37, .ref m0a38, .ref m0a39, .ref m0a40, .ref m0a41, .ref m0a42, .ref m0a43, .ref m0a44, .ref m0a45, .ref m0a46, .ref m0a47, .int 0, .ref m0a49, .ref m0a50, .ref m0a51, .int 0, .ref m0a53, .ref m0a54, .ref m0a55, .ref m0a56, .ref m0a57, .ref m0a58, .ref m0a59, .ref m0a60, .ref m0a61, .ref m0a62, .ref m0a63, .long 0, .int 0, .int (-9), .ref m0a67, .ref m0a68, .ref m0a69, .ref m0a70, .ref m0a71, .ref m0a72, .ref m0a73, .ref m0a74, .ref m0a75, .long 0])), (m0a5, .inl (cI g, 6, .inl (fun _ => (-9)))), (m0a8, .inl (cI g, 4, .inl (fun _ => (-9))))] := hD
              refine lv_goto (tgt := 19) hx hb dX12_count_15 (by decide) ?_
              exact rI X hK hP hD hS dX12_count_19 (by rfl) (Nat.le_of_ble_eq_true rfl) (Nat.le_of_ble_eq_true rfl) (by show _ = _; unfold sp_X12_count; rw [if_neg c_3, if_neg c_5, if_neg c_10, if_neg c_11, if_neg c_12, if_pos c_13]; try rfl)
            ·
              rw [if_neg c_13] at hw_9
              rcases Classical.em (n = 4) with c_14 | c_14
              ·
                rw [if_pos c_14] at hw_9
                obtain ⟨e1, e2⟩ := Prod.mk.inj hw_9
                subst e1; subst e2
                have hP : va_P g.1 classes [(m0, .inr (12, [.int 0, .ref m0a1, .int 0, .long 0, .int 0, .ref m0a5, .ref m0a6, .ref m0a7, .ref m0a8, .ref m0a9, .int 0, .ref m0a11, .ref m0a12, .ref m0a13, .ref m0a14, .ref m0a15, .ref m0a16, .int 0, .ref m0a18, .ref m0a19, .ref m0a20, .ref m0a21, .ref m0a22, .int 0, .ref m0a24, .ref m0a25, .ref m0a26, .int 0, .ref m0a28, .ref m0a29, .ref m0a30, .ref m0a31, .int 0, .ref m0a33, .ref m0a34, .ref m0a35, .ref m0a36, .ref m0a37, .ref m0a38, .ref m0a39, .ref m0a40, .ref m0a41, .ref m0a42, .ref m0a43, .ref m0a44, .ref m0a45, .ref m0a46, .ref m0a47, .int 0, .ref m0a49, .ref m0a50, .ref m0a51, .int 0, .ref m0a53, .ref m0a54, .ref m0a55, .ref m0a56, .ref m0a57, .ref m0a58, .ref m0a59, .ref m0a60, .ref m0a61, .ref m0a62, .ref m0a63, .long 0, .int 0, .int (-9), .ref m0a67, .ref m0a68, .ref m0a69, .ref m0a70, .ref m0a71, .ref m0a72, .ref m0a73, .ref m0a74, .ref m0a75, .long 0])), (m0a5, .inl (cI g, 6, .inl (fun _ => (-9)))), (m0a8, .inl (cI g, 4, .inl (fun _ => (-9))))] H := hP
                have hD : va_D A [(m0, .inr (12, [.int 0, .ref m0a1, .int 0, .long 0, .int 0, .ref m0a5, .ref m0a6, .ref m0a7, .ref m0a8, .ref m0a9, .int 0, .ref m0a11, .ref m0a12, .ref m0a13, .ref m0a14, .ref m0a15, .ref m0a16, .int 0, .ref m0a18, .ref m0a19, .ref m0a20, .ref m0a21, .ref m0a22, .int 0, .ref m0a24, .ref m0a25, .ref m0a26, .int 0, .ref m0a28, .ref m0a29, .ref m0a30, .ref m0a31, .int 0, .ref m0a33, .ref m0a34, .ref m0a35, .ref m0a36, .ref m0a37, .ref m0a38, .ref m0a39, .ref m0a40, .ref m0a41, .ref m0a42, .ref m0a43, .ref m0a44, .ref m0a45, .ref m0a46, .ref m0a47, .int 0, .ref m0a49, .ref m0a50, .ref m0a51, .int 0, .ref m0a53, .ref m0a54, .ref m0a55, .ref m0a56, .ref m0a57, .ref m0a58, .ref m0a59, .ref m0a60, .ref m0a61, .ref m0a62, .ref m0a63, .long 0, .int 0, .int (-9), .ref m0a67, .ref m0a68, .ref m0a69, .ref m0a70, .ref m0a71, .ref m0a72, .ref m0a73, .ref m0a74, .ref m0a75, .long 0])), (m0a5, .inl (cI g, 6, .inl (fun _ => (-9)))), (m0a8, .inl (cI g, 4, .inl (fun _ => (-9))))] := hD
                refine lv_goto (tgt := 19) hx hb dX12_count_15 (by decide) ?_
                exact rI X hK hP hD hS dX12_count_19 (by rfl) (Nat.le_of_ble_eq_true rfl) (Nat.le_of_ble_eq_true rfl) (by show _ = _; unfold sp_X12_count; rw [if_neg c_3, if_neg c_5, if_neg c_10, if_neg c_11, if_neg c_12, if_neg c_13, if_pos c_14]; try rfl)
              ·
                rw [if_neg c_14] at hw_9
                rcases Classical.em (n = 5) with c_15 | c_15
                ·
                  rw [if_pos c_15] at hw_9
                  obtain ⟨e1, e2⟩ := Prod.mk.inj hw_9
                  subst e1; subst e2
                  have hP : va_P g.1 classes [(m0, .inr (12, [.int 0, .ref m0a1, .int 0, .long 0, .int 0, .ref m0a5, .ref m0a6, .ref m0a7, .ref m0a8, .ref m0a9, .int 0, .ref m0a11, .ref m0a12, .ref m0a13, .ref m0a14, .ref m0a15, .ref m0a16, .int 0, .ref m0a18, .ref m0a19, .ref m0a20, .ref m0a21, .ref m0a22, .int 0, .ref m0a24, .ref m0a25, .ref m0a26, .int 0, .ref m0a28, .ref m0a29, .ref m0a30, .ref m0a31, .int 0, .ref m0a33, .ref m0a34, .ref m0a35, .ref m0a36, .ref m0a37, .ref m0a38, .ref m0a39, .ref m0a40, .ref m0a41, .ref m0a42, .ref m0a43, .ref m0a44, .ref m0a45, .ref m0a46, .ref m0a47, .int 0, .ref m0a49, .ref m0a50, .ref m0a51, .int 0, .ref m0a53, .ref m0a54, .ref m0a55, .ref m0a56, .ref m0a57, .ref m0a58, .ref m0a59, .ref m0a60, .ref m0a61, .ref m0a62, .ref m0a63, .long 0, .int 0, .int (-9), .ref m0a67, .ref m0a68, .ref m0a69, .ref m0a70, .ref m0a71, .ref m0a72, .ref m0a73, .ref m0a74, .ref m0a75, .long 0])), (m0a5, .inl (cI g, 6, .inl (fun _ => (-9)))), (m0a8, .inl (cI g, 4, .inl (fun _ => (-9))))] H := hP
                  have hD : va_D A [(m0, .inr (12, [.int 0, .ref m0a1, .int 0, .long 0, .int 0, .ref m0a5, .ref m0a6, .ref m0a7, .ref m0a8, .ref m0a9, .int 0, .ref m0a11, .ref m0a12, .ref m0a13, .ref m0a14, .ref m0a15, .ref m0a16, .int 0, .ref m0a18, .ref m0a19, .ref m0a20, .ref m0a21, .ref m0a22, .int 0, .ref m0a24, .ref m0a25, .ref m0a26, .int 0, .ref m0a28, .ref m0a29, .ref m0a30, .ref m0a31, .int 0, .ref m0a33, .ref m0a34, .ref m0a35, .ref m0a36, .ref m0a37, .ref m0a38, .ref m0a39, .ref m0a40, .ref m0a41, .ref m0a42, .ref m0a43, .ref m0a44, .ref m0a45, .ref m0a46, .ref m0a47, .int 0, .ref m0a49, .ref m0a50, .ref m0a51, .int 0, .ref m0a53, .ref m0a54, .ref m0a55, .ref m0a56, .ref m0a57, .ref m0a58, .ref m0a59, .ref m0a60, .ref m0a61, .ref m0a62, .ref m0a63, .long 0, .int 0, .int (-9), .ref m0a67, .ref m0a68, .ref m0a69, .ref m0a70, .ref m0a71, .ref m0a72, .ref m0a73, .ref m0a74, .ref m0a75, .long 0])), (m0a5, .inl (cI g, 6, .inl (fun _ => (-9)))), (m0a8, .inl (cI g, 4, .inl (fun _ => (-9))))] := hD
                  refine lv_goto (tgt := 19) hx hb dX12_count_15 (by decide) ?_
                  exact rI X hK hP hD hS dX12_count_19 (by rfl) (Nat.le_of_ble_eq_true rfl) (Nat.le_of_ble_eq_true rfl) (by show _ = _; unfold sp_X12_count; rw [if_neg c_3, if_neg c_5, if_neg c_10, if_neg c_11, if_neg c_12, if_neg c_13, if_neg c_14, if_pos c_15]; try rfl)
                ·
                  rw [if_neg c_15] at hw_9
                  rcases Classical.em (n = 6) with c_16 | c_16
                  ·
                    rw [if_pos c_16] at hw_9
                    obtain ⟨e1, e2⟩ := Prod.mk.inj hw_9
                    subst e1; subst e2
                    have hP : va_P g.1 classes [(m0, .inr (12, [.int 0, .ref m0a1, .int 0, .long 0, .int 0, .ref m0a5, .ref m0a6, .ref m0a7, .ref m0a8, .ref m0a9, .int 0, .ref m0a11, .ref m0a12, .ref m0a13, .ref m0a14, .ref m0a15, .ref m0a16, .int 0, .ref m0a18, .ref m0a19, .ref m0a20, .ref m0a21, .ref m0a22, .int 0, .ref m0a24, .ref m0a25, .ref m0a26, .int 0, .ref m0a28, .ref m0a29, .ref m0a30, .ref m0a31, .int 0, .ref m0a33, .ref m0a34, .ref m0a35, .ref m0a36, .ref m0a37, .ref m0a38, .ref m0a39, .ref m0a40, .ref m0a41, .ref m0a42, .ref m0a43, .ref m0a44, .ref m0a45, .ref m0a46, .ref m0a47, .int 0, .ref m0a49, .ref m0a50, .ref m0a51, .int 0, .ref m0a53, .ref m0a54, .ref m0a55, .ref m0a56, .ref m0a57, .ref m0a58, .ref m0a59, .ref m0a60, .ref m0a61, .ref m0a62, .ref m0a63, .long 0, .int 0, .int (-9), .ref m0a67, .ref m0a68, .ref m0a69, .ref m0a70, .ref m0a71, .ref m0a72, .ref m0a73, .ref m0a74, .ref m0a75, .long 0])), (m0a5, .inl (cI g, 6, .inl (fun _ => (-9)))), (m0a8, .inl (cI g, 4, .inl (fun _ => (-9))))] H := hP
                    have hD : va_D A [(m0, .inr (12, [.int 0, .ref m0a1, .int 0, .long 0, .int 0, .ref m0a5, .ref m0a6, .ref m0a7, .ref m0a8, .ref m0a9, .int 0, .ref m0a11, .ref m0a12, .ref m0a13, .ref m0a14, .ref m0a15, .ref m0a16, .int 0, .ref m0a18, .ref m0a19, .ref m0a20, .ref m0a21, .ref m0a22, .int 0, .ref m0a24, .ref m0a25, .ref m0a26, .int 0, .ref m0a28, .ref m0a29, .ref m0a30, .ref m0a31, .int 0, .ref m0a33, .ref m0a34, .ref m0a35, .ref m0a36, .ref m0a37, .ref m0a38, .ref m0a39, .ref m0a40, .ref m0a41, .ref m0a42, .ref m0a43, .ref m0a44, .ref m0a45, .ref m0a46, .ref m0a47, .int 0, .ref m0a49, .ref m0a50, .ref m0a51, .int 0, .ref m0a53, .ref m0a54, .ref m0a55, .ref m0a56, .ref m0a57, .ref m0a58, .ref m0a59, .ref m0a60, .ref m0a61, .ref m0a62, .ref m0a63, .long 0, .int 0, .int (-9), .ref m0a67, .ref m0a68, .ref m0a69, .ref m0a70, .ref m0a71, .ref m0a72, .ref m0a73, .ref m0a74, .ref m0a75, .long 0])), (m0a5, .inl (cI g, 6, .inl (fun _ => (-9)))), (m0a8, .inl (cI g, 4, .inl (fun _ => (-9))))] := hD
                    refine lv_goto (tgt := 19) hx hb dX12_count_15 (by decide) ?_
                    exact rI X hK hP hD hS dX12_count_19 (by rfl) (Nat.le_of_ble_eq_true rfl) (Nat.le_of_ble_eq_true rfl) (by show _ = _; unfold sp_X12_count; rw [if_neg c_3, if_neg c_5, if_neg c_10, if_neg c_11, if_neg c_12, if_neg c_13, if_neg c_14, if_neg c_15, if_pos c_16]; try rfl)
                  ·
                    rw [if_neg c_16] at hw_9
                    rcases Classical.em (n = 7) with c_17 | c_17
                    ·
                      rw [if_pos c_17] at hw_9
                      obtain ⟨e1, e2⟩ := Prod.mk.inj hw_9
                      subst e1; subst e2
                      have hP : va_P g.1 classes [(m0, .inr (12, [.int 0, .ref m0a1, .int 0, .long 0, .int 0, .ref m0a5, .ref m0a6, .ref m0a7, .ref m0a8, .ref m0a9, .int 0, .ref m0a11, .ref m0a12, .ref m0a13, .ref m0a14, .ref m0a15, .ref m0a16, .int 0, .ref m0a18, .ref m0a19, .ref m0a20, .ref m0a21, .ref m0a22, .int 0, .ref m0a24, .ref m0a25, .ref m0a26, .int 0, .ref m0a28, .ref m0a29, .ref m0a30, .ref m0a31, .int 0, .ref m0a33, .ref m0a34, .ref m0a35, .ref m0a36, .ref m0a37, .ref m0a38, .ref m0a39, .ref m0a40, .ref m0a41, .ref m0a42, .ref m0a43, .ref m0a44, .ref m0a45, .ref m0a46, .ref m0a47, .int 0, .ref m0a49, .ref m0a50, .ref m0a51, .int 0, .ref m0a53, .ref m0a54, .ref m0a55, .ref m0a56, .ref m0a57, .ref m0a58, .ref m0a59, .ref m0a60, .ref m0a61, .ref m0a62, .ref m0a63, .long 0, .int 0, .int (-9), .ref m0a67, .ref m0a68, .ref m0a69, .ref m0a70, .ref m0a71, .ref m0a72, .ref m0a73, .ref m0a74, .ref m0a75, .long 0])), (m0a5, .inl (cI g, 6, .inl (fun _ => (-9)))), (m0a8, .inl (cI g, 4, .inl (fun _ => (-9))))] H := hP
                      have hD : va_D A [(m0, .inr (12, [.int 0, .ref m0a1, .int 0, .long 0, .int 0, .ref m0a5, .ref m0a6, .ref m0a7, .ref m0a8, .ref m0a9, .int 0, .ref m0a11, .ref m0a12, .ref m0a13, .ref m0a14, .ref m0a15, .ref m0a16, .int 0, .ref m0a18, .ref m0a19, .ref m0a20, .ref m0a21, .ref m0a22, .int 0, .ref m0a24, .ref m0a25, .ref m0a26, .int 0, .ref m0a28, .ref m0a29, .ref m0a30, .ref m0a31, .int 0, .ref m0a33, .ref m0a34, .ref m0a35, .ref m0a36, .ref m0a37, .ref m0a38, .ref m0a39, .ref m0a40, .ref m0a41, .ref m0a42, .ref m0a43, .ref m0a44, .ref m0a45, .ref m0a46, .ref m0a47, .int 0, .ref m0a49, .ref m0a50, .ref m0a51, .int 0, .ref m0a53, .ref m0a54, .ref m0a55, .ref m0a56, .ref m0a57, .ref m0a58, .ref m0a59, .ref m0a60, .ref m0a61, .ref m0a62, .ref m0a63, .long 0, .int 0, .int (-9), .ref m0a67, .ref m0a68, .ref m0a69, .ref m0a70, .ref m0a71, .ref m0a72, .ref m0a73, .ref m0a74, .ref m0a75, .long 0])), (m0a5, .inl (cI g, 6, .inl (fun _ => (-9)))), (m0a8, .inl (cI g, 4, .inl (fun _ => (-9))))] := hD
                      refine lv_goto (tgt := 19) hx hb dX12_count_15 (by decide) ?_
                      exact rI X hK hP hD hS dX12_count_19 (by rfl) (Nat.le_of_ble_eq_true rfl) (Nat.le_of_ble_eq_true rfl) (by show _ = _; unfold sp_X12_count; rw [if_neg c_3, if_neg c_5, if_neg c_10, if_neg c_11, if_neg c_12, if_neg c_13, if_neg c_14, if_neg c_15, if_neg c_16, if_pos c_17]; try rfl)
                    ·
                      rw [if_neg c_17] at hw_9
                      rcases Classical.em (n = 8) with c_18 | c_18
                      ·
                        rw [if_pos c_18] at hw_9
                        obtain ⟨e1, e2⟩ := Prod.mk.inj hw_9
                        subst e1; subst e2
                        have hP : va_P g.1 classes [(m0, .inr (12, [.int 0, .ref m0a1, .int 0, .long 0, .int 0, .ref m0a5, .ref m0a6, .ref m0a7, .ref m0a8, .ref m0a9, .int 0, .ref m0a11, .ref m0a12, .ref m0a13, .ref m0a14, .ref m0a15, .ref m0a16, .int 0, .ref m0a18, .ref m0a19, .ref m0a20, .ref m0a21, .ref m0a22, .int 0, .ref m0a24, .ref m0a25, .ref m0a26, .int 0, .ref m0a28, .ref m0a29, .ref m0a30, .ref m0a31, .int 0, .ref m0a33, .ref m0a34, .ref m0a35, .ref m0a36, .ref m0a37, .ref m0a38, .ref m0a39, .ref m0a40, .ref m0a41, .ref m0a42, .ref m0a43, .ref m0a44, .ref m0a45, .ref m0a46, .ref m0a47, .int 0, .ref m0a49, .ref m0a50, .ref m0a51, .int 0, .ref m0a53, .ref m0a54, .ref m0a55, .ref m0a56, .ref m0a57, .ref m0a58, .ref m0a59, .ref m0a60, .ref m0a61, .ref m0a62, .ref m0a63, .long 0, .int 0, .int (-9), .ref m0a67, .ref m0a68, .ref m0a69, .ref m0a70, .ref m0a71, .ref m0a72, .ref m0a73, .ref m0a74, .ref m0a75, .long 0])), (m0a5, .inl (cI g, 6, .inl (fun _ => (-9)))), (m0a8, .inl (cI g, 4, .inl (fun _ => (-9))))] H := hP
                        have hD : va_D A [(m0, .inr (12, [.int 0, .ref m0a1, .int 0, .long 0, .int 0, .ref m0a5, .ref m0a6, .ref m0a7, .ref m0a8, .ref m0a9, .int 0, .ref m0a11, .ref m0a12, .ref m0a13, .ref m0a14, .ref m0a15, .ref m0a16, .int 0, .ref m0a18, .ref m0a19, .ref m0a20, .ref m0a21, .ref m0a22, .int 0, .ref m0a24, .ref m0a25, .ref m0a26, .int 0, .ref m0a28, .ref m0a29, .ref m0a30, .ref m0a31, .int 0, .ref m0a33, .ref m0a34, .ref m0a35, .ref m0a36, .ref m0a37, .ref m0a38, .ref m0a39, .ref m0a40, .ref m0a41, .ref m0a42, .ref m0a43, .ref m0a44, .ref m0a45, .ref m0a46, .ref m0a47, .int 0, .ref m0a49, .ref m0a50, .ref m0a51, .int 0, .ref m0a53, .ref m0a54, .ref m0a55, .ref m0a56, .ref m0a57, .ref m0a58, .ref m0a59, .ref m0a60, .ref m0a61, .ref m0a62, .ref m0a63, .long 0, .int 0, .int (-9), .ref m0a67, .ref m0a68, .ref m0a69, .ref m0a70, .ref m0a71, .ref m0a72, .ref m0a73, .ref m0a74, .ref m0a75, .long 0])), (m0a5, .inl (cI g, 6, .inl (fun _ => (-9)))), (m0a8, .inl (cI g, 4, .inl (fun _ => (-9))))] := hD
                        refine lv_goto (tgt := 19) hx hb dX12_count_15 (by decide) ?_
                        exact rI X hK hP hD hS dX12_count_19 (by rfl) (Nat.le_of_ble_eq_true rfl) (Nat.le_of_ble_eq_true rfl) (by show _ = _; unfold sp_X12_count; rw [if_neg c_3, if_neg c_5, if_neg c_10, if_neg c_11, if_neg c_12, if_neg c_13, if_neg c_14, if_neg c_15, if_neg c_16, if_neg c_17, if_pos c_18]; try rfl)
                      ·
                        rw [if_neg c_18] at hw_9
                        obtain ⟨e1, e2⟩ := Prod.mk.inj hw_9
                        subst e1; subst e2
                        have hP : va_P g.1 classes [(m0, .inr (12, [.int 0, .ref m0a1, .int 0, .long 0, .int 0, .ref m0a5, .ref m0a6, .ref m0a7, .ref m0a8, .ref m0a9, .int 0, .ref m0a11, .ref m0a12, .ref m0a13, .ref m0a14, .ref m0a15, .ref m0a16, .int 0, .ref m0a18, .ref m0a19, .ref m0a20, .ref m0a21, .ref m0a22, .int 0, .ref m0a24, .ref m0a25, .ref m0a26, .int 0, .ref m0a28, .ref m0a29, .ref m0a30, .ref m0a31, .int 0, .ref m0a33, .ref m0a34, .ref m0a35, .ref m0a36, .ref m0a37, .ref m0a38, .ref m0a39, .ref m0a40, .ref m0a41, .ref m0a42, .ref m0a43, .ref m0a44, .ref m0a45, .ref m0a46, .ref m0a47, .int 0, .ref m0a49, .ref m0a50, .ref m0a51, .int 0, .ref m0a53, .ref m0a54, .ref m0a55, .ref m0a56, .ref m0a57, .ref m0a58, .ref m0a59, .ref m0a60, .ref m0a61, .ref m0a62, .ref m0a63, .long 0, .int 0, .int (-9), .ref m0a67, .ref m0a68, .ref m0a69, .ref m0a70, .ref m0a71, .ref m0a72, .ref m0a73, .ref m0a74, .ref m0a75, .long 0])), (m0a5, .inl (cI g, 6, .inl (fun _ => (-9)))), (m0a8, .inl (cI g, 4, .inl (fun _ => (-9))))] H := hP
                        have hD : va_D A [(m0, .inr (12, [.int 0, .ref m0a1, .int 0, .long 0, .int 0, .ref m0a5, .ref m0a6, .ref m0a7, .ref m0a8, .ref m0a9, .int 0, .ref m0a11, .ref m0a12, .ref m0a13, .ref m0a14, .ref m0a15, .ref m0a16, .int 0, .ref m0a18, .ref m0a19, .ref m0a20, .ref m0a21, .ref m0a22, .int 0, .ref m0a24, .ref m0a25, .ref m0a26, .int 0, .ref m0a28, .ref m0a29, .ref m0a30, .ref m0a31, .int 0, .ref m0a33, .ref m0a34, .ref m0a35, .ref m0a36, .ref m0a37, .ref m0a38, .ref m0a39, .ref m0a40, .ref m0a41, .ref m0a42, .ref m0a43, .ref m0a44, .ref m0a45, .ref m0a46, .ref m0a47, .int 0, .ref m0a49, .ref m0a50, .ref m0a51, .int 0, .ref m0a53, .ref m0a54, .ref m0a55, .ref m0a56, .ref m0a57, .ref m0a58, .ref m0a59, .ref m0a60, .ref m0a61, .ref m0a62, .ref m0a63, .long 0, .int 0, .int (-9), .ref m0a67, .ref m0a68, .ref m0a69, .ref m0a70, .ref m0a71, .ref m0a72, .ref m0a73, .ref m0a74, .ref m0a75, .long 0])), (m0a5, .inl (cI g, 6, .inl (fun _ => (-9)))), (m0a8, .inl (cI g, 4, .inl (fun _ => (-9))))] := hD
                        refine lv_goto (tgt := 19) hx hb dX12_count_15 (by decide) ?_
                        exact rI X hK hP hD hS dX12_count_19 (by rfl) (Nat.le_of_ble_eq_true rfl) (Nat.le_of_ble_eq_true rfl) (by show _ = _; unfold sp_X12_count; rw [if_neg c_3, if_neg c_5, if_neg c_10, if_neg c_11, if_neg c_12, if_neg c_13, if_neg c_14, if_neg c_15, if_neg c_16, if_neg c_17, if_neg c_18]; try rfl)
