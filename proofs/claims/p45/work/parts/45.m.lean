set_option maxRecDepth 200000 in
theorem w_877 : Cond.methodLink "CityRoad$Marks" 58 yX3_bit ∈ tb := tb_mem 877 (by decide +kernel) rfl
set_option maxRecDepth 200000 in
theorem w_803 : Cond.code yX11_setPrices cX11_setPrices 5 none ∈ tb := tb_mem 803 (by rfl) rfl
set_option maxRecDepth 200000 in
theorem w_802 : Cond.instanceMethod yX11_setPrices ∈ tb := tb_mem 802 (by decide +kernel) rfl
set_option maxRecDepth 200000 in
theorem w_3 : Cond.selects "CityRoad" yX11_setPrices yX11_setPrices ∈ tb := tb_mem 3 (by decide +kernel) rfl
set_option maxRecDepth 200000 in
theorem w_800 : Cond.methodLink "CityRoad" 225 yX11_setPrices ∈ tb := tb_mem 800 (by decide +kernel) rfl
set_option maxRecDepth 200000 in
theorem w_816 : Cond.code yX10_find cX10_find 7 (some .boolean) ∈ tb := tb_mem 816 (by rfl) rfl
set_option maxRecDepth 200000 in
theorem w_814 : Cond.instanceMethod yX10_find ∈ tb := tb_mem 814 (by decide +kernel) rfl
set_option maxRecDepth 200000 in
theorem w_815 : Cond.selects "CityRoad$WaySearch" yX10_find yX10_find ∈ tb := tb_mem 815 (by decide +kernel) rfl
set_option maxRecDepth 200000 in
theorem w_813 : Cond.methodLink "CityRoad" 231 yX10_find ∈ tb := tb_mem 813 (by decide +kernel) rfl
set_option maxRecDepth 200000 in
theorem w_335 : Cond.fieldLink "CityRoad" 237 "CityRoad$WaySearch" "path" "[I" ∈ tb := tb_mem 335 (by decide +kernel) rfl
set_option maxRecDepth 200000 in
theorem w_337 : Cond.fieldLink "CityRoad" 240 "CityRoad$WaySearch" "length" "I" ∈ tb := tb_mem 337 (by decide +kernel) rfl
set_option maxRecDepth 200000 in
theorem w_339 : Cond.fieldLink "CityRoad" 243 "CityRoad$WaySearch" "total" "I" ∈ tb := tb_mem 339 (by decide +kernel) rfl
set_option maxRecDepth 200000 in
theorem w_876 : Cond.code yX4_route cX4_route 6 none ∈ tb := tb_mem 876 (by rfl) rfl
set_option maxRecDepth 200000 in
theorem w_874 : Cond.instanceMethod yX4_route ∈ tb := tb_mem 874 (by decide +kernel) rfl
set_option maxRecDepth 200000 in
theorem w_875 : Cond.selects "CityRoad$Marks" yX4_route yX4_route ∈ tb := tb_mem 875 (by decide +kernel) rfl
set_option maxRecDepth 200000 in
theorem w_873 : Cond.methodLink "CityRoad" 246 yX4_route ∈ tb := tb_mem 873 (by decide +kernel) rfl
set_option maxRecDepth 200000 in
theorem w_1026 : Cond.code yX4_lengthOf cX4_lengthOf 2 (some .int) ∈ tb := tb_mem 1026 (by rfl) rfl
set_option maxRecDepth 200000 in
theorem w_1024 : Cond.instanceMethod yX4_lengthOf ∈ tb := tb_mem 1024 (by decide +kernel) rfl
set_option maxRecDepth 200000 in
theorem w_1025 : Cond.selects "CityRoad$Marks" yX4_lengthOf yX4_lengthOf ∈ tb := tb_mem 1025 (by decide +kernel) rfl
set_option maxRecDepth 200000 in
theorem w_1023 : Cond.methodLink "CityRoad" 322 yX4_lengthOf ∈ tb := tb_mem 1023 (by decide +kernel) rfl
set_option maxRecDepth 200000 in
theorem w_747 : Cond.methodLink "CityRoad" 202 yX1_stands ∈ tb := tb_mem 747 (by decide +kernel) rfl
set_option maxRecDepth 200000 in
theorem w_263 : Cond.fieldLink "CityRoad$Marks" 51 "CityRoad$Marks" "turnedOut" "[J" ∈ tb := tb_mem 263 (by decide +kernel) rfl
set_option maxRecDepth 200000 in
theorem w_726 : Cond.code yX5_setHome cX5_setHome 3 none ∈ tb := tb_mem 726 (by rfl) rfl
set_option maxRecDepth 200000 in
theorem w_724 : Cond.instanceMethod yX5_setHome ∈ tb := tb_mem 724 (by decide +kernel) rfl
set_option maxRecDepth 200000 in
theorem w_725 : Cond.selects "CityRoad$Persons" yX5_setHome yX5_setHome ∈ tb := tb_mem 725 (by decide +kernel) rfl
set_option maxRecDepth 200000 in
theorem w_723 : Cond.methodLink "CityRoad" 495 yX5_setHome ∈ tb := tb_mem 723 (by decide +kernel) rfl
set_option maxRecDepth 200000 in
theorem w_730 : Cond.code yX1_enter cX1_enter 2 none ∈ tb := tb_mem 730 (by rfl) rfl
set_option maxRecDepth 200000 in
theorem w_728 : Cond.instanceMethod yX1_enter ∈ tb := tb_mem 728 (by decide +kernel) rfl
set_option maxRecDepth 200000 in
theorem w_729 : Cond.selects "CityRoad$Buildings" yX1_enter yX1_enter ∈ tb := tb_mem 729 (by decide +kernel) rfl
set_option maxRecDepth 200000 in
theorem w_727 : Cond.methodLink "CityRoad" 498 yX1_enter ∈ tb := tb_mem 727 (by decide +kernel) rfl
set_option maxRecDepth 200000 in
theorem w_986 : Cond.code yX4_livedThere cX4_livedThere 3 (some .boolean) ∈ tb := tb_mem 986 (by rfl) rfl
set_option maxRecDepth 200000 in
theorem w_984 : Cond.instanceMethod yX4_livedThere ∈ tb := tb_mem 984 (by decide +kernel) rfl
set_option maxRecDepth 200000 in
theorem w_985 : Cond.selects "CityRoad$Marks" yX4_livedThere yX4_livedThere ∈ tb := tb_mem 985 (by decide +kernel) rfl
set_option maxRecDepth 200000 in
theorem w_983 : Cond.methodLink "CityRoad" 305 yX4_livedThere ∈ tb := tb_mem 983 (by decide +kernel) rfl
set_option maxRecDepth 200000 in
theorem w_710 : Cond.code yX1_roomsLeft cX1_roomsLeft 2 (some .int) ∈ tb := tb_mem 710 (by rfl) rfl
set_option maxRecDepth 200000 in
theorem w_708 : Cond.instanceMethod yX1_roomsLeft ∈ tb := tb_mem 708 (by decide +kernel) rfl
set_option maxRecDepth 200000 in
theorem w_709 : Cond.selects "CityRoad$Buildings" yX1_roomsLeft yX1_roomsLeft ∈ tb := tb_mem 709 (by decide +kernel) rfl
set_option maxRecDepth 200000 in
theorem w_707 : Cond.methodLink "CityRoad" 191 yX1_roomsLeft ∈ tb := tb_mem 707 (by decide +kernel) rfl
set_option maxRecDepth 200000 in
theorem w_994 : Cond.code yX4_setMoved cX4_setMoved 4 none ∈ tb := tb_mem 994 (by rfl) rfl
set_option maxRecDepth 200000 in
theorem w_992 : Cond.instanceMethod yX4_setMoved ∈ tb := tb_mem 992 (by decide +kernel) rfl
set_option maxRecDepth 200000 in
theorem w_993 : Cond.selects "CityRoad$Marks" yX4_setMoved yX4_setMoved ∈ tb := tb_mem 993 (by decide +kernel) rfl
set_option maxRecDepth 200000 in
theorem w_991 : Cond.methodLink "CityRoad" 311 yX4_setMoved ∈ tb := tb_mem 991 (by decide +kernel) rfl
set_option maxRecDepth 200000 in
theorem w_722 : Cond.code yX11_settle cX11_settle 3 none ∈ tb := tb_mem 722 (by rfl) rfl
set_option maxRecDepth 200000 in
theorem w_721 : Cond.instanceMethod yX11_settle ∈ tb := tb_mem 721 (by decide +kernel) rfl
set_option maxRecDepth 200000 in
theorem w_2 : Cond.selects "CityRoad" yX11_settle yX11_settle ∈ tb := tb_mem 2 (by decide +kernel) rfl
set_option maxRecDepth 200000 in
theorem w_719 : Cond.methodLink "CityRoad" 197 yX11_settle ∈ tb := tb_mem 719 (by decide +kernel) rfl
set_option maxRecDepth 200000 in
theorem w_718 : Cond.code yX5_add cX5_add 5 (some .int) ∈ tb := tb_mem 718 (by rfl) rfl
set_option maxRecDepth 200000 in
theorem w_716 : Cond.instanceMethod yX5_add ∈ tb := tb_mem 716 (by decide +kernel) rfl
set_option maxRecDepth 200000 in
theorem w_717 : Cond.selects "CityRoad$Persons" yX5_add yX5_add ∈ tb := tb_mem 717 (by decide +kernel) rfl
set_option maxRecDepth 200000 in
theorem w_715 : Cond.methodLink "CityRoad" 194 yX5_add ∈ tb := tb_mem 715 (by decide +kernel) rfl
set_option maxRecDepth 200000 in
theorem w_906 : Cond.code yX4_routeOf cX4_routeOf 3 none ∈ tb := tb_mem 906 (by rfl) rfl
set_option maxRecDepth 200000 in
theorem w_904 : Cond.instanceMethod yX4_routeOf ∈ tb := tb_mem 904 (by decide +kernel) rfl
set_option maxRecDepth 200000 in
theorem w_905 : Cond.selects "CityRoad$Marks" yX4_routeOf yX4_routeOf ∈ tb := tb_mem 905 (by decide +kernel) rfl
set_option maxRecDepth 200000 in
theorem w_903 : Cond.methodLink "CityRoad" 266 yX4_routeOf ∈ tb := tb_mem 903 (by decide +kernel) rfl
set_option maxRecDepth 200000 in
theorem w_534 : Cond.code yJ7_rangeCheck_23922 cJ7_rangeCheck_23922 3 none ∈ tb := tb_mem 534 (by rfl) rfl
set_option maxRecDepth 200000 in
theorem w_533 : Cond.static yJ7_rangeCheck_23922 ∈ tb := tb_mem 533 (by decide +kernel) rfl
set_option maxRecDepth 200000 in
theorem w_532 : Cond.methodLink "java/util/Arrays" 13 yJ7_rangeCheck_23922 ∈ tb := tb_mem 532 (by decide +kernel) rfl
set_option maxRecDepth 200000 in
theorem w_127 : Cond.fieldLink "CityRoad$Shelf" 26 "CityRoad$Shelf" "blank" "I" ∈ tb := tb_mem 127 (by decide +kernel) rfl
set_option maxRecDepth 200000 in
theorem w_531 : Cond.code yJ7_fill_fda19 cJ7_fill_fda19 5 none ∈ tb := tb_mem 531 (by rfl) rfl
set_option maxRecDepth 200000 in
theorem w_530 : Cond.static yJ7_fill_fda19 ∈ tb := tb_mem 530 (by decide +kernel) rfl
set_option maxRecDepth 200000 in
theorem w_529 : Cond.methodLink "CityRoad$Shelf" 35 yJ7_fill_fda19 ∈ tb := tb_mem 529 (by decide +kernel) rfl
set_option maxRecDepth 200000 in
theorem w_528 : Cond.code yX8_layOut cX8_layOut 3 none ∈ tb := tb_mem 528 (by rfl) rfl
set_option maxRecDepth 200000 in
theorem w_526 : Cond.instanceMethod yX8_layOut ∈ tb := tb_mem 526 (by decide +kernel) rfl
set_option maxRecDepth 200000 in
theorem w_527 : Cond.selects "CityRoad$Shelf" yX8_layOut yX8_layOut ∈ tb := tb_mem 527 (by decide +kernel) rfl
set_option maxRecDepth 200000 in
theorem w_525 : Cond.methodLink "CityRoad" 103 yX8_layOut ∈ tb := tb_mem 525 (by decide +kernel) rfl
set_option maxRecDepth 200000 in
theorem w_763 : Cond.code yX7_numberAt cX7_numberAt 6 (some .int) ∈ tb := tb_mem 763 (by rfl) rfl
set_option maxRecDepth 200000 in
theorem w_762 : Cond.static yX7_numberAt ∈ tb := tb_mem 762 (by decide +kernel) rfl
set_option maxRecDepth 200000 in
theorem w_761 : Cond.methodLink "CityRoad$Rules" 59 yX7_numberAt ∈ tb := tb_mem 761 (by decide +kernel) rfl
set_option maxRecDepth 200000 in
theorem w_760 : Cond.methodLink "CityRoad$Rules" 53 yJ7_fill_fda19 ∈ tb := tb_mem 760 (by decide +kernel) rfl
set_option maxRecDepth 200000 in
theorem w_759 : Cond.code yX7_add cX7_add 8 (some .int) ∈ tb := tb_mem 759 (by rfl) rfl
set_option maxRecDepth 200000 in
theorem w_757 : Cond.instanceMethod yX7_add ∈ tb := tb_mem 757 (by decide +kernel) rfl
set_option maxRecDepth 200000 in
theorem w_758 : Cond.selects "CityRoad$Rules" yX7_add yX7_add ∈ tb := tb_mem 758 (by decide +kernel) rfl
set_option maxRecDepth 200000 in
theorem w_756 : Cond.methodLink "CityRoad" 206 yX7_add ∈ tb := tb_mem 756 (by decide +kernel) rfl
set_option maxRecDepth 200000 in
theorem w_948 : Cond.methodLink "CityRoad" 510 Lib.Math.max.name ∈ tb := tb_mem 948 (by decide +kernel) rfl
set_option maxRecDepth 200000 in
theorem w_954 : Cond.code yX4_showOn cX4_showOn 3 none ∈ tb := tb_mem 954 (by rfl) rfl
set_option maxRecDepth 200000 in
theorem w_952 : Cond.instanceMethod yX4_showOn ∈ tb := tb_mem 952 (by decide +kernel) rfl
set_option maxRecDepth 200000 in
theorem w_953 : Cond.selects "CityRoad$Marks" yX4_showOn yX4_showOn ∈ tb := tb_mem 953 (by decide +kernel) rfl
set_option maxRecDepth 200000 in
theorem w_951 : Cond.methodLink "CityRoad" 288 yX4_showOn ∈ tb := tb_mem 951 (by decide +kernel) rfl
set_option maxRecDepth 200000 in
theorem w_947 : Cond.code yX11_lowered cX11_lowered 2 (some .int) ∈ tb := tb_mem 947 (by rfl) rfl
set_option maxRecDepth 200000 in
theorem w_946 : Cond.static yX11_lowered ∈ tb := tb_mem 946 (by decide +kernel) rfl
set_option maxRecDepth 200000 in
theorem w_945 : Cond.methodLink "CityRoad" 285 yX11_lowered ∈ tb := tb_mem 945 (by decide +kernel) rfl
set_option maxRecDepth 200000 in
theorem w_679 : Cond.methodLink "CityRoad" 177 yX1_assess ∈ tb := tb_mem 679 (by decide +kernel) rfl
set_option maxRecDepth 200000 in
theorem w_925 : Cond.code yX3_around cX3_around 4 (some .long) ∈ tb := tb_mem 925 (by rfl) rfl
set_option maxRecDepth 200000 in
theorem w_924 : Cond.static yX3_around ∈ tb := tb_mem 924 (by decide +kernel) rfl
set_option maxRecDepth 200000 in
theorem w_923 : Cond.methodLink "CityRoad" 275 yX3_around ∈ tb := tb_mem 923 (by decide +kernel) rfl
theorem gdX4_route_62 : decode cX4_route 62 = .ok (.return_, 1) := by decide +kernel
theorem gdX4_route_18 : decode cX4_route 18 = .ok (.iload 5, 2) := by decide +kernel
theorem gdX4_route_20 : decode cX4_route 20 = .ok (.iload_n 3, 1) := by decide +kernel
theorem gdX4_route_21 : decode cX4_route 21 = .ok (.if_icmp .ge 41, 3) := by decide +kernel
theorem gdX4_route_24 : decode cX4_route 24 = .ok (.aload_n 0, 1) := by decide +kernel
theorem gdX4_route_25 : decode cX4_route 25 = .ok (.getfield 26, 3) := by decide +kernel
theorem gdX4_route_28 : decode cX4_route 28 = .ok (.iload_n 1, 1) := by decide +kernel
theorem gdX4_route_29 : decode cX4_route 29 = .ok (.bipush 64, 2) := by decide +kernel
theorem gdX4_route_31 : decode cX4_route 31 = .ok (.imul, 1) := by decide +kernel
theorem gdX4_route_32 : decode cX4_route 32 = .ok (.iload 5, 2) := by decide +kernel
theorem gdX4_route_34 : decode cX4_route 34 = .ok (.iadd, 1) := by decide +kernel
theorem gdX4_route_35 : decode cX4_route 35 = .ok (.aload_n 2, 1) := by decide +kernel
theorem gdX4_route_36 : decode cX4_route 36 = .ok (.iload 5, 2) := by decide +kernel
theorem gdX4_route_38 : decode cX4_route 38 = .ok (.iaload, 1) := by decide +kernel
theorem gdX4_route_39 : decode cX4_route 39 = .ok (.iastore, 1) := by decide +kernel
theorem gdX4_route_40 : decode cX4_route 40 = .ok (.aload_n 0, 1) := by decide +kernel
theorem gdX4_route_41 : decode cX4_route 41 = .ok (.getfield 29, 3) := by decide +kernel
theorem gdX4_route_44 : decode cX4_route 44 = .ok (.iload_n 1, 1) := by decide +kernel
theorem gdX4_route_45 : decode cX4_route 45 = .ok (.dup2, 1) := by decide +kernel
theorem gdX4_route_46 : decode cX4_route 46 = .ok (.laload, 1) := by decide +kernel
theorem gdX4_route_47 : decode cX4_route 47 = .ok (.aload_n 2, 1) := by decide +kernel
theorem gdX4_route_48 : decode cX4_route 48 = .ok (.iload 5, 2) := by decide +kernel
theorem gdX4_route_50 : decode cX4_route 50 = .ok (.iaload, 1) := by decide +kernel
theorem gdX4_route_51 : decode cX4_route 51 = .ok (.invokestatic 58, 3) := by decide +kernel
theorem gdX4_route_54 : decode cX4_route 54 = .ok (.lor, 1) := by decide +kernel
theorem gdX4_route_55 : decode cX4_route 55 = .ok (.lastore, 1) := by decide +kernel
theorem gdX4_route_56 : decode cX4_route 56 = .ok (.iinc 5 1, 3) := by decide +kernel
theorem gdX4_route_59 : decode cX4_route 59 = .ok (.goto (-41), 3) := by decide +kernel
theorem gdX4_route_0 : decode cX4_route 0 = .ok (.aload_n 0, 1) := by decide +kernel
theorem gdX4_route_1 : decode cX4_route 1 = .ok (.getfield 21, 3) := by decide +kernel
theorem gdX4_route_4 : decode cX4_route 4 = .ok (.iload_n 1, 1) := by decide +kernel
theorem gdX4_route_5 : decode cX4_route 5 = .ok (.iload_n 3, 1) := by decide +kernel
theorem gdX4_route_6 : decode cX4_route 6 = .ok (.iastore, 1) := by decide +kernel
theorem gdX4_route_7 : decode cX4_route 7 = .ok (.aload_n 0, 1) := by decide +kernel
theorem gdX4_route_8 : decode cX4_route 8 = .ok (.getfield 33, 3) := by decide +kernel
theorem gdX4_route_11 : decode cX4_route 11 = .ok (.iload_n 1, 1) := by decide +kernel
theorem gdX4_route_12 : decode cX4_route 12 = .ok (.iload 4, 2) := by decide +kernel
theorem gdX4_route_14 : decode cX4_route 14 = .ok (.iastore, 1) := by decide +kernel
theorem gdX4_route_15 : decode cX4_route 15 = .ok (.iconst 0, 1) := by decide +kernel
theorem gdX4_route_16 : decode cX4_route 16 = .ok (.istore 5, 2) := by decide +kernel
theorem gdX11_line_30 : decode cX11_line 30 = .ok (.iconst (-1), 1) := by decide +kernel
theorem gdX11_line_31 : decode cX11_line 31 = .ok (.ireturn, 1) := by decide +kernel
theorem gdX11_line_125 : decode cX11_line 125 = .ok (.bipush (-4), 2) := by decide +kernel
theorem gdX11_line_127 : decode cX11_line 127 = .ok (.ireturn, 1) := by decide +kernel
theorem gdX11_line_0 : decode cX11_line 0 = .ok (.iload_n 1, 1) := by decide +kernel
theorem gdX11_line_1 : decode cX11_line 1 = .ok (.invokestatic 140, 3) := by decide +kernel
theorem gdX11_line_4 : decode cX11_line 4 = .ok (.ifCond .eq 26, 3) := by decide +kernel
theorem gdX11_line_7 : decode cX11_line 7 = .ok (.iload_n 2, 1) := by decide +kernel
theorem gdX11_line_8 : decode cX11_line 8 = .ok (.invokestatic 140, 3) := by decide +kernel
theorem gdX11_line_11 : decode cX11_line 11 = .ok (.ifCond .eq 19, 3) := by decide +kernel
theorem gdX11_line_14 : decode cX11_line 14 = .ok (.iload_n 1, 1) := by decide +kernel
theorem gdX11_line_15 : decode cX11_line 15 = .ok (.iload_n 2, 1) := by decide +kernel
theorem gdX11_line_16 : decode cX11_line 16 = .ok (.if_icmp .eq 14, 3) := by decide +kernel
theorem gdX11_line_19 : decode cX11_line 19 = .ok (.aload_n 0, 1) := by decide +kernel
theorem gdX11_line_20 : decode cX11_line 20 = .ok (.getfield 12, 3) := by decide +kernel
theorem gdX11_line_23 : decode cX11_line 23 = .ok (.iload_n 3, 1) := by decide +kernel
theorem gdX11_line_24 : decode cX11_line 24 = .ok (.invokevirtual 95, 3) := by decide +kernel
theorem gdX11_line_27 : decode cX11_line 27 = .ok (.ifCond .ne 5, 3) := by decide +kernel
theorem gdX11_line_32 : decode cX11_line 32 = .ok (.aload_n 0, 1) := by decide +kernel
theorem gdX11_line_33 : decode cX11_line 33 = .ok (.getfield 52, 3) := by decide +kernel
theorem gdX11_line_36 : decode cX11_line 36 = .ok (.invokevirtual 218, 3) := by decide +kernel
theorem gdX11_line_39 : decode cX11_line 39 = .ok (.bipush 24, 2) := by decide +kernel
theorem gdX11_line_41 : decode cX11_line 41 = .ok (.if_icmp .lt 6, 3) := by decide +kernel
theorem gdX11_line_47 : decode cX11_line 47 = .ok (.aload_n 0, 1) := by decide +kernel
theorem gdX11_line_48 : decode cX11_line 48 = .ok (.getfield 12, 3) := by decide +kernel
theorem gdX11_line_51 : decode cX11_line 51 = .ok (.iload_n 3, 1) := by decide +kernel
theorem gdX11_line_52 : decode cX11_line 52 = .ok (.invokevirtual 106, 3) := by decide +kernel
theorem gdX11_line_55 : decode cX11_line 55 = .ok (.ifCond .ne 9, 3) := by decide +kernel
theorem gdX11_line_64 : decode cX11_line 64 = .ok (.aload_n 0, 1) := by decide +kernel
theorem gdX11_line_65 : decode cX11_line 65 = .ok (.getfield 12, 3) := by decide +kernel
theorem gdX11_line_68 : decode cX11_line 68 = .ok (.iload_n 3, 1) := by decide +kernel
theorem gdX11_line_69 : decode cX11_line 69 = .ok (.invokevirtual 219, 3) := by decide +kernel
theorem gdX11_line_72 : decode cX11_line 72 = .ok (.iconst 4, 1) := by decide +kernel
theorem gdX11_line_73 : decode cX11_line 73 = .ok (.if_icmp .eq 9, 3) := by decide +kernel
theorem gdX11_line_82 : decode cX11_line 82 = .ok (.aload_n 0, 1) := by decide +kernel
theorem gdX11_line_83 : decode cX11_line 83 = .ok (.getfield 12, 3) := by decide +kernel
theorem gdX11_line_86 : decode cX11_line 86 = .ok (.iload_n 3, 1) := by decide +kernel
theorem gdX11_line_87 : decode cX11_line 87 = .ok (.iconst 0, 1) := by decide +kernel
theorem gdX11_line_88 : decode cX11_line 88 = .ok (.sipush 1000, 3) := by decide +kernel
theorem gdX11_line_91 : decode cX11_line 91 = .ok (.invokevirtual 222, 3) := by decide +kernel
theorem gdX11_line_94 : decode cX11_line 94 = .ok (.ifCond .ne 9, 3) := by decide +kernel
theorem gdX11_line_103 : decode cX11_line 103 = .ok (.aload_n 0, 1) := by decide +kernel
theorem gdX11_line_104 : decode cX11_line 104 = .ok (.getfield 26, 3) := by decide +kernel
theorem gdX11_line_107 : decode cX11_line 107 = .ok (.iload_n 1, 1) := by decide +kernel
theorem gdX11_line_108 : decode cX11_line 108 = .ok (.invokevirtual 163, 3) := by decide +kernel
theorem gdX11_line_111 : decode cX11_line 111 = .ok (.ifCond .ne 14, 3) := by decide +kernel
theorem gdX11_line_114 : decode cX11_line 114 = .ok (.aload_n 0, 1) := by decide +kernel
theorem gdX11_line_115 : decode cX11_line 115 = .ok (.getfield 26, 3) := by decide +kernel
theorem gdX11_line_118 : decode cX11_line 118 = .ok (.iload_n 2, 1) := by decide +kernel
theorem gdX11_line_119 : decode cX11_line 119 = .ok (.invokevirtual 163, 3) := by decide +kernel
theorem gdX11_line_122 : decode cX11_line 122 = .ok (.ifCond .eq 6, 3) := by decide +kernel
theorem gdX11_line_128 : decode cX11_line 128 = .ok (.aload_n 0, 1) := by decide +kernel
theorem gdX11_line_129 : decode cX11_line 129 = .ok (.iload_n 3, 1) := by decide +kernel
theorem gdX11_line_130 : decode cX11_line 130 = .ok (.invokevirtual 225, 3) := by decide +kernel
theorem gdX11_line_133 : decode cX11_line 133 = .ok (.aload_n 0, 1) := by decide +kernel
theorem gdX11_line_134 : decode cX11_line 134 = .ok (.getfield 66, 3) := by decide +kernel
theorem gdX11_line_137 : decode cX11_line 137 = .ok (.aload_n 0, 1) := by decide +kernel
theorem gdX11_line_138 : decode cX11_line 138 = .ok (.getfield 26, 3) := by decide +kernel
theorem gdX11_line_141 : decode cX11_line 141 = .ok (.aload_n 0, 1) := by decide +kernel
theorem gdX11_line_142 : decode cX11_line 142 = .ok (.iconst 0, 1) := by decide +kernel
theorem gdX11_line_143 : decode cX11_line 143 = .ok (.invokevirtual 228, 3) := by decide +kernel
theorem gdX11_line_146 : decode cX11_line 146 = .ok (.iload_n 1, 1) := by decide +kernel
theorem gdX11_line_147 : decode cX11_line 147 = .ok (.iload_n 2, 1) := by decide +kernel
theorem gdX11_line_148 : decode cX11_line 148 = .ok (.invokevirtual 231, 3) := by decide +kernel
theorem gdX11_line_151 : decode cX11_line 151 = .ok (.ifCond .ne 9, 3) := by decide +kernel
theorem gdX11_line_160 : decode cX11_line 160 = .ok (.aload_n 0, 1) := by decide +kernel
theorem gdX11_line_161 : decode cX11_line 161 = .ok (.getfield 52, 3) := by decide +kernel
theorem gdX11_line_164 : decode cX11_line 164 = .ok (.iconst 1, 1) := by decide +kernel
theorem gdX11_line_165 : decode cX11_line 165 = .ok (.aload_n 0, 1) := by decide +kernel
theorem gdX11_line_166 : decode cX11_line 166 = .ok (.getfield 136, 3) := by decide +kernel
theorem gdX11_line_169 : decode cX11_line 169 = .ok (.bipush (-9), 2) := by decide +kernel
theorem gdX11_line_171 : decode cX11_line 171 = .ok (.invokevirtual 235, 3) := by decide +kernel
theorem gdX11_line_174 : decode cX11_line 174 = .ok (.istore 4, 2) := by decide +kernel
theorem gdX11_line_176 : decode cX11_line 176 = .ok (.aload_n 0, 1) := by decide +kernel
theorem gdX11_line_177 : decode cX11_line 177 = .ok (.getfield 52, 3) := by decide +kernel
theorem gdX11_line_180 : decode cX11_line 180 = .ok (.iload 4, 2) := by decide +kernel
theorem gdX11_line_182 : decode cX11_line 182 = .ok (.aload_n 0, 1) := by decide +kernel
theorem gdX11_line_183 : decode cX11_line 183 = .ok (.getfield 66, 3) := by decide +kernel
theorem gdX11_line_186 : decode cX11_line 186 = .ok (.getfield 237, 3) := by decide +kernel
theorem gdX11_line_189 : decode cX11_line 189 = .ok (.aload_n 0, 1) := by decide +kernel
theorem gdX11_line_190 : decode cX11_line 190 = .ok (.getfield 66, 3) := by decide +kernel
theorem gdX11_line_193 : decode cX11_line 193 = .ok (.getfield 240, 3) := by decide +kernel
theorem gdX11_line_196 : decode cX11_line 196 = .ok (.aload_n 0, 1) := by decide +kernel
theorem gdX11_line_197 : decode cX11_line 197 = .ok (.getfield 66, 3) := by decide +kernel
theorem gdX11_line_200 : decode cX11_line 200 = .ok (.getfield 243, 3) := by decide +kernel
theorem gdX11_line_203 : decode cX11_line 203 = .ok (.invokevirtual 246, 3) := by decide +kernel
theorem gdX11_line_206 : decode cX11_line 206 = .ok (.iload 4, 2) := by decide +kernel
theorem gdX11_line_208 : decode cX11_line 208 = .ok (.ireturn, 1) := by decide +kernel
theorem gdX11_line_154 : decode cX11_line 154 = .ok (.aload_n 0, 1) := by decide +kernel
theorem gdX11_line_155 : decode cX11_line 155 = .ok (.iconst 1, 1) := by decide +kernel
theorem gdX11_line_156 : decode cX11_line 156 = .ok (.invokevirtual 99, 3) := by decide +kernel
theorem gdX11_line_159 : decode cX11_line 159 = .ok (.ireturn, 1) := by decide +kernel
theorem gdX11_line_97 : decode cX11_line 97 = .ok (.aload_n 0, 1) := by decide +kernel
theorem gdX11_line_98 : decode cX11_line 98 = .ok (.iconst 3, 1) := by decide +kernel
theorem gdX11_line_99 : decode cX11_line 99 = .ok (.invokevirtual 99, 3) := by decide +kernel
theorem gdX11_line_102 : decode cX11_line 102 = .ok (.ireturn, 1) := by decide +kernel
theorem gdX11_line_76 : decode cX11_line 76 = .ok (.aload_n 0, 1) := by decide +kernel
theorem gdX11_line_77 : decode cX11_line 77 = .ok (.iconst 5, 1) := by decide +kernel
theorem gdX11_line_78 : decode cX11_line 78 = .ok (.invokevirtual 99, 3) := by decide +kernel
theorem gdX11_line_81 : decode cX11_line 81 = .ok (.ireturn, 1) := by decide +kernel
theorem gdX11_line_58 : decode cX11_line 58 = .ok (.aload_n 0, 1) := by decide +kernel
theorem gdX11_line_59 : decode cX11_line 59 = .ok (.iconst 1, 1) := by decide +kernel
theorem gdX11_line_60 : decode cX11_line 60 = .ok (.invokevirtual 99, 3) := by decide +kernel
theorem gdX11_line_63 : decode cX11_line 63 = .ok (.ireturn, 1) := by decide +kernel
theorem gdX11_line_44 : decode cX11_line 44 = .ok (.bipush (-2), 2) := by decide +kernel
theorem gdX11_line_46 : decode cX11_line 46 = .ok (.ireturn, 1) := by decide +kernel
theorem gdX4_lengthOf_0 : decode cX4_lengthOf 0 = .ok (.aload_n 0, 1) := by decide +kernel
theorem gdX4_lengthOf_1 : decode cX4_lengthOf 1 = .ok (.getfield 21, 3) := by decide +kernel
theorem gdX4_lengthOf_4 : decode cX4_lengthOf 4 = .ok (.iload_n 1, 1) := by decide +kernel
theorem gdX4_lengthOf_5 : decode cX4_lengthOf 5 = .ok (.iaload, 1) := by decide +kernel
theorem gdX4_lengthOf_6 : decode cX4_lengthOf 6 = .ok (.ireturn, 1) := by decide +kernel
theorem gdX11_mark_22 : decode cX11_mark 22 = .ok (.iconst (-1), 1) := by decide +kernel
theorem gdX11_mark_23 : decode cX11_mark 23 = .ok (.ireturn, 1) := by decide +kernel
theorem gdX11_mark_0 : decode cX11_mark 0 = .ok (.aload_n 0, 1) := by decide +kernel
theorem gdX11_mark_1 : decode cX11_mark 1 = .ok (.getfield 52, 3) := by decide +kernel
theorem gdX11_mark_4 : decode cX11_mark 4 = .ok (.iload_n 1, 1) := by decide +kernel
theorem gdX11_mark_5 : decode cX11_mark 5 = .ok (.invokevirtual 250, 3) := by decide +kernel
theorem gdX11_mark_8 : decode cX11_mark 8 = .ok (.ifCond .eq 14, 3) := by decide +kernel
theorem gdX11_mark_11 : decode cX11_mark 11 = .ok (.iload_n 2, 1) := by decide +kernel
theorem gdX11_mark_12 : decode cX11_mark 12 = .ok (.iconst 1, 1) := by decide +kernel
theorem gdX11_mark_13 : decode cX11_mark 13 = .ok (.if_icmp .lt 9, 3) := by decide +kernel
theorem gdX11_mark_16 : decode cX11_mark 16 = .ok (.iload_n 2, 1) := by decide +kernel
theorem gdX11_mark_17 : decode cX11_mark 17 = .ok (.bipush 6, 2) := by decide +kernel
theorem gdX11_mark_19 : decode cX11_mark 19 = .ok (.if_icmp .le 5, 3) := by decide +kernel
theorem gdX11_mark_24 : decode cX11_mark 24 = .ok (.aload_n 0, 1) := by decide +kernel
theorem gdX11_mark_25 : decode cX11_mark 25 = .ok (.getfield 52, 3) := by decide +kernel
theorem gdX11_mark_28 : decode cX11_mark 28 = .ok (.iload_n 1, 1) := by decide +kernel
theorem gdX11_mark_29 : decode cX11_mark 29 = .ok (.iload_n 2, 1) := by decide +kernel
theorem gdX11_mark_30 : decode cX11_mark 30 = .ok (.invokevirtual 251, 3) := by decide +kernel
theorem gdX11_mark_33 : decode cX11_mark 33 = .ok (.ifCond .ne 9, 3) := by decide +kernel
theorem gdX11_mark_42 : decode cX11_mark 42 = .ok (.iload_n 2, 1) := by decide +kernel
theorem gdX11_mark_43 : decode cX11_mark 43 = .ok (.tableswitch 71 1 6 #[37, 46, 71, 56, 71, 65], 37) := by decide +kernel
theorem gdX11_mark_80 : decode cX11_mark 80 = .ok (.aload_n 0, 1) := by decide +kernel
theorem gdX11_mark_81 : decode cX11_mark 81 = .ok (.getfield 52, 3) := by decide +kernel
theorem gdX11_mark_84 : decode cX11_mark 84 = .ok (.iload_n 1, 1) := by decide +kernel
theorem gdX11_mark_85 : decode cX11_mark 85 = .ok (.invokevirtual 322, 3) := by decide +kernel
theorem gdX11_mark_88 : decode cX11_mark 88 = .ok (.ireturn, 1) := by decide +kernel
theorem gdX11_mark_89 : decode cX11_mark 89 = .ok (.aload_n 0, 1) := by decide +kernel
theorem gdX11_mark_90 : decode cX11_mark 90 = .ok (.getfield 52, 3) := by decide +kernel
theorem gdX11_mark_93 : decode cX11_mark 93 = .ok (.iload_n 1, 1) := by decide +kernel
theorem gdX11_mark_94 : decode cX11_mark 94 = .ok (.iconst 0, 1) := by decide +kernel
theorem gdX11_mark_95 : decode cX11_mark 95 = .ok (.invokevirtual 269, 3) := by decide +kernel
theorem gdX11_mark_98 : decode cX11_mark 98 = .ok (.ireturn, 1) := by decide +kernel
theorem gdX11_mark_114 : decode cX11_mark 114 = .ok (.aload_n 0, 1) := by decide +kernel
theorem gdX11_mark_115 : decode cX11_mark 115 = .ok (.getfield 52, 3) := by decide +kernel
theorem gdX11_mark_118 : decode cX11_mark 118 = .ok (.iload_n 1, 1) := by decide +kernel
theorem gdX11_mark_119 : decode cX11_mark 119 = .ok (.invokevirtual 331, 3) := by decide +kernel
theorem gdX11_mark_122 : decode cX11_mark 122 = .ok (.ireturn, 1) := by decide +kernel
theorem gdX11_mark_99 : decode cX11_mark 99 = .ok (.aload_n 0, 1) := by decide +kernel
theorem gdX11_mark_100 : decode cX11_mark 100 = .ok (.getfield 52, 3) := by decide +kernel
theorem gdX11_mark_103 : decode cX11_mark 103 = .ok (.iload_n 1, 1) := by decide +kernel
theorem gdX11_mark_104 : decode cX11_mark 104 = .ok (.invokevirtual 325, 3) := by decide +kernel
theorem gdX11_mark_107 : decode cX11_mark 107 = .ok (.ireturn, 1) := by decide +kernel
theorem gdX11_mark_108 : decode cX11_mark 108 = .ok (.aload_n 0, 1) := by decide +kernel
theorem gdX11_mark_109 : decode cX11_mark 109 = .ok (.iload_n 1, 1) := by decide +kernel
theorem gdX11_mark_110 : decode cX11_mark 110 = .ok (.invokevirtual 328, 3) := by decide +kernel
theorem gdX11_mark_113 : decode cX11_mark 113 = .ok (.ireturn, 1) := by decide +kernel
theorem gdX11_mark_36 : decode cX11_mark 36 = .ok (.aload_n 0, 1) := by decide +kernel
theorem gdX11_mark_37 : decode cX11_mark 37 = .ok (.iconst 3, 1) := by decide +kernel
theorem gdX11_mark_38 : decode cX11_mark 38 = .ok (.invokevirtual 99, 3) := by decide +kernel
theorem gdX11_mark_41 : decode cX11_mark 41 = .ok (.ireturn, 1) := by decide +kernel
theorem gdX11_mean_65 : decode cX11_mean 65 = .ok (.iload_n 2, 1) := by decide +kernel
theorem gdX11_mean_66 : decode cX11_mean 66 = .ok (.ifCond .ne 9, 3) := by decide +kernel
theorem gdX11_mean_75 : decode cX11_mean 75 = .ok (.aload_n 0, 1) := by decide +kernel
theorem gdX11_mean_76 : decode cX11_mean 76 = .ok (.iload_n 3, 1) := by decide +kernel
theorem gdX11_mean_77 : decode cX11_mean 77 = .ok (.iload_n 2, 1) := by decide +kernel
theorem gdX11_mean_78 : decode cX11_mean 78 = .ok (.idiv, 1) := by decide +kernel
theorem gdX11_mean_79 : decode cX11_mean 79 = .ok (.invokevirtual 117, 3) := by decide +kernel
theorem gdX11_mean_82 : decode cX11_mean 82 = .ok (.ireturn, 1) := by decide +kernel
theorem gdX11_mean_69 : decode cX11_mean 69 = .ok (.aload_n 0, 1) := by decide +kernel
theorem gdX11_mean_70 : decode cX11_mean 70 = .ok (.iconst 4, 1) := by decide +kernel
theorem gdX11_mean_71 : decode cX11_mean 71 = .ok (.invokevirtual 99, 3) := by decide +kernel
theorem gdX11_mean_74 : decode cX11_mean 74 = .ok (.ireturn, 1) := by decide +kernel
theorem gdX11_mean_59 : decode cX11_mean 59 = .ok (.iinc 4 1, 3) := by decide +kernel
theorem gdX11_mean_62 : decode cX11_mean 62 = .ok (.goto (-46), 3) := by decide +kernel
theorem gdX11_mean_16 : decode cX11_mean 16 = .ok (.iload 4, 2) := by decide +kernel
theorem gdX11_mean_18 : decode cX11_mean 18 = .ok (.aload_n 0, 1) := by decide +kernel
theorem gdX11_mean_19 : decode cX11_mean 19 = .ok (.getfield 33, 3) := by decide +kernel
theorem gdX11_mean_22 : decode cX11_mean 22 = .ok (.invokevirtual 156, 3) := by decide +kernel
theorem gdX11_mean_25 : decode cX11_mean 25 = .ok (.if_icmp .ge 40, 3) := by decide +kernel
theorem gdX11_mean_28 : decode cX11_mean 28 = .ok (.aload_n 0, 1) := by decide +kernel
theorem gdX11_mean_29 : decode cX11_mean 29 = .ok (.getfield 33, 3) := by decide +kernel
theorem gdX11_mean_32 : decode cX11_mean 32 = .ok (.iload 4, 2) := by decide +kernel
theorem gdX11_mean_34 : decode cX11_mean 34 = .ok (.iload_n 1, 1) := by decide +kernel
theorem gdX11_mean_35 : decode cX11_mean 35 = .ok (.invokevirtual 202, 3) := by decide +kernel
theorem gdX11_mean_38 : decode cX11_mean 38 = .ok (.ifCond .ne 6, 3) := by decide +kernel
theorem gdX11_mean_44 : decode cX11_mean 44 = .ok (.iinc 2 1, 3) := by decide +kernel
theorem gdX11_mean_47 : decode cX11_mean 47 = .ok (.iload_n 3, 1) := by decide +kernel
theorem gdX11_mean_48 : decode cX11_mean 48 = .ok (.aload_n 0, 1) := by decide +kernel
theorem gdX11_mean_49 : decode cX11_mean 49 = .ok (.getfield 33, 3) := by decide +kernel
theorem gdX11_mean_52 : decode cX11_mean 52 = .ok (.iload 4, 2) := by decide +kernel
theorem gdX11_mean_54 : decode cX11_mean 54 = .ok (.invokevirtual 174, 3) := by decide +kernel
theorem gdX11_mean_57 : decode cX11_mean 57 = .ok (.iadd, 1) := by decide +kernel
theorem gdX11_mean_58 : decode cX11_mean 58 = .ok (.istore_n 3, 1) := by decide +kernel
theorem gdX11_mean_41 : decode cX11_mean 41 = .ok (.goto 18, 3) := by decide +kernel
theorem gdX11_mean_0 : decode cX11_mean 0 = .ok (.iload_n 1, 1) := by decide +kernel
theorem gdX11_mean_1 : decode cX11_mean 1 = .ok (.invokestatic 150, 3) := by decide +kernel
theorem gdX11_mean_4 : decode cX11_mean 4 = .ok (.ifCond .ne 5, 3) := by decide +kernel
theorem gdX11_mean_9 : decode cX11_mean 9 = .ok (.iconst 0, 1) := by decide +kernel
theorem gdX11_mean_10 : decode cX11_mean 10 = .ok (.istore_n 2, 1) := by decide +kernel
theorem gdX11_mean_11 : decode cX11_mean 11 = .ok (.iconst 0, 1) := by decide +kernel
theorem gdX11_mean_12 : decode cX11_mean 12 = .ok (.istore_n 3, 1) := by decide +kernel
theorem gdX11_mean_13 : decode cX11_mean 13 = .ok (.iconst 0, 1) := by decide +kernel
theorem gdX11_mean_14 : decode cX11_mean 14 = .ok (.istore 4, 2) := by decide +kernel
theorem gdX11_mean_7 : decode cX11_mean 7 = .ok (.iconst (-1), 1) := by decide +kernel
theorem gdX11_mean_8 : decode cX11_mean 8 = .ok (.ireturn, 1) := by decide +kernel
theorem gdX4_livedThere_20 : decode cX4_livedThere 20 = .ok (.ireturn, 1) := by decide +kernel
theorem gdX4_livedThere_0 : decode cX4_livedThere 0 = .ok (.aload_n 0, 1) := by decide +kernel
theorem gdX4_livedThere_1 : decode cX4_livedThere 1 = .ok (.getfield 51, 3) := by decide +kernel
theorem gdX4_livedThere_4 : decode cX4_livedThere 4 = .ok (.iload_n 1, 1) := by decide +kernel
theorem gdX4_livedThere_5 : decode cX4_livedThere 5 = .ok (.laload, 1) := by decide +kernel
theorem gdX4_livedThere_6 : decode cX4_livedThere 6 = .ok (.iload_n 2, 1) := by decide +kernel
theorem gdX4_livedThere_7 : decode cX4_livedThere 7 = .ok (.lushr, 1) := by decide +kernel
theorem gdX4_livedThere_8 : decode cX4_livedThere 8 = .ok (.lconst 1, 1) := by decide +kernel
theorem gdX4_livedThere_9 : decode cX4_livedThere 9 = .ok (.land, 1) := by decide +kernel
theorem gdX4_livedThere_10 : decode cX4_livedThere 10 = .ok (.lconst 1, 1) := by decide +kernel
theorem gdX4_livedThere_11 : decode cX4_livedThere 11 = .ok (.lcmp, 1) := by decide +kernel
theorem gdX4_livedThere_12 : decode cX4_livedThere 12 = .ok (.ifCond .ne 7, 3) := by decide +kernel
theorem gdX4_livedThere_19 : decode cX4_livedThere 19 = .ok (.iconst 0, 1) := by decide +kernel
theorem gdX4_livedThere_15 : decode cX4_livedThere 15 = .ok (.iconst 1, 1) := by decide +kernel
theorem gdX4_livedThere_16 : decode cX4_livedThere 16 = .ok (.goto 4, 3) := by decide +kernel
theorem gdX1_roomsLeft_26 : decode cX1_roomsLeft 26 = .ok (.ireturn, 1) := by decide +kernel
theorem gdX1_roomsLeft_0 : decode cX1_roomsLeft 0 = .ok (.aload_n 0, 1) := by decide +kernel
theorem gdX1_roomsLeft_1 : decode cX1_roomsLeft 1 = .ok (.iload_n 1, 1) := by decide +kernel
theorem gdX1_roomsLeft_2 : decode cX1_roomsLeft 2 = .ok (.iconst 0, 1) := by decide +kernel
theorem gdX1_roomsLeft_3 : decode cX1_roomsLeft 3 = .ok (.invokevirtual 69, 3) := by decide +kernel
theorem gdX1_roomsLeft_6 : decode cX1_roomsLeft 6 = .ok (.ifCond .eq 19, 3) := by decide +kernel
theorem gdX1_roomsLeft_25 : decode cX1_roomsLeft 25 = .ok (.iconst 0, 1) := by decide +kernel
theorem gdX1_roomsLeft_9 : decode cX1_roomsLeft 9 = .ok (.aload_n 0, 1) := by decide +kernel
theorem gdX1_roomsLeft_10 : decode cX1_roomsLeft 10 = .ok (.getfield 18, 3) := by decide +kernel
theorem gdX1_roomsLeft_13 : decode cX1_roomsLeft 13 = .ok (.iload_n 1, 1) := by decide +kernel
theorem gdX1_roomsLeft_14 : decode cX1_roomsLeft 14 = .ok (.iaload, 1) := by decide +kernel
theorem gdX1_roomsLeft_15 : decode cX1_roomsLeft 15 = .ok (.aload_n 0, 1) := by decide +kernel
theorem gdX1_roomsLeft_16 : decode cX1_roomsLeft 16 = .ok (.getfield 21, 3) := by decide +kernel
theorem gdX1_roomsLeft_19 : decode cX1_roomsLeft 19 = .ok (.iload_n 1, 1) := by decide +kernel
theorem gdX1_roomsLeft_20 : decode cX1_roomsLeft 20 = .ok (.iaload, 1) := by decide +kernel
theorem gdX1_roomsLeft_21 : decode cX1_roomsLeft 21 = .ok (.isub, 1) := by decide +kernel
theorem gdX1_roomsLeft_22 : decode cX1_roomsLeft 22 = .ok (.goto 4, 3) := by decide +kernel
theorem gdX4_setMoved_0 : decode cX4_setMoved 0 = .ok (.aload_n 0, 1) := by decide +kernel
theorem gdX4_setMoved_1 : decode cX4_setMoved 1 = .ok (.getfield 39, 3) := by decide +kernel
theorem gdX4_setMoved_4 : decode cX4_setMoved 4 = .ok (.iload_n 1, 1) := by decide +kernel
theorem gdX4_setMoved_5 : decode cX4_setMoved 5 = .ok (.iload_n 2, 1) := by decide +kernel
theorem gdX4_setMoved_6 : decode cX4_setMoved 6 = .ok (.iastore, 1) := by decide +kernel
theorem gdX4_setMoved_7 : decode cX4_setMoved 7 = .ok (.aload_n 0, 1) := by decide +kernel
theorem gdX4_setMoved_8 : decode cX4_setMoved 8 = .ok (.getfield 42, 3) := by decide +kernel
theorem gdX4_setMoved_11 : decode cX4_setMoved 11 = .ok (.iload_n 1, 1) := by decide +kernel
theorem gdX4_setMoved_12 : decode cX4_setMoved 12 = .ok (.iload_n 3, 1) := by decide +kernel
theorem gdX4_setMoved_13 : decode cX4_setMoved 13 = .ok (.iastore, 1) := by decide +kernel
theorem gdX4_setMoved_14 : decode cX4_setMoved 14 = .ok (.return_, 1) := by decide +kernel
theorem gdX5_setHome_0 : decode cX5_setHome 0 = .ok (.aload_n 0, 1) := by decide +kernel
theorem gdX5_setHome_1 : decode cX5_setHome 1 = .ok (.getfield 11, 3) := by decide +kernel
theorem gdX5_setHome_4 : decode cX5_setHome 4 = .ok (.iload_n 1, 1) := by decide +kernel
theorem gdX5_setHome_5 : decode cX5_setHome 5 = .ok (.iload_n 2, 1) := by decide +kernel
theorem gdX5_setHome_6 : decode cX5_setHome 6 = .ok (.iastore, 1) := by decide +kernel
theorem gdX5_setHome_7 : decode cX5_setHome 7 = .ok (.return_, 1) := by decide +kernel
theorem gdX1_enter_0 : decode cX1_enter 0 = .ok (.aload_n 0, 1) := by decide +kernel
theorem gdX1_enter_1 : decode cX1_enter 1 = .ok (.getfield 21, 3) := by decide +kernel
theorem gdX1_enter_4 : decode cX1_enter 4 = .ok (.iload_n 1, 1) := by decide +kernel
theorem gdX1_enter_5 : decode cX1_enter 5 = .ok (.dup2, 1) := by decide +kernel
theorem gdX1_enter_6 : decode cX1_enter 6 = .ok (.iaload, 1) := by decide +kernel
theorem gdX1_enter_7 : decode cX1_enter 7 = .ok (.iconst 1, 1) := by decide +kernel
theorem gdX1_enter_8 : decode cX1_enter 8 = .ok (.iadd, 1) := by decide +kernel
theorem gdX1_enter_9 : decode cX1_enter 9 = .ok (.iastore, 1) := by decide +kernel
theorem gdX1_enter_10 : decode cX1_enter 10 = .ok (.return_, 1) := by decide +kernel
theorem gdX11_settle_0 : decode cX11_settle 0 = .ok (.aload_n 0, 1) := by decide +kernel
theorem gdX11_settle_1 : decode cX11_settle 1 = .ok (.getfield 40, 3) := by decide +kernel
theorem gdX11_settle_4 : decode cX11_settle 4 = .ok (.iload_n 1, 1) := by decide +kernel
theorem gdX11_settle_5 : decode cX11_settle 5 = .ok (.iload_n 2, 1) := by decide +kernel
theorem gdX11_settle_6 : decode cX11_settle 6 = .ok (.invokevirtual 495, 3) := by decide +kernel
theorem gdX11_settle_9 : decode cX11_settle 9 = .ok (.aload_n 0, 1) := by decide +kernel
theorem gdX11_settle_10 : decode cX11_settle 10 = .ok (.getfield 33, 3) := by decide +kernel
theorem gdX11_settle_13 : decode cX11_settle 13 = .ok (.iload_n 2, 1) := by decide +kernel
theorem gdX11_settle_14 : decode cX11_settle 14 = .ok (.invokevirtual 498, 3) := by decide +kernel
theorem gdX11_settle_17 : decode cX11_settle 17 = .ok (.return_, 1) := by decide +kernel
theorem gdX11_moved_33 : decode cX11_moved 33 = .ok (.iconst (-1), 1) := by decide +kernel
theorem gdX11_moved_34 : decode cX11_moved 34 = .ok (.ireturn, 1) := by decide +kernel
theorem gdX11_moved_105 : decode cX11_moved 105 = .ok (.bipush (-4), 2) := by decide +kernel
theorem gdX11_moved_107 : decode cX11_moved 107 = .ok (.ireturn, 1) := by decide +kernel
theorem gdX11_moved_0 : decode cX11_moved 0 = .ok (.aload_n 0, 1) := by decide +kernel
theorem gdX11_moved_1 : decode cX11_moved 1 = .ok (.getfield 52, 3) := by decide +kernel
theorem gdX11_moved_4 : decode cX11_moved 4 = .ok (.iload_n 1, 1) := by decide +kernel
theorem gdX11_moved_5 : decode cX11_moved 5 = .ok (.invokevirtual 250, 3) := by decide +kernel
theorem gdX11_moved_8 : decode cX11_moved 8 = .ok (.ifCond .eq 25, 3) := by decide +kernel
theorem gdX11_moved_11 : decode cX11_moved 11 = .ok (.aload_n 0, 1) := by decide +kernel
theorem gdX11_moved_12 : decode cX11_moved 12 = .ok (.getfield 40, 3) := by decide +kernel
theorem gdX11_moved_15 : decode cX11_moved 15 = .ok (.iload_n 2, 1) := by decide +kernel
theorem gdX11_moved_16 : decode cX11_moved 16 = .ok (.invokevirtual 200, 3) := by decide +kernel
theorem gdX11_moved_19 : decode cX11_moved 19 = .ok (.ifCond .eq 14, 3) := by decide +kernel
theorem gdX11_moved_22 : decode cX11_moved 22 = .ok (.aload_n 0, 1) := by decide +kernel
theorem gdX11_moved_23 : decode cX11_moved 23 = .ok (.getfield 33, 3) := by decide +kernel
theorem gdX11_moved_26 : decode cX11_moved 26 = .ok (.iload_n 3, 1) := by decide +kernel
theorem gdX11_moved_27 : decode cX11_moved 27 = .ok (.invokevirtual 170, 3) := by decide +kernel
theorem gdX11_moved_30 : decode cX11_moved 30 = .ok (.ifCond .ne 5, 3) := by decide +kernel
theorem gdX11_moved_35 : decode cX11_moved 35 = .ok (.aload_n 0, 1) := by decide +kernel
theorem gdX11_moved_36 : decode cX11_moved 36 = .ok (.getfield 52, 3) := by decide +kernel
theorem gdX11_moved_39 : decode cX11_moved 39 = .ok (.invokevirtual 218, 3) := by decide +kernel
theorem gdX11_moved_42 : decode cX11_moved 42 = .ok (.bipush 24, 2) := by decide +kernel
theorem gdX11_moved_44 : decode cX11_moved 44 = .ok (.if_icmp .lt 6, 3) := by decide +kernel
theorem gdX11_moved_50 : decode cX11_moved 50 = .ok (.aload_n 0, 1) := by decide +kernel
theorem gdX11_moved_51 : decode cX11_moved 51 = .ok (.getfield 52, 3) := by decide +kernel
theorem gdX11_moved_54 : decode cX11_moved 54 = .ok (.iload_n 1, 1) := by decide +kernel
theorem gdX11_moved_55 : decode cX11_moved 55 = .ok (.invokevirtual 302, 3) := by decide +kernel
theorem gdX11_moved_58 : decode cX11_moved 58 = .ok (.iconst 3, 1) := by decide +kernel
theorem gdX11_moved_59 : decode cX11_moved 59 = .ok (.if_icmp .eq 9, 3) := by decide +kernel
theorem gdX11_moved_68 : decode cX11_moved 68 = .ok (.aload_n 0, 1) := by decide +kernel
theorem gdX11_moved_69 : decode cX11_moved 69 = .ok (.getfield 52, 3) := by decide +kernel
theorem gdX11_moved_72 : decode cX11_moved 72 = .ok (.iload_n 1, 1) := by decide +kernel
theorem gdX11_moved_73 : decode cX11_moved 73 = .ok (.iload_n 2, 1) := by decide +kernel
theorem gdX11_moved_74 : decode cX11_moved 74 = .ok (.invokevirtual 305, 3) := by decide +kernel
theorem gdX11_moved_77 : decode cX11_moved 77 = .ok (.ifCond .eq 28, 3) := by decide +kernel
theorem gdX11_moved_80 : decode cX11_moved 80 = .ok (.aload_n 0, 1) := by decide +kernel
theorem gdX11_moved_81 : decode cX11_moved 81 = .ok (.getfield 40, 3) := by decide +kernel
theorem gdX11_moved_84 : decode cX11_moved 84 = .ok (.iload_n 2, 1) := by decide +kernel
theorem gdX11_moved_85 : decode cX11_moved 85 = .ok (.invokevirtual 308, 3) := by decide +kernel
theorem gdX11_moved_88 : decode cX11_moved 88 = .ok (.bipush (-9), 2) := by decide +kernel
theorem gdX11_moved_90 : decode cX11_moved 90 = .ok (.if_icmp .ne 15, 3) := by decide +kernel
theorem gdX11_moved_93 : decode cX11_moved 93 = .ok (.aload_n 0, 1) := by decide +kernel
theorem gdX11_moved_94 : decode cX11_moved 94 = .ok (.getfield 33, 3) := by decide +kernel
theorem gdX11_moved_97 : decode cX11_moved 97 = .ok (.iload_n 3, 1) := by decide +kernel
theorem gdX11_moved_98 : decode cX11_moved 98 = .ok (.invokevirtual 191, 3) := by decide +kernel
theorem gdX11_moved_101 : decode cX11_moved 101 = .ok (.iconst 1, 1) := by decide +kernel
theorem gdX11_moved_102 : decode cX11_moved 102 = .ok (.if_icmp .ge 6, 3) := by decide +kernel
theorem gdX11_moved_108 : decode cX11_moved 108 = .ok (.aload_n 0, 1) := by decide +kernel
theorem gdX11_moved_109 : decode cX11_moved 109 = .ok (.iconst 3, 1) := by decide +kernel
theorem gdX11_moved_110 : decode cX11_moved 110 = .ok (.invokevirtual 228, 3) := by decide +kernel
theorem gdX11_moved_113 : decode cX11_moved 113 = .ok (.istore 4, 2) := by decide +kernel
theorem gdX11_moved_115 : decode cX11_moved 115 = .ok (.aload_n 0, 1) := by decide +kernel
theorem gdX11_moved_116 : decode cX11_moved 116 = .ok (.getfield 52, 3) := by decide +kernel
theorem gdX11_moved_119 : decode cX11_moved 119 = .ok (.iconst 4, 1) := by decide +kernel
theorem gdX11_moved_120 : decode cX11_moved 120 = .ok (.aload_n 0, 1) := by decide +kernel
theorem gdX11_moved_121 : decode cX11_moved 121 = .ok (.getfield 136, 3) := by decide +kernel
theorem gdX11_moved_124 : decode cX11_moved 124 = .ok (.iload_n 1, 1) := by decide +kernel
theorem gdX11_moved_125 : decode cX11_moved 125 = .ok (.invokevirtual 235, 3) := by decide +kernel
theorem gdX11_moved_128 : decode cX11_moved 128 = .ok (.istore 5, 2) := by decide +kernel
theorem gdX11_moved_130 : decode cX11_moved 130 = .ok (.aload_n 0, 1) := by decide +kernel
theorem gdX11_moved_131 : decode cX11_moved 131 = .ok (.getfield 52, 3) := by decide +kernel
theorem gdX11_moved_134 : decode cX11_moved 134 = .ok (.iload 5, 2) := by decide +kernel
theorem gdX11_moved_136 : decode cX11_moved 136 = .ok (.iload 4, 2) := by decide +kernel
theorem gdX11_moved_138 : decode cX11_moved 138 = .ok (.iload_n 2, 1) := by decide +kernel
theorem gdX11_moved_139 : decode cX11_moved 139 = .ok (.invokevirtual 311, 3) := by decide +kernel
theorem gdX11_moved_142 : decode cX11_moved 142 = .ok (.aload_n 0, 1) := by decide +kernel
theorem gdX11_moved_143 : decode cX11_moved 143 = .ok (.iload_n 2, 1) := by decide +kernel
theorem gdX11_moved_144 : decode cX11_moved 144 = .ok (.iload_n 3, 1) := by decide +kernel
theorem gdX11_moved_145 : decode cX11_moved 145 = .ok (.invokevirtual 197, 3) := by decide +kernel
theorem gdX11_moved_148 : decode cX11_moved 148 = .ok (.aload_n 0, 1) := by decide +kernel
theorem gdX11_moved_149 : decode cX11_moved 149 = .ok (.iload 4, 2) := by decide +kernel
theorem gdX11_moved_151 : decode cX11_moved 151 = .ok (.invokevirtual 117, 3) := by decide +kernel
theorem gdX11_moved_154 : decode cX11_moved 154 = .ok (.pop, 1) := by decide +kernel
theorem gdX11_moved_155 : decode cX11_moved 155 = .ok (.iload 5, 2) := by decide +kernel
theorem gdX11_moved_157 : decode cX11_moved 157 = .ok (.ireturn, 1) := by decide +kernel
theorem gdX11_moved_62 : decode cX11_moved 62 = .ok (.aload_n 0, 1) := by decide +kernel
theorem gdX11_moved_63 : decode cX11_moved 63 = .ok (.iconst 3, 1) := by decide +kernel
theorem gdX11_moved_64 : decode cX11_moved 64 = .ok (.invokevirtual 99, 3) := by decide +kernel
theorem gdX11_moved_67 : decode cX11_moved 67 = .ok (.ireturn, 1) := by decide +kernel
theorem gdX11_moved_47 : decode cX11_moved 47 = .ok (.bipush (-2), 2) := by decide +kernel
theorem gdX11_moved_49 : decode cX11_moved 49 = .ok (.ireturn, 1) := by decide +kernel
theorem gdX11_noise_22 : decode cX11_noise 22 = .ok (.iconst (-1), 1) := by decide +kernel
theorem gdX11_noise_23 : decode cX11_noise 23 = .ok (.ireturn, 1) := by decide +kernel
theorem gdX11_noise_0 : decode cX11_noise 0 = .ok (.aload_n 0, 1) := by decide +kernel
theorem gdX11_noise_1 : decode cX11_noise 1 = .ok (.getfield 52, 3) := by decide +kernel
theorem gdX11_noise_4 : decode cX11_noise 4 = .ok (.iload_n 1, 1) := by decide +kernel
theorem gdX11_noise_5 : decode cX11_noise 5 = .ok (.invokevirtual 250, 3) := by decide +kernel
theorem gdX11_noise_8 : decode cX11_noise 8 = .ok (.ifCond .eq 14, 3) := by decide +kernel
theorem gdX11_noise_11 : decode cX11_noise 11 = .ok (.aload_n 0, 1) := by decide +kernel
theorem gdX11_noise_12 : decode cX11_noise 12 = .ok (.getfield 12, 3) := by decide +kernel
theorem gdX11_noise_15 : decode cX11_noise 15 = .ok (.iload_n 2, 1) := by decide +kernel
theorem gdX11_noise_16 : decode cX11_noise 16 = .ok (.invokevirtual 95, 3) := by decide +kernel
theorem gdX11_noise_19 : decode cX11_noise 19 = .ok (.ifCond .ne 5, 3) := by decide +kernel
theorem gdX11_noise_24 : decode cX11_noise 24 = .ok (.aload_n 0, 1) := by decide +kernel
theorem gdX11_noise_25 : decode cX11_noise 25 = .ok (.getfield 52, 3) := by decide +kernel
theorem gdX11_noise_28 : decode cX11_noise 28 = .ok (.iload_n 1, 1) := by decide +kernel
theorem gdX11_noise_29 : decode cX11_noise 29 = .ok (.iconst 1, 1) := by decide +kernel
theorem gdX11_noise_30 : decode cX11_noise 30 = .ok (.invokevirtual 251, 3) := by decide +kernel
theorem gdX11_noise_33 : decode cX11_noise 33 = .ok (.ifCond .ne 9, 3) := by decide +kernel
theorem gdX11_noise_42 : decode cX11_noise 42 = .ok (.aload_n 0, 1) := by decide +kernel
theorem gdX11_noise_43 : decode cX11_noise 43 = .ok (.getfield 12, 3) := by decide +kernel
theorem gdX11_noise_46 : decode cX11_noise 46 = .ok (.iload_n 2, 1) := by decide +kernel
theorem gdX11_noise_47 : decode cX11_noise 47 = .ok (.invokevirtual 106, 3) := by decide +kernel
theorem gdX11_noise_50 : decode cX11_noise 50 = .ok (.ifCond .ne 9, 3) := by decide +kernel
theorem gdX11_noise_59 : decode cX11_noise 59 = .ok (.aload_n 0, 1) := by decide +kernel
theorem gdX11_noise_60 : decode cX11_noise 60 = .ok (.iload_n 1, 1) := by decide +kernel
theorem gdX11_noise_61 : decode cX11_noise 61 = .ok (.iload_n 2, 1) := by decide +kernel
theorem gdX11_noise_62 : decode cX11_noise 62 = .ok (.invokevirtual 398, 3) := by decide +kernel
theorem gdX11_noise_65 : decode cX11_noise 65 = .ok (.lstore_n 3, 1) := by decide +kernel
theorem gdX11_noise_66 : decode cX11_noise 66 = .ok (.aload_n 0, 1) := by decide +kernel
theorem gdX11_noise_67 : decode cX11_noise 67 = .ok (.aload_n 0, 1) := by decide +kernel
theorem gdX11_noise_68 : decode cX11_noise 68 = .ok (.getfield 33, 3) := by decide +kernel
theorem gdX11_noise_71 : decode cX11_noise 71 = .ok (.lload_n 3, 1) := by decide +kernel
theorem gdX11_noise_72 : decode cX11_noise 72 = .ok (.invokevirtual 402, 3) := by decide +kernel
theorem gdX11_noise_75 : decode cX11_noise 75 = .ok (.invokevirtual 117, 3) := by decide +kernel
theorem gdX11_noise_78 : decode cX11_noise 78 = .ok (.pop, 1) := by decide +kernel
theorem gdX11_noise_79 : decode cX11_noise 79 = .ok (.aload_n 0, 1) := by decide +kernel
theorem gdX11_noise_80 : decode cX11_noise 80 = .ok (.getfield 33, 3) := by decide +kernel
theorem gdX11_noise_83 : decode cX11_noise 83 = .ok (.lload_n 3, 1) := by decide +kernel
theorem gdX11_noise_84 : decode cX11_noise 84 = .ok (.invokevirtual 405, 3) := by decide +kernel
theorem gdX11_noise_87 : decode cX11_noise 87 = .ok (.ireturn, 1) := by decide +kernel
theorem gdX11_noise_53 : decode cX11_noise 53 = .ok (.aload_n 0, 1) := by decide +kernel
theorem gdX11_noise_54 : decode cX11_noise 54 = .ok (.iconst 1, 1) := by decide +kernel
theorem gdX11_noise_55 : decode cX11_noise 55 = .ok (.invokevirtual 99, 3) := by decide +kernel
theorem gdX11_noise_58 : decode cX11_noise 58 = .ok (.ireturn, 1) := by decide +kernel
theorem gdX11_noise_36 : decode cX11_noise 36 = .ok (.aload_n 0, 1) := by decide +kernel
theorem gdX11_noise_37 : decode cX11_noise 37 = .ok (.iconst 3, 1) := by decide +kernel
theorem gdX11_noise_38 : decode cX11_noise 38 = .ok (.invokevirtual 99, 3) := by decide +kernel
theorem gdX11_noise_41 : decode cX11_noise 41 = .ok (.ireturn, 1) := by decide +kernel
theorem gdX11_over_0 : decode cX11_over 0 = .ok (.aload_n 0, 1) := by decide +kernel
theorem gdX11_over_1 : decode cX11_over 1 = .ok (.getfield 52, 3) := by decide +kernel
theorem gdX11_over_4 : decode cX11_over 4 = .ok (.iload_n 1, 1) := by decide +kernel
theorem gdX11_over_5 : decode cX11_over 5 = .ok (.invokevirtual 250, 3) := by decide +kernel
theorem gdX11_over_8 : decode cX11_over 8 = .ok (.ifCond .ne 5, 3) := by decide +kernel
theorem gdX11_over_13 : decode cX11_over 13 = .ok (.aload_n 0, 1) := by decide +kernel
theorem gdX11_over_14 : decode cX11_over 14 = .ok (.getfield 52, 3) := by decide +kernel
theorem gdX11_over_17 : decode cX11_over 17 = .ok (.iload_n 1, 1) := by decide +kernel
theorem gdX11_over_18 : decode cX11_over 18 = .ok (.iconst 1, 1) := by decide +kernel
theorem gdX11_over_19 : decode cX11_over 19 = .ok (.invokevirtual 251, 3) := by decide +kernel
theorem gdX11_over_22 : decode cX11_over 22 = .ok (.ifCond .ne 9, 3) := by decide +kernel
theorem gdX11_over_31 : decode cX11_over 31 = .ok (.aload_n 0, 1) := by decide +kernel
theorem gdX11_over_32 : decode cX11_over 32 = .ok (.aload_n 0, 1) := by decide +kernel
theorem gdX11_over_33 : decode cX11_over 33 = .ok (.getfield 52, 3) := by decide +kernel
theorem gdX11_over_36 : decode cX11_over 36 = .ok (.iload_n 1, 1) := by decide +kernel
theorem gdX11_over_37 : decode cX11_over 37 = .ok (.invokevirtual 254, 3) := by decide +kernel
theorem gdX11_over_40 : decode cX11_over 40 = .ok (.putfield 337, 3) := by decide +kernel
theorem gdX11_over_43 : decode cX11_over 43 = .ok (.aload_n 0, 1) := by decide +kernel
theorem gdX11_over_44 : decode cX11_over 44 = .ok (.getfield 52, 3) := by decide +kernel
theorem gdX11_over_47 : decode cX11_over 47 = .ok (.iload_n 1, 1) := by decide +kernel
theorem gdX11_over_48 : decode cX11_over 48 = .ok (.invokevirtual 322, 3) := by decide +kernel
theorem gdX11_over_51 : decode cX11_over 51 = .ok (.ireturn, 1) := by decide +kernel
theorem gdX11_over_25 : decode cX11_over 25 = .ok (.aload_n 0, 1) := by decide +kernel
theorem gdX11_over_26 : decode cX11_over 26 = .ok (.iconst 3, 1) := by decide +kernel
theorem gdX11_over_27 : decode cX11_over 27 = .ok (.invokevirtual 99, 3) := by decide +kernel
theorem gdX11_over_30 : decode cX11_over 30 = .ok (.ireturn, 1) := by decide +kernel
theorem gdX11_over_11 : decode cX11_over 11 = .ok (.iconst (-1), 1) := by decide +kernel
theorem gdX11_over_12 : decode cX11_over 12 = .ok (.ireturn, 1) := by decide +kernel
theorem gdX11_owed_79 : decode cX11_owed 79 = .ok (.aload_n 0, 1) := by decide +kernel
theorem gdX11_owed_80 : decode cX11_owed 80 = .ok (.lload_n 1, 1) := by decide +kernel
theorem gdX11_owed_81 : decode cX11_owed 81 = .ok (.putfield 417, 3) := by decide +kernel
theorem gdX11_owed_84 : decode cX11_owed 84 = .ok (.iload_n 3, 1) := by decide +kernel
theorem gdX11_owed_85 : decode cX11_owed 85 = .ok (.ireturn, 1) := by decide +kernel
theorem gdX11_owed_73 : decode cX11_owed 73 = .ok (.iinc 4 1, 3) := by decide +kernel
theorem gdX11_owed_76 : decode cX11_owed 76 = .ok (.goto (-69), 3) := by decide +kernel
theorem gdX11_owed_7 : decode cX11_owed 7 = .ok (.iload 4, 2) := by decide +kernel
theorem gdX11_owed_9 : decode cX11_owed 9 = .ok (.aload_n 0, 1) := by decide +kernel
theorem gdX11_owed_10 : decode cX11_owed 10 = .ok (.getfield 52, 3) := by decide +kernel
theorem gdX11_owed_13 : decode cX11_owed 13 = .ok (.invokevirtual 218, 3) := by decide +kernel
theorem gdX11_owed_16 : decode cX11_owed 16 = .ok (.if_icmp .ge 63, 3) := by decide +kernel
theorem gdX11_owed_19 : decode cX11_owed 19 = .ok (.aload_n 0, 1) := by decide +kernel
theorem gdX11_owed_20 : decode cX11_owed 20 = .ok (.getfield 52, 3) := by decide +kernel
theorem gdX11_owed_23 : decode cX11_owed 23 = .ok (.iload 4, 2) := by decide +kernel
theorem gdX11_owed_25 : decode cX11_owed 25 = .ok (.iconst 3, 1) := by decide +kernel
theorem gdX11_owed_26 : decode cX11_owed 26 = .ok (.invokevirtual 251, 3) := by decide +kernel
theorem gdX11_owed_29 : decode cX11_owed 29 = .ok (.ifCond .ne 6, 3) := by decide +kernel
theorem gdX11_owed_35 : decode cX11_owed 35 = .ok (.lload_n 1, 1) := by decide +kernel
theorem gdX11_owed_36 : decode cX11_owed 36 = .ok (.aload_n 0, 1) := by decide +kernel
theorem gdX11_owed_37 : decode cX11_owed 37 = .ok (.getfield 52, 3) := by decide +kernel
theorem gdX11_owed_40 : decode cX11_owed 40 = .ok (.iload 4, 2) := by decide +kernel
theorem gdX11_owed_42 : decode cX11_owed 42 = .ok (.invokevirtual 331, 3) := by decide +kernel
theorem gdX11_owed_45 : decode cX11_owed 45 = .ok (.i2l, 1) := by decide +kernel
theorem gdX11_owed_46 : decode cX11_owed 46 = .ok (.ladd, 1) := by decide +kernel
theorem gdX11_owed_47 : decode cX11_owed 47 = .ok (.lstore_n 1, 1) := by decide +kernel
theorem gdX11_owed_48 : decode cX11_owed 48 = .ok (.aload_n 0, 1) := by decide +kernel
theorem gdX11_owed_49 : decode cX11_owed 49 = .ok (.getfield 52, 3) := by decide +kernel
theorem gdX11_owed_52 : decode cX11_owed 52 = .ok (.iload 4, 2) := by decide +kernel
theorem gdX11_owed_54 : decode cX11_owed 54 = .ok (.invokevirtual 302, 3) := by decide +kernel
theorem gdX11_owed_57 : decode cX11_owed 57 = .ok (.iconst 3, 1) := by decide +kernel
theorem gdX11_owed_58 : decode cX11_owed 58 = .ok (.if_icmp .ne 15, 3) := by decide +kernel
theorem gdX11_owed_61 : decode cX11_owed 61 = .ok (.aload_n 0, 1) := by decide +kernel
theorem gdX11_owed_62 : decode cX11_owed 62 = .ok (.iload 4, 2) := by decide +kernel
theorem gdX11_owed_64 : decode cX11_owed 64 = .ok (.invokevirtual 414, 3) := by decide +kernel
theorem gdX11_owed_67 : decode cX11_owed 67 = .ok (.ifCond .eq 6, 3) := by decide +kernel
theorem gdX11_owed_70 : decode cX11_owed 70 = .ok (.iinc 3 1, 3) := by decide +kernel
theorem gdX11_owed_32 : decode cX11_owed 32 = .ok (.goto 41, 3) := by decide +kernel
theorem gdX11_owed_0 : decode cX11_owed 0 = .ok (.lconst 0, 1) := by decide +kernel
theorem gdX11_owed_1 : decode cX11_owed 1 = .ok (.lstore_n 1, 1) := by decide +kernel
theorem gdX11_owed_2 : decode cX11_owed 2 = .ok (.iconst 0, 1) := by decide +kernel
theorem gdX11_owed_3 : decode cX11_owed 3 = .ok (.istore_n 3, 1) := by decide +kernel
theorem gdX11_owed_4 : decode cX11_owed 4 = .ok (.iconst 0, 1) := by decide +kernel
theorem gdX11_owed_5 : decode cX11_owed 5 = .ok (.istore 4, 2) := by decide +kernel
theorem gdX11_park_68 : decode cX11_park 68 = .ok (.ireturn, 1) := by decide +kernel
theorem gdX11_park_0 : decode cX11_park 0 = .ok (.aload_n 0, 1) := by decide +kernel
theorem gdX11_park_1 : decode cX11_park 1 = .ok (.getfield 52, 3) := by decide +kernel
theorem gdX11_park_4 : decode cX11_park 4 = .ok (.iload_n 1, 1) := by decide +kernel
theorem gdX11_park_5 : decode cX11_park 5 = .ok (.invokevirtual 250, 3) := by decide +kernel
theorem gdX11_park_8 : decode cX11_park 8 = .ok (.ifCond .ne 5, 3) := by decide +kernel
theorem gdX11_park_13 : decode cX11_park 13 = .ok (.aload_n 0, 1) := by decide +kernel
theorem gdX11_park_14 : decode cX11_park 14 = .ok (.getfield 52, 3) := by decide +kernel
theorem gdX11_park_17 : decode cX11_park 17 = .ok (.iload_n 1, 1) := by decide +kernel
theorem gdX11_park_18 : decode cX11_park 18 = .ok (.iconst 1, 1) := by decide +kernel
theorem gdX11_park_19 : decode cX11_park 19 = .ok (.invokevirtual 251, 3) := by decide +kernel
theorem gdX11_park_22 : decode cX11_park 22 = .ok (.ifCond .ne 9, 3) := by decide +kernel
theorem gdX11_park_31 : decode cX11_park 31 = .ok (.aload_n 0, 1) := by decide +kernel
theorem gdX11_park_32 : decode cX11_park 32 = .ok (.getfield 26, 3) := by decide +kernel
theorem gdX11_park_35 : decode cX11_park 35 = .ok (.aload_n 0, 1) := by decide +kernel
theorem gdX11_park_36 : decode cX11_park 36 = .ok (.getfield 52, 3) := by decide +kernel
theorem gdX11_park_39 : decode cX11_park 39 = .ok (.iload_n 1, 1) := by decide +kernel
theorem gdX11_park_40 : decode cX11_park 40 = .ok (.invokevirtual 254, 3) := by decide +kernel
theorem gdX11_park_43 : decode cX11_park 43 = .ok (.invokevirtual 408, 3) := by decide +kernel
theorem gdX11_park_46 : decode cX11_park 46 = .ok (.istore_n 2, 1) := by decide +kernel
theorem gdX11_park_47 : decode cX11_park 47 = .ok (.aload_n 0, 1) := by decide +kernel
theorem gdX11_park_48 : decode cX11_park 48 = .ok (.iload_n 2, 1) := by decide +kernel
theorem gdX11_park_49 : decode cX11_park 49 = .ok (.invokevirtual 117, 3) := by decide +kernel
theorem gdX11_park_52 : decode cX11_park 52 = .ok (.pop, 1) := by decide +kernel
theorem gdX11_park_53 : decode cX11_park 53 = .ok (.iload_n 2, 1) := by decide +kernel
theorem gdX11_park_54 : decode cX11_park 54 = .ok (.aload_n 0, 1) := by decide +kernel
theorem gdX11_park_55 : decode cX11_park 55 = .ok (.bipush 6, 2) := by decide +kernel
theorem gdX11_park_57 : decode cX11_park 57 = .ok (.invokevirtual 228, 3) := by decide +kernel
theorem gdX11_park_60 : decode cX11_park 60 = .ok (.if_icmp .gt 7, 3) := by decide +kernel
theorem gdX11_park_67 : decode cX11_park 67 = .ok (.iconst 0, 1) := by decide +kernel
theorem gdX11_park_63 : decode cX11_park 63 = .ok (.iconst 1, 1) := by decide +kernel
theorem gdX11_park_64 : decode cX11_park 64 = .ok (.goto 4, 3) := by decide +kernel
theorem gdX11_park_25 : decode cX11_park 25 = .ok (.aload_n 0, 1) := by decide +kernel
theorem gdX11_park_26 : decode cX11_park 26 = .ok (.iconst 3, 1) := by decide +kernel
theorem gdX11_park_27 : decode cX11_park 27 = .ok (.invokevirtual 99, 3) := by decide +kernel
theorem gdX11_park_30 : decode cX11_park 30 = .ok (.ireturn, 1) := by decide +kernel
theorem gdX11_park_11 : decode cX11_park 11 = .ok (.iconst (-1), 1) := by decide +kernel
theorem gdX11_park_12 : decode cX11_park 12 = .ok (.ireturn, 1) := by decide +kernel
theorem gdX5_add_0 : decode cX5_add 0 = .ok (.aload_n 0, 1) := by decide +kernel
theorem gdX5_add_1 : decode cX5_add 1 = .ok (.getfield 25, 3) := by decide +kernel
theorem gdX5_add_4 : decode cX5_add 4 = .ok (.istore 4, 2) := by decide +kernel
theorem gdX5_add_6 : decode cX5_add 6 = .ok (.aload_n 0, 1) := by decide +kernel
theorem gdX5_add_7 : decode cX5_add 7 = .ok (.dup, 1) := by decide +kernel
theorem gdX5_add_8 : decode cX5_add 8 = .ok (.getfield 25, 3) := by decide +kernel
theorem gdX5_add_11 : decode cX5_add 11 = .ok (.iconst 1, 1) := by decide +kernel
theorem gdX5_add_12 : decode cX5_add 12 = .ok (.iadd, 1) := by decide +kernel
theorem gdX5_add_13 : decode cX5_add 13 = .ok (.putfield 25, 3) := by decide +kernel
theorem gdX5_add_16 : decode cX5_add 16 = .ok (.aload_n 0, 1) := by decide +kernel
theorem gdX5_add_17 : decode cX5_add 17 = .ok (.getfield 11, 3) := by decide +kernel
theorem gdX5_add_20 : decode cX5_add 20 = .ok (.iload 4, 2) := by decide +kernel
theorem gdX5_add_22 : decode cX5_add 22 = .ok (.bipush (-9), 2) := by decide +kernel
theorem gdX5_add_24 : decode cX5_add 24 = .ok (.iastore, 1) := by decide +kernel
theorem gdX5_add_25 : decode cX5_add 25 = .ok (.aload_n 0, 1) := by decide +kernel
theorem gdX5_add_26 : decode cX5_add 26 = .ok (.getfield 15, 3) := by decide +kernel
theorem gdX5_add_29 : decode cX5_add 29 = .ok (.iload 4, 2) := by decide +kernel
theorem gdX5_add_31 : decode cX5_add 31 = .ok (.iload_n 1, 1) := by decide +kernel
theorem gdX5_add_32 : decode cX5_add 32 = .ok (.iastore, 1) := by decide +kernel
theorem gdX5_add_33 : decode cX5_add 33 = .ok (.aload_n 0, 1) := by decide +kernel
theorem gdX5_add_34 : decode cX5_add 34 = .ok (.getfield 18, 3) := by decide +kernel
theorem gdX5_add_37 : decode cX5_add 37 = .ok (.iload 4, 2) := by decide +kernel
theorem gdX5_add_39 : decode cX5_add 39 = .ok (.iload_n 2, 1) := by decide +kernel
theorem gdX5_add_40 : decode cX5_add 40 = .ok (.bastore, 1) := by decide +kernel
theorem gdX5_add_41 : decode cX5_add 41 = .ok (.aload_n 0, 1) := by decide +kernel
theorem gdX5_add_42 : decode cX5_add 42 = .ok (.getfield 22, 3) := by decide +kernel
theorem gdX5_add_45 : decode cX5_add 45 = .ok (.iload 4, 2) := by decide +kernel
theorem gdX5_add_47 : decode cX5_add 47 = .ok (.iload_n 3, 1) := by decide +kernel
theorem gdX5_add_48 : decode cX5_add 48 = .ok (.iastore, 1) := by decide +kernel
theorem gdX5_add_49 : decode cX5_add 49 = .ok (.iload 4, 2) := by decide +kernel
theorem gdX5_add_51 : decode cX5_add 51 = .ok (.ireturn, 1) := by decide +kernel
theorem gdX11_person_46 : decode cX11_person 46 = .ok (.iconst (-1), 1) := by decide +kernel
theorem gdX11_person_47 : decode cX11_person 47 = .ok (.ireturn, 1) := by decide +kernel
theorem gdX11_person_110 : decode cX11_person 110 = .ok (.iload 5, 2) := by decide +kernel
theorem gdX11_person_112 : decode cX11_person 112 = .ok (.ireturn, 1) := by decide +kernel
theorem gdX11_person_84 : decode cX11_person 84 = .ok (.aload_n 0, 1) := by decide +kernel
theorem gdX11_person_85 : decode cX11_person 85 = .ok (.getfield 40, 3) := by decide +kernel
theorem gdX11_person_88 : decode cX11_person 88 = .ok (.iload_n 2, 1) := by decide +kernel
theorem gdX11_person_89 : decode cX11_person 89 = .ok (.iload_n 3, 1) := by decide +kernel
theorem gdX11_person_90 : decode cX11_person 90 = .ok (.iload 4, 2) := by decide +kernel
theorem gdX11_person_92 : decode cX11_person 92 = .ok (.invokevirtual 194, 3) := by decide +kernel
theorem gdX11_person_95 : decode cX11_person 95 = .ok (.istore 5, 2) := by decide +kernel
theorem gdX11_person_97 : decode cX11_person 97 = .ok (.iload_n 1, 1) := by decide +kernel
theorem gdX11_person_98 : decode cX11_person 98 = .ok (.bipush (-9), 2) := by decide +kernel
theorem gdX11_person_100 : decode cX11_person 100 = .ok (.if_icmp .eq 10, 3) := by decide +kernel
theorem gdX11_person_103 : decode cX11_person 103 = .ok (.aload_n 0, 1) := by decide +kernel
theorem gdX11_person_104 : decode cX11_person 104 = .ok (.iload 5, 2) := by decide +kernel
theorem gdX11_person_106 : decode cX11_person 106 = .ok (.iload_n 1, 1) := by decide +kernel
theorem gdX11_person_107 : decode cX11_person 107 = .ok (.invokevirtual 197, 3) := by decide +kernel
theorem gdX11_person_34 : decode cX11_person 34 = .ok (.iload 4, 2) := by decide +kernel
theorem gdX11_person_36 : decode cX11_person 36 = .ok (.ifCond .lt 10, 3) := by decide +kernel
theorem gdX11_person_39 : decode cX11_person 39 = .ok (.iload 4, 2) := by decide +kernel
theorem gdX11_person_41 : decode cX11_person 41 = .ok (.bipush 9, 2) := by decide +kernel
theorem gdX11_person_43 : decode cX11_person 43 = .ok (.if_icmp .le 5, 3) := by decide +kernel
theorem gdX11_person_48 : decode cX11_person 48 = .ok (.aload_n 0, 1) := by decide +kernel
theorem gdX11_person_49 : decode cX11_person 49 = .ok (.getfield 40, 3) := by decide +kernel
theorem gdX11_person_52 : decode cX11_person 52 = .ok (.invokevirtual 190, 3) := by decide +kernel
theorem gdX11_person_55 : decode cX11_person 55 = .ok (.bipush 40, 2) := by decide +kernel
theorem gdX11_person_57 : decode cX11_person 57 = .ok (.if_icmp .lt 6, 3) := by decide +kernel
theorem gdX11_person_63 : decode cX11_person 63 = .ok (.iload_n 1, 1) := by decide +kernel
theorem gdX11_person_64 : decode cX11_person 64 = .ok (.bipush (-9), 2) := by decide +kernel
theorem gdX11_person_66 : decode cX11_person 66 = .ok (.if_icmp .eq 18, 3) := by decide +kernel
theorem gdX11_person_69 : decode cX11_person 69 = .ok (.aload_n 0, 1) := by decide +kernel
theorem gdX11_person_70 : decode cX11_person 70 = .ok (.getfield 33, 3) := by decide +kernel
theorem gdX11_person_73 : decode cX11_person 73 = .ok (.iload_n 1, 1) := by decide +kernel
theorem gdX11_person_74 : decode cX11_person 74 = .ok (.invokevirtual 191, 3) := by decide +kernel
theorem gdX11_person_77 : decode cX11_person 77 = .ok (.iconst 1, 1) := by decide +kernel
theorem gdX11_person_78 : decode cX11_person 78 = .ok (.if_icmp .ge 6, 3) := by decide +kernel
theorem gdX11_person_81 : decode cX11_person 81 = .ok (.bipush (-4), 2) := by decide +kernel
theorem gdX11_person_83 : decode cX11_person 83 = .ok (.ireturn, 1) := by decide +kernel
theorem gdX11_person_60 : decode cX11_person 60 = .ok (.bipush (-2), 2) := by decide +kernel
theorem gdX11_person_62 : decode cX11_person 62 = .ok (.ireturn, 1) := by decide +kernel
theorem gdX11_person_19 : decode cX11_person 19 = .ok (.iload_n 2, 1) := by decide +kernel
theorem gdX11_person_20 : decode cX11_person 20 = .ok (.bipush (-9), 2) := by decide +kernel
theorem gdX11_person_22 : decode cX11_person 22 = .ok (.if_icmp .eq 12, 3) := by decide +kernel
theorem gdX11_person_25 : decode cX11_person 25 = .ok (.iload_n 2, 1) := by decide +kernel
theorem gdX11_person_26 : decode cX11_person 26 = .ok (.invokestatic 140, 3) := by decide +kernel
theorem gdX11_person_29 : decode cX11_person 29 = .ok (.ifCond .ne 5, 3) := by decide +kernel
theorem gdX11_person_32 : decode cX11_person 32 = .ok (.iconst (-1), 1) := by decide +kernel
theorem gdX11_person_33 : decode cX11_person 33 = .ok (.ireturn, 1) := by decide +kernel
theorem gdX11_person_0 : decode cX11_person 0 = .ok (.iload_n 1, 1) := by decide +kernel
theorem gdX11_person_1 : decode cX11_person 1 = .ok (.bipush (-9), 2) := by decide +kernel
theorem gdX11_person_3 : decode cX11_person 3 = .ok (.if_icmp .eq 16, 3) := by decide +kernel
theorem gdX11_person_6 : decode cX11_person 6 = .ok (.aload_n 0, 1) := by decide +kernel
theorem gdX11_person_7 : decode cX11_person 7 = .ok (.getfield 33, 3) := by decide +kernel
theorem gdX11_person_10 : decode cX11_person 10 = .ok (.iload_n 1, 1) := by decide +kernel
theorem gdX11_person_11 : decode cX11_person 11 = .ok (.invokevirtual 170, 3) := by decide +kernel
theorem gdX11_person_14 : decode cX11_person 14 = .ok (.ifCond .ne 5, 3) := by decide +kernel
theorem gdX11_person_17 : decode cX11_person 17 = .ok (.iconst (-1), 1) := by decide +kernel
theorem gdX11_person_18 : decode cX11_person 18 = .ok (.ireturn, 1) := by decide +kernel
theorem gdX11_put_0 : decode cX11_put 0 = .ok (.aload_n 0, 1) := by decide +kernel
theorem gdX11_put_1 : decode cX11_put 1 = .ok (.getfield 20, 3) := by decide +kernel
theorem gdX11_put_4 : decode cX11_put 4 = .ok (.iload_n 1, 1) := by decide +kernel
theorem gdX11_put_5 : decode cX11_put 5 = .ok (.invokevirtual 95, 3) := by decide +kernel
theorem gdX11_put_8 : decode cX11_put 8 = .ok (.ifCond .ne 5, 3) := by decide +kernel
theorem gdX11_put_13 : decode cX11_put 13 = .ok (.aload_n 0, 1) := by decide +kernel
theorem gdX11_put_14 : decode cX11_put 14 = .ok (.getfield 20, 3) := by decide +kernel
theorem gdX11_put_17 : decode cX11_put 17 = .ok (.iload_n 1, 1) := by decide +kernel
theorem gdX11_put_18 : decode cX11_put 18 = .ok (.invokevirtual 106, 3) := by decide +kernel
theorem gdX11_put_21 : decode cX11_put 21 = .ok (.ifCond .ne 9, 3) := by decide +kernel
theorem gdX11_put_30 : decode cX11_put 30 = .ok (.aload_n 0, 1) := by decide +kernel
theorem gdX11_put_31 : decode cX11_put 31 = .ok (.getfield 20, 3) := by decide +kernel
theorem gdX11_put_34 : decode cX11_put 34 = .ok (.iload_n 1, 1) := by decide +kernel
theorem gdX11_put_35 : decode cX11_put 35 = .ok (.iload_n 2, 1) := by decide +kernel
theorem gdX11_put_36 : decode cX11_put 36 = .ok (.invokevirtual 109, 3) := by decide +kernel
theorem gdX11_put_39 : decode cX11_put 39 = .ok (.ifCond .ne 9, 3) := by decide +kernel
theorem gdX11_put_48 : decode cX11_put 48 = .ok (.aload_n 0, 1) := by decide +kernel
theorem gdX11_put_49 : decode cX11_put 49 = .ok (.getfield 20, 3) := by decide +kernel
theorem gdX11_put_52 : decode cX11_put 52 = .ok (.iload_n 1, 1) := by decide +kernel
theorem gdX11_put_53 : decode cX11_put 53 = .ok (.iload_n 2, 1) := by decide +kernel
theorem gdX11_put_54 : decode cX11_put 54 = .ok (.iload_n 3, 1) := by decide +kernel
theorem gdX11_put_55 : decode cX11_put 55 = .ok (.i2b, 1) := by decide +kernel
theorem gdX11_put_56 : decode cX11_put 56 = .ok (.invokevirtual 113, 3) := by decide +kernel
theorem gdX11_put_59 : decode cX11_put 59 = .ok (.sipush 1000, 3) := by decide +kernel
theorem gdX11_put_62 : decode cX11_put 62 = .ok (.iadd, 1) := by decide +kernel
theorem gdX11_put_63 : decode cX11_put 63 = .ok (.ireturn, 1) := by decide +kernel
theorem gdX11_put_42 : decode cX11_put 42 = .ok (.aload_n 0, 1) := by decide +kernel
theorem gdX11_put_43 : decode cX11_put 43 = .ok (.iconst 2, 1) := by decide +kernel
theorem gdX11_put_44 : decode cX11_put 44 = .ok (.invokevirtual 99, 3) := by decide +kernel
theorem gdX11_put_47 : decode cX11_put 47 = .ok (.ireturn, 1) := by decide +kernel
theorem gdX11_put_24 : decode cX11_put 24 = .ok (.aload_n 0, 1) := by decide +kernel
theorem gdX11_put_25 : decode cX11_put 25 = .ok (.iconst 1, 1) := by decide +kernel
theorem gdX11_put_26 : decode cX11_put 26 = .ok (.invokevirtual 99, 3) := by decide +kernel
theorem gdX11_put_29 : decode cX11_put 29 = .ok (.ireturn, 1) := by decide +kernel
theorem gdX11_put_11 : decode cX11_put 11 = .ok (.iconst (-1), 1) := by decide +kernel
theorem gdX11_put_12 : decode cX11_put 12 = .ok (.ireturn, 1) := by decide +kernel
theorem gdX4_routeOf_0 : decode cX4_routeOf 0 = .ok (.aload_n 0, 1) := by decide +kernel
theorem gdX4_routeOf_1 : decode cX4_routeOf 1 = .ok (.getfield 21, 3) := by decide +kernel
theorem gdX4_routeOf_4 : decode cX4_routeOf 4 = .ok (.iload_n 1, 1) := by decide +kernel
theorem gdX4_routeOf_5 : decode cX4_routeOf 5 = .ok (.iconst 1, 1) := by decide +kernel
theorem gdX4_routeOf_6 : decode cX4_routeOf 6 = .ok (.iastore, 1) := by decide +kernel
theorem gdX4_routeOf_7 : decode cX4_routeOf 7 = .ok (.aload_n 0, 1) := by decide +kernel
theorem gdX4_routeOf_8 : decode cX4_routeOf 8 = .ok (.getfield 26, 3) := by decide +kernel
theorem gdX4_routeOf_11 : decode cX4_routeOf 11 = .ok (.iload_n 1, 1) := by decide +kernel
theorem gdX4_routeOf_12 : decode cX4_routeOf 12 = .ok (.bipush 64, 2) := by decide +kernel
theorem gdX4_routeOf_14 : decode cX4_routeOf 14 = .ok (.imul, 1) := by decide +kernel
theorem gdX4_routeOf_15 : decode cX4_routeOf 15 = .ok (.iload_n 2, 1) := by decide +kernel
theorem gdX4_routeOf_16 : decode cX4_routeOf 16 = .ok (.iastore, 1) := by decide +kernel
theorem gdX4_routeOf_17 : decode cX4_routeOf 17 = .ok (.aload_n 0, 1) := by decide +kernel
theorem gdX4_routeOf_18 : decode cX4_routeOf 18 = .ok (.getfield 29, 3) := by decide +kernel
theorem gdX4_routeOf_21 : decode cX4_routeOf 21 = .ok (.iload_n 1, 1) := by decide +kernel
theorem gdX4_routeOf_22 : decode cX4_routeOf 22 = .ok (.iload_n 2, 1) := by decide +kernel
theorem gdX4_routeOf_23 : decode cX4_routeOf 23 = .ok (.invokestatic 58, 3) := by decide +kernel
theorem gdX4_routeOf_26 : decode cX4_routeOf 26 = .ok (.lastore, 1) := by decide +kernel
theorem gdX4_routeOf_27 : decode cX4_routeOf 27 = .ok (.return_, 1) := by decide +kernel
theorem gdX11_ramp_18 : decode cX11_ramp 18 = .ok (.iconst (-1), 1) := by decide +kernel
theorem gdX11_ramp_19 : decode cX11_ramp 19 = .ok (.ireturn, 1) := by decide +kernel
theorem gdX11_ramp_104 : decode cX11_ramp 104 = .ok (.bipush (-4), 2) := by decide +kernel
theorem gdX11_ramp_106 : decode cX11_ramp 106 = .ok (.ireturn, 1) := by decide +kernel
theorem gdX11_ramp_86 : decode cX11_ramp 86 = .ok (.istore 5, 2) := by decide +kernel
theorem gdX11_ramp_88 : decode cX11_ramp 88 = .ok (.aload_n 0, 1) := by decide +kernel
theorem gdX11_ramp_89 : decode cX11_ramp 89 = .ok (.getfield 26, 3) := by decide +kernel
theorem gdX11_ramp_92 : decode cX11_ramp 92 = .ok (.iload_n 2, 1) := by decide +kernel
theorem gdX11_ramp_93 : decode cX11_ramp 93 = .ok (.invokevirtual 163, 3) := by decide +kernel
theorem gdX11_ramp_96 : decode cX11_ramp 96 = .ok (.ifCond .ne 8, 3) := by decide +kernel
theorem gdX11_ramp_99 : decode cX11_ramp 99 = .ok (.iload 5, 2) := by decide +kernel
theorem gdX11_ramp_101 : decode cX11_ramp 101 = .ok (.ifCond .ne 6, 3) := by decide +kernel
theorem gdX11_ramp_107 : decode cX11_ramp 107 = .ok (.aload_n 0, 1) := by decide +kernel
theorem gdX11_ramp_108 : decode cX11_ramp 108 = .ok (.getfield 52, 3) := by decide +kernel
theorem gdX11_ramp_111 : decode cX11_ramp 111 = .ok (.iconst 2, 1) := by decide +kernel
theorem gdX11_ramp_112 : decode cX11_ramp 112 = .ok (.aload_n 0, 1) := by decide +kernel
theorem gdX11_ramp_113 : decode cX11_ramp 113 = .ok (.getfield 136, 3) := by decide +kernel
theorem gdX11_ramp_116 : decode cX11_ramp 116 = .ok (.iload_n 1, 1) := by decide +kernel
theorem gdX11_ramp_117 : decode cX11_ramp 117 = .ok (.invokevirtual 235, 3) := by decide +kernel
theorem gdX11_ramp_120 : decode cX11_ramp 120 = .ok (.istore 6, 2) := by decide +kernel
theorem gdX11_ramp_122 : decode cX11_ramp 122 = .ok (.aload_n 0, 1) := by decide +kernel
theorem gdX11_ramp_123 : decode cX11_ramp 123 = .ok (.getfield 52, 3) := by decide +kernel
theorem gdX11_ramp_126 : decode cX11_ramp 126 = .ok (.iload 6, 2) := by decide +kernel
theorem gdX11_ramp_128 : decode cX11_ramp 128 = .ok (.iload_n 2, 1) := by decide +kernel
theorem gdX11_ramp_129 : decode cX11_ramp 129 = .ok (.invokevirtual 266, 3) := by decide +kernel
theorem gdX11_ramp_132 : decode cX11_ramp 132 = .ok (.iload 6, 2) := by decide +kernel
theorem gdX11_ramp_134 : decode cX11_ramp 134 = .ok (.ireturn, 1) := by decide +kernel
theorem gdX11_ramp_85 : decode cX11_ramp 85 = .ok (.iconst 0, 1) := by decide +kernel
theorem gdX11_ramp_0 : decode cX11_ramp 0 = .ok (.aload_n 0, 1) := by decide +kernel
theorem gdX11_ramp_1 : decode cX11_ramp 1 = .ok (.getfield 52, 3) := by decide +kernel
theorem gdX11_ramp_4 : decode cX11_ramp 4 = .ok (.iload_n 1, 1) := by decide +kernel
theorem gdX11_ramp_5 : decode cX11_ramp 5 = .ok (.invokevirtual 250, 3) := by decide +kernel
theorem gdX11_ramp_8 : decode cX11_ramp 8 = .ok (.ifCond .eq 10, 3) := by decide +kernel
theorem gdX11_ramp_11 : decode cX11_ramp 11 = .ok (.iload_n 2, 1) := by decide +kernel
theorem gdX11_ramp_12 : decode cX11_ramp 12 = .ok (.invokestatic 140, 3) := by decide +kernel
theorem gdX11_ramp_15 : decode cX11_ramp 15 = .ok (.ifCond .ne 5, 3) := by decide +kernel
theorem gdX11_ramp_20 : decode cX11_ramp 20 = .ok (.aload_n 0, 1) := by decide +kernel
theorem gdX11_ramp_21 : decode cX11_ramp 21 = .ok (.getfield 52, 3) := by decide +kernel
theorem gdX11_ramp_24 : decode cX11_ramp 24 = .ok (.invokevirtual 218, 3) := by decide +kernel
theorem gdX11_ramp_27 : decode cX11_ramp 27 = .ok (.bipush 24, 2) := by decide +kernel
theorem gdX11_ramp_29 : decode cX11_ramp 29 = .ok (.if_icmp .lt 6, 3) := by decide +kernel
theorem gdX11_ramp_35 : decode cX11_ramp 35 = .ok (.aload_n 0, 1) := by decide +kernel
theorem gdX11_ramp_36 : decode cX11_ramp 36 = .ok (.getfield 52, 3) := by decide +kernel
theorem gdX11_ramp_39 : decode cX11_ramp 39 = .ok (.iload_n 1, 1) := by decide +kernel
theorem gdX11_ramp_40 : decode cX11_ramp 40 = .ok (.iconst 1, 1) := by decide +kernel
theorem gdX11_ramp_41 : decode cX11_ramp 41 = .ok (.invokevirtual 251, 3) := by decide +kernel
theorem gdX11_ramp_44 : decode cX11_ramp 44 = .ok (.ifCond .ne 9, 3) := by decide +kernel
theorem gdX11_ramp_53 : decode cX11_ramp 53 = .ok (.aload_n 0, 1) := by decide +kernel
theorem gdX11_ramp_54 : decode cX11_ramp 54 = .ok (.getfield 52, 3) := by decide +kernel
theorem gdX11_ramp_57 : decode cX11_ramp 57 = .ok (.iload_n 1, 1) := by decide +kernel
theorem gdX11_ramp_58 : decode cX11_ramp 58 = .ok (.invokevirtual 254, 3) := by decide +kernel
theorem gdX11_ramp_61 : decode cX11_ramp 61 = .ok (.lstore_n 3, 1) := by decide +kernel
theorem gdX11_ramp_62 : decode cX11_ramp 62 = .ok (.lload_n 3, 1) := by decide +kernel
theorem gdX11_ramp_63 : decode cX11_ramp 63 = .ok (.invokestatic 258, 3) := by decide +kernel
theorem gdX11_ramp_66 : decode cX11_ramp 66 = .ok (.iload_n 2, 1) := by decide +kernel
theorem gdX11_ramp_67 : decode cX11_ramp 67 = .ok (.invokestatic 262, 3) := by decide +kernel
theorem gdX11_ramp_70 : decode cX11_ramp 70 = .ok (.ifCond .eq 15, 3) := by decide +kernel
theorem gdX11_ramp_73 : decode cX11_ramp 73 = .ok (.lload_n 3, 1) := by decide +kernel
theorem gdX11_ramp_74 : decode cX11_ramp 74 = .ok (.iload_n 2, 1) := by decide +kernel
theorem gdX11_ramp_75 : decode cX11_ramp 75 = .ok (.invokestatic 262, 3) := by decide +kernel
theorem gdX11_ramp_78 : decode cX11_ramp 78 = .ok (.ifCond .ne 7, 3) := by decide +kernel
theorem gdX11_ramp_81 : decode cX11_ramp 81 = .ok (.iconst 1, 1) := by decide +kernel
theorem gdX11_ramp_82 : decode cX11_ramp 82 = .ok (.goto 4, 3) := by decide +kernel
theorem gdX11_ramp_47 : decode cX11_ramp 47 = .ok (.aload_n 0, 1) := by decide +kernel
theorem gdX11_ramp_48 : decode cX11_ramp 48 = .ok (.iconst 3, 1) := by decide +kernel
theorem gdX11_ramp_49 : decode cX11_ramp 49 = .ok (.invokevirtual 99, 3) := by decide +kernel
theorem gdX11_ramp_52 : decode cX11_ramp 52 = .ok (.ireturn, 1) := by decide +kernel
theorem gdX11_ramp_32 : decode cX11_ramp 32 = .ok (.bipush (-2), 2) := by decide +kernel
theorem gdX11_ramp_34 : decode cX11_ramp 34 = .ok (.ireturn, 1) := by decide +kernel
theorem gdJ7_rangeCheck_23922_0 : decode cJ7_rangeCheck_23922 0 = .ok (.iload_n 1, 1) := by decide +kernel
theorem gdJ7_rangeCheck_23922_1 : decode cJ7_rangeCheck_23922 1 = .ok (.iload_n 2, 1) := by decide +kernel
theorem gdJ7_rangeCheck_23922_2 : decode cJ7_rangeCheck_23922 2 = .ok (.if_icmp .le 44, 3) := by decide +kernel
theorem gdJ7_rangeCheck_23922_46 : decode cJ7_rangeCheck_23922 46 = .ok (.iload_n 1, 1) := by decide +kernel
theorem gdJ7_rangeCheck_23922_47 : decode cJ7_rangeCheck_23922 47 = .ok (.ifCond .ge 12, 3) := by decide +kernel
theorem gdJ7_rangeCheck_23922_59 : decode cJ7_rangeCheck_23922 59 = .ok (.iload_n 2, 1) := by decide +kernel
theorem gdJ7_rangeCheck_23922_60 : decode cJ7_rangeCheck_23922 60 = .ok (.iload_n 0, 1) := by decide +kernel
theorem gdJ7_rangeCheck_23922_61 : decode cJ7_rangeCheck_23922 61 = .ok (.if_icmp .le 12, 3) := by decide +kernel
theorem gdJ7_rangeCheck_23922_73 : decode cJ7_rangeCheck_23922 73 = .ok (.return_, 1) := by decide +kernel
theorem gdJ7_rangeCheck_23922_64 : decode cJ7_rangeCheck_23922 64 = .ok (.new 68, 3) := by decide +kernel
theorem gdJ7_rangeCheck_23922_50 : decode cJ7_rangeCheck_23922 50 = .ok (.new 68, 3) := by decide +kernel
theorem gdJ7_rangeCheck_23922_5 : decode cJ7_rangeCheck_23922 5 = .ok (.new 43, 3) := by decide +kernel
theorem gdJ7_fill_fda19_27 : decode cJ7_fill_fda19 27 = .ok (.return_, 1) := by decide +kernel
theorem gdJ7_fill_fda19_10 : decode cJ7_fill_fda19 10 = .ok (.iload 4, 2) := by decide +kernel
theorem gdJ7_fill_fda19_12 : decode cJ7_fill_fda19 12 = .ok (.iload_n 2, 1) := by decide +kernel
theorem gdJ7_fill_fda19_13 : decode cJ7_fill_fda19 13 = .ok (.if_icmp .ge 14, 3) := by decide +kernel
theorem gdJ7_fill_fda19_16 : decode cJ7_fill_fda19 16 = .ok (.aload_n 0, 1) := by decide +kernel
theorem gdJ7_fill_fda19_17 : decode cJ7_fill_fda19 17 = .ok (.iload 4, 2) := by decide +kernel
theorem gdJ7_fill_fda19_19 : decode cJ7_fill_fda19 19 = .ok (.iload_n 3, 1) := by decide +kernel
theorem gdJ7_fill_fda19_20 : decode cJ7_fill_fda19 20 = .ok (.iastore, 1) := by decide +kernel
theorem gdJ7_fill_fda19_21 : decode cJ7_fill_fda19 21 = .ok (.iinc 4 1, 3) := by decide +kernel
theorem gdJ7_fill_fda19_24 : decode cJ7_fill_fda19 24 = .ok (.goto (-14), 3) := by decide +kernel
theorem gdJ7_fill_fda19_0 : decode cJ7_fill_fda19 0 = .ok (.aload_n 0, 1) := by decide +kernel
theorem gdJ7_fill_fda19_1 : decode cJ7_fill_fda19 1 = .ok (.arraylength, 1) := by decide +kernel
theorem gdJ7_fill_fda19_2 : decode cJ7_fill_fda19 2 = .ok (.iload_n 1, 1) := by decide +kernel
theorem gdJ7_fill_fda19_3 : decode cJ7_fill_fda19 3 = .ok (.iload_n 2, 1) := by decide +kernel
theorem gdJ7_fill_fda19_4 : decode cJ7_fill_fda19 4 = .ok (.invokestatic 13, 3) := by decide +kernel
theorem gdJ7_fill_fda19_7 : decode cJ7_fill_fda19 7 = .ok (.iload_n 1, 1) := by decide +kernel
theorem gdJ7_fill_fda19_8 : decode cJ7_fill_fda19 8 = .ok (.istore 4, 2) := by decide +kernel
theorem gdX8_layOut_0 : decode cX8_layOut 0 = .ok (.aload_n 0, 1) := by decide +kernel
theorem gdX8_layOut_1 : decode cX8_layOut 1 = .ok (.getfield 9, 3) := by decide +kernel
theorem gdX8_layOut_4 : decode cX8_layOut 4 = .ok (.iload_n 1, 1) := by decide +kernel
theorem gdX8_layOut_5 : decode cX8_layOut 5 = .ok (.iload_n 2, 1) := by decide +kernel
theorem gdX8_layOut_6 : decode cX8_layOut 6 = .ok (.iastore, 1) := by decide +kernel
theorem gdX8_layOut_7 : decode cX8_layOut 7 = .ok (.aload_n 0, 1) := by decide +kernel
theorem gdX8_layOut_8 : decode cX8_layOut 8 = .ok (.getfield 13, 3) := by decide +kernel
theorem gdX8_layOut_11 : decode cX8_layOut 11 = .ok (.iload_n 1, 1) := by decide +kernel
theorem gdX8_layOut_12 : decode cX8_layOut 12 = .ok (.bipush 40, 2) := by decide +kernel
theorem gdX8_layOut_14 : decode cX8_layOut 14 = .ok (.imul, 1) := by decide +kernel
theorem gdX8_layOut_15 : decode cX8_layOut 15 = .ok (.iload_n 1, 1) := by decide +kernel
theorem gdX8_layOut_16 : decode cX8_layOut 16 = .ok (.bipush 40, 2) := by decide +kernel
theorem gdX8_layOut_18 : decode cX8_layOut 18 = .ok (.imul, 1) := by decide +kernel
theorem gdX8_layOut_19 : decode cX8_layOut 19 = .ok (.iload_n 2, 1) := by decide +kernel
theorem gdX8_layOut_20 : decode cX8_layOut 20 = .ok (.iadd, 1) := by decide +kernel
theorem gdX8_layOut_21 : decode cX8_layOut 21 = .ok (.aload_n 0, 1) := by decide +kernel
theorem gdX8_layOut_22 : decode cX8_layOut 22 = .ok (.getfield 26, 3) := by decide +kernel
theorem gdX8_layOut_25 : decode cX8_layOut 25 = .ok (.invokestatic 35, 3) := by decide +kernel
theorem gdX8_layOut_28 : decode cX8_layOut 28 = .ok (.return_, 1) := by decide +kernel
theorem gdX11_row_17 : decode cX11_row 17 = .ok (.iconst (-1), 1) := by decide +kernel
theorem gdX11_row_18 : decode cX11_row 18 = .ok (.ireturn, 1) := by decide +kernel
theorem gdX11_row_0 : decode cX11_row 0 = .ok (.aload_n 0, 1) := by decide +kernel
theorem gdX11_row_1 : decode cX11_row 1 = .ok (.getfield 12, 3) := by decide +kernel
theorem gdX11_row_4 : decode cX11_row 4 = .ok (.iload_n 1, 1) := by decide +kernel
theorem gdX11_row_5 : decode cX11_row 5 = .ok (.invokevirtual 95, 3) := by decide +kernel
theorem gdX11_row_8 : decode cX11_row 8 = .ok (.ifCond .eq 9, 3) := by decide +kernel
theorem gdX11_row_11 : decode cX11_row 11 = .ok (.iload_n 2, 1) := by decide +kernel
theorem gdX11_row_12 : decode cX11_row 12 = .ok (.bipush 40, 2) := by decide +kernel
theorem gdX11_row_14 : decode cX11_row 14 = .ok (.if_icmp .le 5, 3) := by decide +kernel
theorem gdX11_row_19 : decode cX11_row 19 = .ok (.iload_n 2, 1) := by decide +kernel
theorem gdX11_row_20 : decode cX11_row 20 = .ok (.ifCond .ge 9, 3) := by decide +kernel
theorem gdX11_row_29 : decode cX11_row 29 = .ok (.aload_n 0, 1) := by decide +kernel
theorem gdX11_row_30 : decode cX11_row 30 = .ok (.getfield 12, 3) := by decide +kernel
theorem gdX11_row_33 : decode cX11_row 33 = .ok (.iload_n 1, 1) := by decide +kernel
theorem gdX11_row_34 : decode cX11_row 34 = .ok (.iload_n 2, 1) := by decide +kernel
theorem gdX11_row_35 : decode cX11_row 35 = .ok (.invokevirtual 103, 3) := by decide +kernel
theorem gdX11_row_38 : decode cX11_row 38 = .ok (.iload_n 2, 1) := by decide +kernel
theorem gdX11_row_39 : decode cX11_row 39 = .ok (.ireturn, 1) := by decide +kernel
theorem gdX11_row_23 : decode cX11_row 23 = .ok (.aload_n 0, 1) := by decide +kernel
theorem gdX11_row_24 : decode cX11_row 24 = .ok (.iconst 5, 1) := by decide +kernel
theorem gdX11_row_25 : decode cX11_row 25 = .ok (.invokevirtual 99, 3) := by decide +kernel
theorem gdX11_row_28 : decode cX11_row 28 = .ok (.ireturn, 1) := by decide +kernel
theorem gdX7_numberAt_38 : decode cX7_numberAt 38 = .ok (.iload 4, 2) := by decide +kernel
theorem gdX7_numberAt_40 : decode cX7_numberAt 40 = .ok (.ireturn, 1) := by decide +kernel
theorem gdX7_numberAt_6 : decode cX7_numberAt 6 = .ok (.iload 5, 2) := by decide +kernel
theorem gdX7_numberAt_8 : decode cX7_numberAt 8 = .ok (.iload_n 2, 1) := by decide +kernel
theorem gdX7_numberAt_9 : decode cX7_numberAt 9 = .ok (.iload_n 3, 1) := by decide +kernel
theorem gdX7_numberAt_10 : decode cX7_numberAt 10 = .ok (.iadd, 1) := by decide +kernel
theorem gdX7_numberAt_11 : decode cX7_numberAt 11 = .ok (.if_icmp .ge 27, 3) := by decide +kernel
theorem gdX7_numberAt_14 : decode cX7_numberAt 14 = .ok (.bipush 10, 2) := by decide +kernel
theorem gdX7_numberAt_16 : decode cX7_numberAt 16 = .ok (.iload 4, 2) := by decide +kernel
theorem gdX7_numberAt_18 : decode cX7_numberAt 18 = .ok (.imul, 1) := by decide +kernel
theorem gdX7_numberAt_19 : decode cX7_numberAt 19 = .ok (.aload_n 0, 1) := by decide +kernel
theorem gdX7_numberAt_20 : decode cX7_numberAt 20 = .ok (.iload_n 1, 1) := by decide +kernel
theorem gdX7_numberAt_21 : decode cX7_numberAt 21 = .ok (.iload 5, 2) := by decide +kernel
theorem gdX7_numberAt_23 : decode cX7_numberAt 23 = .ok (.invokevirtual 34, 3) := by decide +kernel
theorem gdX7_numberAt_26 : decode cX7_numberAt 26 = .ok (.iadd, 1) := by decide +kernel
theorem gdX7_numberAt_27 : decode cX7_numberAt 27 = .ok (.bipush 48, 2) := by decide +kernel
theorem gdX7_numberAt_29 : decode cX7_numberAt 29 = .ok (.isub, 1) := by decide +kernel
theorem gdX7_numberAt_30 : decode cX7_numberAt 30 = .ok (.istore 4, 2) := by decide +kernel
theorem gdX7_numberAt_32 : decode cX7_numberAt 32 = .ok (.iinc 5 1, 3) := by decide +kernel
theorem gdX7_numberAt_35 : decode cX7_numberAt 35 = .ok (.goto (-29), 3) := by decide +kernel
theorem gdX7_numberAt_0 : decode cX7_numberAt 0 = .ok (.iconst 0, 1) := by decide +kernel
theorem gdX7_numberAt_1 : decode cX7_numberAt 1 = .ok (.istore 4, 2) := by decide +kernel
theorem gdX7_numberAt_3 : decode cX7_numberAt 3 = .ok (.iload_n 2, 1) := by decide +kernel
theorem gdX7_numberAt_4 : decode cX7_numberAt 4 = .ok (.istore 5, 2) := by decide +kernel
theorem gdX7_add_125 : decode cX7_add 125 = .ok (.iload 5, 2) := by decide +kernel
theorem gdX7_add_127 : decode cX7_add 127 = .ok (.ireturn, 1) := by decide +kernel
theorem gdX7_add_119 : decode cX7_add 119 = .ok (.iinc 6 1, 3) := by decide +kernel
theorem gdX7_add_122 : decode cX7_add 122 = .ok (.goto (-66), 3) := by decide +kernel
theorem gdX7_add_56 : decode cX7_add 56 = .ok (.iload 6, 2) := by decide +kernel
theorem gdX7_add_58 : decode cX7_add 58 = .ok (.aload_n 1, 1) := by decide +kernel
theorem gdX7_add_59 : decode cX7_add 59 = .ok (.iload_n 2, 1) := by decide +kernel
theorem gdX7_add_60 : decode cX7_add 60 = .ok (.invokevirtual 42, 3) := by decide +kernel
theorem gdX7_add_63 : decode cX7_add 63 = .ok (.if_icmp .ge 62, 3) := by decide +kernel
theorem gdX7_add_66 : decode cX7_add 66 = .ok (.aload_n 1, 1) := by decide +kernel
theorem gdX7_add_67 : decode cX7_add 67 = .ok (.iload_n 2, 1) := by decide +kernel
theorem gdX7_add_68 : decode cX7_add 68 = .ok (.iload 6, 2) := by decide +kernel
theorem gdX7_add_70 : decode cX7_add 70 = .ok (.invokevirtual 34, 3) := by decide +kernel
theorem gdX7_add_73 : decode cX7_add 73 = .ok (.invokestatic 46, 3) := by decide +kernel
theorem gdX7_add_76 : decode cX7_add 76 = .ok (.istore 7, 2) := by decide +kernel
theorem gdX7_add_78 : decode cX7_add 78 = .ok (.iload 7, 2) := by decide +kernel
theorem gdX7_add_80 : decode cX7_add 80 = .ok (.bipush (-9), 2) := by decide +kernel
theorem gdX7_add_82 : decode cX7_add 82 = .ok (.if_icmp .ne 6, 3) := by decide +kernel
theorem gdX7_add_88 : decode cX7_add 88 = .ok (.aload_n 0, 1) := by decide +kernel
theorem gdX7_add_89 : decode cX7_add 89 = .ok (.getfield 18, 3) := by decide +kernel
theorem gdX7_add_92 : decode cX7_add 92 = .ok (.iload 5, 2) := by decide +kernel
theorem gdX7_add_94 : decode cX7_add 94 = .ok (.bipush 8, 2) := by decide +kernel
theorem gdX7_add_96 : decode cX7_add 96 = .ok (.imul, 1) := by decide +kernel
theorem gdX7_add_97 : decode cX7_add 97 = .ok (.iload 7, 2) := by decide +kernel
theorem gdX7_add_99 : decode cX7_add 99 = .ok (.iadd, 1) := by decide +kernel
theorem gdX7_add_100 : decode cX7_add 100 = .ok (.aload_n 1, 1) := by decide +kernel
theorem gdX7_add_101 : decode cX7_add 101 = .ok (.iload_n 2, 1) := by decide +kernel
theorem gdX7_add_102 : decode cX7_add 102 = .ok (.iload 6, 2) := by decide +kernel
theorem gdX7_add_104 : decode cX7_add 104 = .ok (.iconst 1, 1) := by decide +kernel
theorem gdX7_add_105 : decode cX7_add 105 = .ok (.iadd, 1) := by decide +kernel
theorem gdX7_add_106 : decode cX7_add 106 = .ok (.aload_n 1, 1) := by decide +kernel
theorem gdX7_add_107 : decode cX7_add 107 = .ok (.iload_n 2, 1) := by decide +kernel
theorem gdX7_add_108 : decode cX7_add 108 = .ok (.iload 6, 2) := by decide +kernel
theorem gdX7_add_110 : decode cX7_add 110 = .ok (.iconst 1, 1) := by decide +kernel
theorem gdX7_add_111 : decode cX7_add 111 = .ok (.iadd, 1) := by decide +kernel
theorem gdX7_add_112 : decode cX7_add 112 = .ok (.invokestatic 49, 3) := by decide +kernel
theorem gdX7_add_115 : decode cX7_add 115 = .ok (.invokestatic 59, 3) := by decide +kernel
theorem gdX7_add_118 : decode cX7_add 118 = .ok (.iastore, 1) := by decide +kernel
theorem gdX7_add_85 : decode cX7_add 85 = .ok (.goto 34, 3) := by decide +kernel
theorem gdX7_add_0 : decode cX7_add 0 = .ok (.aload_n 0, 1) := by decide +kernel
theorem gdX7_add_1 : decode cX7_add 1 = .ok (.getfield 21, 3) := by decide +kernel
theorem gdX7_add_4 : decode cX7_add 4 = .ok (.istore 5, 2) := by decide +kernel
theorem gdX7_add_6 : decode cX7_add 6 = .ok (.aload_n 0, 1) := by decide +kernel
theorem gdX7_add_7 : decode cX7_add 7 = .ok (.dup, 1) := by decide +kernel
theorem gdX7_add_8 : decode cX7_add 8 = .ok (.getfield 21, 3) := by decide +kernel
theorem gdX7_add_11 : decode cX7_add 11 = .ok (.iconst 1, 1) := by decide +kernel
theorem gdX7_add_12 : decode cX7_add 12 = .ok (.iadd, 1) := by decide +kernel
theorem gdX7_add_13 : decode cX7_add 13 = .ok (.putfield 21, 3) := by decide +kernel
theorem gdX7_add_16 : decode cX7_add 16 = .ok (.aload_n 0, 1) := by decide +kernel
theorem gdX7_add_17 : decode cX7_add 17 = .ok (.getfield 11, 3) := by decide +kernel
theorem gdX7_add_20 : decode cX7_add 20 = .ok (.iload 5, 2) := by decide +kernel
theorem gdX7_add_22 : decode cX7_add 22 = .ok (.iload_n 3, 1) := by decide +kernel
theorem gdX7_add_23 : decode cX7_add 23 = .ok (.iastore, 1) := by decide +kernel
theorem gdX7_add_24 : decode cX7_add 24 = .ok (.aload_n 0, 1) := by decide +kernel
theorem gdX7_add_25 : decode cX7_add 25 = .ok (.getfield 15, 3) := by decide +kernel
theorem gdX7_add_28 : decode cX7_add 28 = .ok (.iload 5, 2) := by decide +kernel
theorem gdX7_add_30 : decode cX7_add 30 = .ok (.iload 4, 2) := by decide +kernel
theorem gdX7_add_32 : decode cX7_add 32 = .ok (.iastore, 1) := by decide +kernel
theorem gdX7_add_33 : decode cX7_add 33 = .ok (.aload_n 0, 1) := by decide +kernel
theorem gdX7_add_34 : decode cX7_add 34 = .ok (.getfield 18, 3) := by decide +kernel
theorem gdX7_add_37 : decode cX7_add 37 = .ok (.iload 5, 2) := by decide +kernel
theorem gdX7_add_39 : decode cX7_add 39 = .ok (.bipush 8, 2) := by decide +kernel
theorem gdX7_add_41 : decode cX7_add 41 = .ok (.imul, 1) := by decide +kernel
theorem gdX7_add_42 : decode cX7_add 42 = .ok (.iload 5, 2) := by decide +kernel
theorem gdX7_add_44 : decode cX7_add 44 = .ok (.iconst 1, 1) := by decide +kernel
theorem gdX7_add_45 : decode cX7_add 45 = .ok (.iadd, 1) := by decide +kernel
theorem gdX7_add_46 : decode cX7_add 46 = .ok (.bipush 8, 2) := by decide +kernel
theorem gdX7_add_48 : decode cX7_add 48 = .ok (.imul, 1) := by decide +kernel
theorem gdX7_add_49 : decode cX7_add 49 = .ok (.iconst (-1), 1) := by decide +kernel
theorem gdX7_add_50 : decode cX7_add 50 = .ok (.invokestatic 53, 3) := by decide +kernel
theorem gdX7_add_53 : decode cX7_add 53 = .ok (.iconst 0, 1) := by decide +kernel
theorem gdX7_add_54 : decode cX7_add 54 = .ok (.istore 6, 2) := by decide +kernel
theorem gdX11_rule_18 : decode cX11_rule 18 = .ok (.iconst (-1), 1) := by decide +kernel
theorem gdX11_rule_19 : decode cX11_rule 19 = .ok (.ireturn, 1) := by decide +kernel
theorem gdX11_rule_0 : decode cX11_rule 0 = .ok (.aload_n 0, 1) := by decide +kernel
theorem gdX11_rule_1 : decode cX11_rule 1 = .ok (.getfield 20, 3) := by decide +kernel
theorem gdX11_rule_4 : decode cX11_rule 4 = .ok (.iload_n 1, 1) := by decide +kernel
theorem gdX11_rule_5 : decode cX11_rule 5 = .ok (.invokevirtual 95, 3) := by decide +kernel
theorem gdX11_rule_8 : decode cX11_rule 8 = .ok (.ifCond .eq 10, 3) := by decide +kernel
theorem gdX11_rule_11 : decode cX11_rule 11 = .ok (.iload_n 2, 1) := by decide +kernel
theorem gdX11_rule_12 : decode cX11_rule 12 = .ok (.invokestatic 180, 3) := by decide +kernel
theorem gdX11_rule_15 : decode cX11_rule 15 = .ok (.ifCond .ne 5, 3) := by decide +kernel
theorem gdX11_rule_20 : decode cX11_rule 20 = .ok (.aload_n 0, 1) := by decide +kernel
theorem gdX11_rule_21 : decode cX11_rule 21 = .ok (.getfield 45, 3) := by decide +kernel
theorem gdX11_rule_24 : decode cX11_rule 24 = .ok (.invokevirtual 205, 3) := by decide +kernel
theorem gdX11_rule_27 : decode cX11_rule 27 = .ok (.bipush 16, 2) := by decide +kernel
theorem gdX11_rule_29 : decode cX11_rule 29 = .ok (.if_icmp .lt 6, 3) := by decide +kernel
theorem gdX11_rule_35 : decode cX11_rule 35 = .ok (.aload_n 0, 1) := by decide +kernel
theorem gdX11_rule_36 : decode cX11_rule 36 = .ok (.getfield 20, 3) := by decide +kernel
theorem gdX11_rule_39 : decode cX11_rule 39 = .ok (.iload_n 1, 1) := by decide +kernel
theorem gdX11_rule_40 : decode cX11_rule 40 = .ok (.invokevirtual 106, 3) := by decide +kernel
theorem gdX11_rule_43 : decode cX11_rule 43 = .ok (.ifCond .ne 9, 3) := by decide +kernel
theorem gdX11_rule_52 : decode cX11_rule 52 = .ok (.aload_n 0, 1) := by decide +kernel
theorem gdX11_rule_53 : decode cX11_rule 53 = .ok (.getfield 20, 3) := by decide +kernel
theorem gdX11_rule_56 : decode cX11_rule 56 = .ok (.iload_n 1, 1) := by decide +kernel
theorem gdX11_rule_57 : decode cX11_rule 57 = .ok (.invokestatic 132, 3) := by decide +kernel
theorem gdX11_rule_60 : decode cX11_rule 60 = .ok (.bipush (-9), 2) := by decide +kernel
theorem gdX11_rule_62 : decode cX11_rule 62 = .ok (.if_icmp .eq 6, 3) := by decide +kernel
theorem gdX11_rule_68 : decode cX11_rule 68 = .ok (.aload_n 0, 1) := by decide +kernel
theorem gdX11_rule_69 : decode cX11_rule 69 = .ok (.getfield 45, 3) := by decide +kernel
theorem gdX11_rule_72 : decode cX11_rule 72 = .ok (.aload_n 0, 1) := by decide +kernel
theorem gdX11_rule_73 : decode cX11_rule 73 = .ok (.getfield 20, 3) := by decide +kernel
theorem gdX11_rule_76 : decode cX11_rule 76 = .ok (.iload_n 1, 1) := by decide +kernel
theorem gdX11_rule_77 : decode cX11_rule 77 = .ok (.aload_n 0, 1) := by decide +kernel
theorem gdX11_rule_78 : decode cX11_rule 78 = .ok (.getfield 136, 3) := by decide +kernel
theorem gdX11_rule_81 : decode cX11_rule 81 = .ok (.iload_n 2, 1) := by decide +kernel
theorem gdX11_rule_82 : decode cX11_rule 82 = .ok (.invokevirtual 206, 3) := by decide +kernel
theorem gdX11_rule_85 : decode cX11_rule 85 = .ok (.ireturn, 1) := by decide +kernel
theorem gdX11_rule_65 : decode cX11_rule 65 = .ok (.bipush (-4), 2) := by decide +kernel
theorem gdX11_rule_67 : decode cX11_rule 67 = .ok (.ireturn, 1) := by decide +kernel
theorem gdX11_rule_46 : decode cX11_rule 46 = .ok (.aload_n 0, 1) := by decide +kernel
theorem gdX11_rule_47 : decode cX11_rule 47 = .ok (.iconst 1, 1) := by decide +kernel
theorem gdX11_rule_48 : decode cX11_rule 48 = .ok (.invokevirtual 99, 3) := by decide +kernel
theorem gdX11_rule_51 : decode cX11_rule 51 = .ok (.ireturn, 1) := by decide +kernel
theorem gdX11_rule_32 : decode cX11_rule 32 = .ok (.bipush (-2), 2) := by decide +kernel
theorem gdX11_rule_34 : decode cX11_rule 34 = .ok (.ireturn, 1) := by decide +kernel
theorem gdX11_set_0 : decode cX11_set 0 = .ok (.aload_n 0, 1) := by decide +kernel
theorem gdX11_set_1 : decode cX11_set 1 = .ok (.getfield 337, 3) := by decide +kernel
theorem gdX11_set_4 : decode cX11_set 4 = .ok (.lreturn, 1) := by decide +kernel
theorem gdX3_around_0 : decode cX3_around 0 = .ok (.lload_n 0, 1) := by decide +kernel
theorem gdX3_around_1 : decode cX3_around 1 = .ok (.invokestatic 24, 3) := by decide +kernel
theorem gdX3_around_4 : decode cX3_around 4 = .ok (.invokestatic 24, 3) := by decide +kernel
theorem gdX3_around_7 : decode cX3_around 7 = .ok (.lstore_n 2, 1) := by decide +kernel
theorem gdX3_around_8 : decode cX3_around 8 = .ok (.lload_n 2, 1) := by decide +kernel
theorem gdX3_around_9 : decode cX3_around 9 = .ok (.lload_n 2, 1) := by decide +kernel
theorem gdX3_around_10 : decode cX3_around 10 = .ok (.bipush 8, 2) := by decide +kernel
theorem gdX3_around_12 : decode cX3_around 12 = .ok (.lushr, 1) := by decide +kernel
theorem gdX3_around_13 : decode cX3_around 13 = .ok (.lor, 1) := by decide +kernel
theorem gdX3_around_14 : decode cX3_around 14 = .ok (.lload_n 2, 1) := by decide +kernel
theorem gdX3_around_15 : decode cX3_around 15 = .ok (.bipush 16, 2) := by decide +kernel
theorem gdX3_around_17 : decode cX3_around 17 = .ok (.lushr, 1) := by decide +kernel
theorem gdX3_around_18 : decode cX3_around 18 = .ok (.lor, 1) := by decide +kernel
theorem gdX3_around_19 : decode cX3_around 19 = .ok (.lload_n 2, 1) := by decide +kernel
theorem gdX3_around_20 : decode cX3_around 20 = .ok (.bipush 8, 2) := by decide +kernel
theorem gdX3_around_22 : decode cX3_around 22 = .ok (.lshl, 1) := by decide +kernel
theorem gdX3_around_23 : decode cX3_around 23 = .ok (.lor, 1) := by decide +kernel
theorem gdX3_around_24 : decode cX3_around 24 = .ok (.lload_n 2, 1) := by decide +kernel
theorem gdX3_around_25 : decode cX3_around 25 = .ok (.bipush 16, 2) := by decide +kernel
theorem gdX3_around_27 : decode cX3_around 27 = .ok (.lshl, 1) := by decide +kernel
theorem gdX3_around_28 : decode cX3_around 28 = .ok (.lor, 1) := by decide +kernel
theorem gdX3_around_29 : decode cX3_around 29 = .ok (.lreturn, 1) := by decide +kernel
theorem gdX11_lowered_0 : decode cX11_lowered 0 = .ok (.iconst 1, 1) := by decide +kernel
theorem gdX11_lowered_1 : decode cX11_lowered 1 = .ok (.iload_n 0, 1) := by decide +kernel
theorem gdX11_lowered_2 : decode cX11_lowered 2 = .ok (.bipush 100, 2) := by decide +kernel
theorem gdX11_lowered_4 : decode cX11_lowered 4 = .ok (.iload_n 1, 1) := by decide +kernel
theorem gdX11_lowered_5 : decode cX11_lowered 5 = .ok (.isub, 1) := by decide +kernel
theorem gdX11_lowered_6 : decode cX11_lowered 6 = .ok (.imul, 1) := by decide +kernel
theorem gdX11_lowered_7 : decode cX11_lowered 7 = .ok (.bipush 100, 2) := by decide +kernel
theorem gdX11_lowered_9 : decode cX11_lowered 9 = .ok (.idiv, 1) := by decide +kernel
theorem gdX11_lowered_10 : decode cX11_lowered 10 = .ok (.invokestatic 510, 3) := by decide +kernel
theorem gdX11_lowered_13 : decode cX11_lowered 13 = .ok (.ireturn, 1) := by decide +kernel
theorem gdX4_showOn_0 : decode cX4_showOn 0 = .ok (.aload_n 0, 1) := by decide +kernel
theorem gdX4_showOn_1 : decode cX4_showOn 1 = .ok (.getfield 36, 3) := by decide +kernel
theorem gdX4_showOn_4 : decode cX4_showOn 4 = .ok (.iload_n 1, 1) := by decide +kernel
theorem gdX4_showOn_5 : decode cX4_showOn 5 = .ok (.iload_n 2, 1) := by decide +kernel
theorem gdX4_showOn_6 : decode cX4_showOn 6 = .ok (.iastore, 1) := by decide +kernel
theorem gdX4_showOn_7 : decode cX4_showOn 7 = .ok (.return_, 1) := by decide +kernel
theorem gdX11_show_170 : decode cX11_show 170 = .ok (.aload_n 0, 1) := by decide +kernel
theorem gdX11_show_171 : decode cX11_show 171 = .ok (.getfield 52, 3) := by decide +kernel
theorem gdX11_show_174 : decode cX11_show 174 = .ok (.iload_n 1, 1) := by decide +kernel
theorem gdX11_show_175 : decode cX11_show 175 = .ok (.aload_n 0, 1) := by decide +kernel
theorem gdX11_show_176 : decode cX11_show 176 = .ok (.getfield 136, 3) := by decide +kernel
theorem gdX11_show_179 : decode cX11_show 179 = .ok (.invokevirtual 288, 3) := by decide +kernel
theorem gdX11_show_182 : decode cX11_show 182 = .ok (.iload 4, 2) := by decide +kernel
theorem gdX11_show_184 : decode cX11_show 184 = .ok (.ireturn, 1) := by decide +kernel
theorem gdX11_show_164 : decode cX11_show 164 = .ok (.iinc 6 1, 3) := by decide +kernel
theorem gdX11_show_167 : decode cX11_show 167 = .ok (.goto (-73), 3) := by decide +kernel
theorem gdX11_show_94 : decode cX11_show 94 = .ok (.iload 6, 2) := by decide +kernel
theorem gdX11_show_96 : decode cX11_show 96 = .ok (.aload_n 0, 1) := by decide +kernel
theorem gdX11_show_97 : decode cX11_show 97 = .ok (.getfield 33, 3) := by decide +kernel
theorem gdX11_show_100 : decode cX11_show 100 = .ok (.invokevirtual 156, 3) := by decide +kernel
theorem gdX11_show_103 : decode cX11_show 103 = .ok (.if_icmp .ge 67, 3) := by decide +kernel
theorem gdX11_show_106 : decode cX11_show 106 = .ok (.aload_n 0, 1) := by decide +kernel
theorem gdX11_show_107 : decode cX11_show 107 = .ok (.getfield 33, 3) := by decide +kernel
theorem gdX11_show_110 : decode cX11_show 110 = .ok (.iload 6, 2) := by decide +kernel
theorem gdX11_show_112 : decode cX11_show 112 = .ok (.invokevirtual 171, 3) := by decide +kernel
theorem gdX11_show_115 : decode cX11_show 115 = .ok (.ifCond .ne 49, 3) := by decide +kernel
theorem gdX11_show_118 : decode cX11_show 118 = .ok (.lload_n 2, 1) := by decide +kernel
theorem gdX11_show_119 : decode cX11_show 119 = .ok (.aload_n 0, 1) := by decide +kernel
theorem gdX11_show_120 : decode cX11_show 120 = .ok (.getfield 33, 3) := by decide +kernel
theorem gdX11_show_123 : decode cX11_show 123 = .ok (.iload 6, 2) := by decide +kernel
theorem gdX11_show_125 : decode cX11_show 125 = .ok (.invokevirtual 282, 3) := by decide +kernel
theorem gdX11_show_128 : decode cX11_show 128 = .ok (.invokestatic 262, 3) := by decide +kernel
theorem gdX11_show_131 : decode cX11_show 131 = .ok (.ifCond .ne 6, 3) := by decide +kernel
theorem gdX11_show_137 : decode cX11_show 137 = .ok (.aload_n 0, 1) := by decide +kernel
theorem gdX11_show_138 : decode cX11_show 138 = .ok (.getfield 33, 3) := by decide +kernel
theorem gdX11_show_141 : decode cX11_show 141 = .ok (.iload 6, 2) := by decide +kernel
theorem gdX11_show_143 : decode cX11_show 143 = .ok (.aload_n 0, 1) := by decide +kernel
theorem gdX11_show_144 : decode cX11_show 144 = .ok (.getfield 33, 3) := by decide +kernel
theorem gdX11_show_147 : decode cX11_show 147 = .ok (.iload 6, 2) := by decide +kernel
theorem gdX11_show_149 : decode cX11_show 149 = .ok (.invokevirtual 174, 3) := by decide +kernel
theorem gdX11_show_152 : decode cX11_show 152 = .ok (.iload 5, 2) := by decide +kernel
theorem gdX11_show_154 : decode cX11_show 154 = .ok (.invokestatic 285, 3) := by decide +kernel
theorem gdX11_show_157 : decode cX11_show 157 = .ok (.aload_n 0, 1) := by decide +kernel
theorem gdX11_show_158 : decode cX11_show 158 = .ok (.getfield 136, 3) := by decide +kernel
theorem gdX11_show_161 : decode cX11_show 161 = .ok (.invokevirtual 177, 3) := by decide +kernel
theorem gdX11_show_134 : decode cX11_show 134 = .ok (.goto 30, 3) := by decide +kernel
theorem gdX11_show_0 : decode cX11_show 0 = .ok (.aload_n 0, 1) := by decide +kernel
theorem gdX11_show_1 : decode cX11_show 1 = .ok (.getfield 52, 3) := by decide +kernel
theorem gdX11_show_4 : decode cX11_show 4 = .ok (.iload_n 1, 1) := by decide +kernel
theorem gdX11_show_5 : decode cX11_show 5 = .ok (.invokevirtual 250, 3) := by decide +kernel
theorem gdX11_show_8 : decode cX11_show 8 = .ok (.ifCond .ne 5, 3) := by decide +kernel
theorem gdX11_show_13 : decode cX11_show 13 = .ok (.aload_n 0, 1) := by decide +kernel
theorem gdX11_show_14 : decode cX11_show 14 = .ok (.getfield 52, 3) := by decide +kernel
theorem gdX11_show_17 : decode cX11_show 17 = .ok (.iload_n 1, 1) := by decide +kernel
theorem gdX11_show_18 : decode cX11_show 18 = .ok (.iconst 1, 1) := by decide +kernel
theorem gdX11_show_19 : decode cX11_show 19 = .ok (.invokevirtual 251, 3) := by decide +kernel
theorem gdX11_show_22 : decode cX11_show 22 = .ok (.ifCond .ne 9, 3) := by decide +kernel
theorem gdX11_show_31 : decode cX11_show 31 = .ok (.aload_n 0, 1) := by decide +kernel
theorem gdX11_show_32 : decode cX11_show 32 = .ok (.getfield 52, 3) := by decide +kernel
theorem gdX11_show_35 : decode cX11_show 35 = .ok (.iload_n 1, 1) := by decide +kernel
theorem gdX11_show_36 : decode cX11_show 36 = .ok (.invokevirtual 272, 3) := by decide +kernel
theorem gdX11_show_39 : decode cX11_show 39 = .ok (.bipush (-9), 2) := by decide +kernel
theorem gdX11_show_41 : decode cX11_show 41 = .ok (.if_icmp .eq 6, 3) := by decide +kernel
theorem gdX11_show_47 : decode cX11_show 47 = .ok (.aload_n 0, 1) := by decide +kernel
theorem gdX11_show_48 : decode cX11_show 48 = .ok (.getfield 52, 3) := by decide +kernel
theorem gdX11_show_51 : decode cX11_show 51 = .ok (.iload_n 1, 1) := by decide +kernel
theorem gdX11_show_52 : decode cX11_show 52 = .ok (.invokevirtual 254, 3) := by decide +kernel
theorem gdX11_show_55 : decode cX11_show 55 = .ok (.invokestatic 275, 3) := by decide +kernel
theorem gdX11_show_58 : decode cX11_show 58 = .ok (.lstore_n 2, 1) := by decide +kernel
theorem gdX11_show_59 : decode cX11_show 59 = .ok (.aload_n 0, 1) := by decide +kernel
theorem gdX11_show_60 : decode cX11_show 60 = .ok (.getfield 33, 3) := by decide +kernel
theorem gdX11_show_63 : decode cX11_show 63 = .ok (.lload_n 2, 1) := by decide +kernel
theorem gdX11_show_64 : decode cX11_show 64 = .ok (.invokevirtual 278, 3) := by decide +kernel
theorem gdX11_show_67 : decode cX11_show 67 = .ok (.istore 4, 2) := by decide +kernel
theorem gdX11_show_69 : decode cX11_show 69 = .ok (.iload 4, 2) := by decide +kernel
theorem gdX11_show_71 : decode cX11_show 71 = .ok (.aload_n 0, 1) := by decide +kernel
theorem gdX11_show_72 : decode cX11_show 72 = .ok (.getfield 33, 3) := by decide +kernel
theorem gdX11_show_75 : decode cX11_show 75 = .ok (.invokevirtual 160, 3) := by decide +kernel
theorem gdX11_show_78 : decode cX11_show 78 = .ok (.if_icmp .le 6, 3) := by decide +kernel
theorem gdX11_show_84 : decode cX11_show 84 = .ok (.aload_n 0, 1) := by decide +kernel
theorem gdX11_show_85 : decode cX11_show 85 = .ok (.iconst 1, 1) := by decide +kernel
theorem gdX11_show_86 : decode cX11_show 86 = .ok (.invokevirtual 228, 3) := by decide +kernel
theorem gdX11_show_89 : decode cX11_show 89 = .ok (.istore 5, 2) := by decide +kernel
theorem gdX11_show_91 : decode cX11_show 91 = .ok (.iconst 0, 1) := by decide +kernel
theorem gdX11_show_92 : decode cX11_show 92 = .ok (.istore 6, 2) := by decide +kernel
theorem gdX11_show_81 : decode cX11_show 81 = .ok (.bipush (-2), 2) := by decide +kernel
theorem gdX11_show_83 : decode cX11_show 83 = .ok (.ireturn, 1) := by decide +kernel
theorem gdX11_show_44 : decode cX11_show 44 = .ok (.bipush (-4), 2) := by decide +kernel
theorem gdX11_show_46 : decode cX11_show 46 = .ok (.ireturn, 1) := by decide +kernel
theorem gdX11_show_25 : decode cX11_show 25 = .ok (.aload_n 0, 1) := by decide +kernel
theorem gdX11_show_26 : decode cX11_show 26 = .ok (.iconst 3, 1) := by decide +kernel
theorem gdX11_show_27 : decode cX11_show 27 = .ok (.invokevirtual 99, 3) := by decide +kernel
theorem gdX11_show_30 : decode cX11_show 30 = .ok (.ireturn, 1) := by decide +kernel
theorem gdX11_show_11 : decode cX11_show 11 = .ok (.iconst (-1), 1) := by decide +kernel
theorem gdX11_show_12 : decode cX11_show 12 = .ok (.ireturn, 1) := by decide +kernel
theorem okm_X11_setPrices : okM yX11_setPrices cX11_setPrices 5 none 1 := ⟨w_803, w_89, by decide +kernel, by decide +kernel, by decide +kernel⟩
theorem okw_X11_setPrices : okV yX11_setPrices := ⟨w_802, w_3⟩
theorem okm_X10_find : okM yX10_find cX10_find 7 (some .boolean) 4 := ⟨w_816, w_99, by decide +kernel, by decide +kernel, by decide +kernel⟩
theorem okw_X10_find : okV yX10_find := ⟨w_814, w_815⟩
theorem okm_X4_route : okM yX4_route cX4_route 6 none 4 := ⟨w_876, w_97, by decide +kernel, by decide +kernel, by decide +kernel⟩
theorem okw_X4_route : okV yX4_route := ⟨w_874, w_875⟩
theorem okm_X4_lengthOf : okM yX4_lengthOf cX4_lengthOf 2 (some .int) 1 := ⟨w_1026, w_97, by decide +kernel, by decide +kernel, by decide +kernel⟩
theorem okw_X4_lengthOf : okV yX4_lengthOf := ⟨w_1024, w_1025⟩
theorem okm_X5_setHome : okM yX5_setHome cX5_setHome 3 none 2 := ⟨w_726, w_95, by decide +kernel, by decide +kernel, by decide +kernel⟩
theorem okw_X5_setHome : okV yX5_setHome := ⟨w_724, w_725⟩
theorem okm_X1_enter : okM yX1_enter cX1_enter 2 none 1 := ⟨w_730, w_94, by decide +kernel, by decide +kernel, by decide +kernel⟩
theorem okw_X1_enter : okV yX1_enter := ⟨w_728, w_729⟩
theorem okm_X4_livedThere : okM yX4_livedThere cX4_livedThere 3 (some .boolean) 2 := ⟨w_986, w_97, by decide +kernel, by decide +kernel, by decide +kernel⟩
theorem okw_X4_livedThere : okV yX4_livedThere := ⟨w_984, w_985⟩
theorem okm_X1_roomsLeft : okM yX1_roomsLeft cX1_roomsLeft 2 (some .int) 1 := ⟨w_710, w_94, by decide +kernel, by decide +kernel, by decide +kernel⟩
theorem okw_X1_roomsLeft : okV yX1_roomsLeft := ⟨w_708, w_709⟩
theorem okm_X4_setMoved : okM yX4_setMoved cX4_setMoved 4 none 3 := ⟨w_994, w_97, by decide +kernel, by decide +kernel, by decide +kernel⟩
theorem okw_X4_setMoved : okV yX4_setMoved := ⟨w_992, w_993⟩
theorem okm_X11_settle : okM yX11_settle cX11_settle 3 none 2 := ⟨w_722, w_89, by decide +kernel, by decide +kernel, by decide +kernel⟩
theorem okw_X11_settle : okV yX11_settle := ⟨w_721, w_2⟩
theorem okm_X5_add : okM yX5_add cX5_add 5 (some .int) 3 := ⟨w_718, w_95, by decide +kernel, by decide +kernel, by decide +kernel⟩
theorem okw_X5_add : okV yX5_add := ⟨w_716, w_717⟩
theorem okm_X4_routeOf : okM yX4_routeOf cX4_routeOf 3 none 2 := ⟨w_906, w_97, by decide +kernel, by decide +kernel, by decide +kernel⟩
theorem okw_X4_routeOf : okV yX4_routeOf := ⟨w_904, w_905⟩
theorem okm_J7_rangeCheck_23922 : okM yJ7_rangeCheck_23922 cJ7_rangeCheck_23922 3 none 3 := ⟨w_534, w_92, by decide +kernel, by decide +kernel, by decide +kernel⟩
theorem okm_J7_fill_fda19 : okM yJ7_fill_fda19 cJ7_fill_fda19 5 none 4 := ⟨w_531, w_92, by decide +kernel, by decide +kernel, by decide +kernel⟩
theorem okm_X8_layOut : okM yX8_layOut cX8_layOut 3 none 2 := ⟨w_528, w_90, by decide +kernel, by decide +kernel, by decide +kernel⟩
theorem okw_X8_layOut : okV yX8_layOut := ⟨w_526, w_527⟩
theorem okm_X7_numberAt : okM yX7_numberAt cX7_numberAt 6 (some .int) 4 := ⟨w_763, w_96, by decide +kernel, by decide +kernel, by decide +kernel⟩
theorem okm_X7_add : okM yX7_add cX7_add 8 (some .int) 4 := ⟨w_759, w_96, by decide +kernel, by decide +kernel, by decide +kernel⟩
theorem okw_X7_add : okV yX7_add := ⟨w_757, w_758⟩
theorem okm_X4_showOn : okM yX4_showOn cX4_showOn 3 none 2 := ⟨w_954, w_97, by decide +kernel, by decide +kernel, by decide +kernel⟩
theorem okw_X4_showOn : okV yX4_showOn := ⟨w_952, w_953⟩
theorem okm_X11_lowered : okM yX11_lowered cX11_lowered 2 (some .int) 2 := ⟨w_947, w_89, by decide +kernel, by decide +kernel, by decide +kernel⟩
theorem okm_X3_around : okM yX3_around cX3_around 4 (some .long) 1 := ⟨w_925, w_93, by decide +kernel, by decide +kernel, by decide +kernel⟩
set_option maxHeartbeats 4000000 in
set_option maxRecDepth 100000 in
theorem c_X4_route (l : Launch) (g : GG) (ad : Nat → Nat) (o : OO) (x1 : Int) (x3 : Int) (x4 : Int) (v : OO) (h : s_X4_route o x1 x3 x4 = some v) : CV l g yX4_route cX4_route 6 1 20 (wC g ad o) [.ref (ad 32), iv x1, .ref (ad 55), iv x3, iv x4] (wC g ad v) := by
  refine met_V (by decide) (Nat.le_of_ble_eq_true rfl) ?_
  intro X E hQ
  show Go X 0 (wC g ad o) [(0, .ref (ad 32)), (1, iv x1), (2, .ref (ad 55)), (3, iv x3), (4, iv x4)] []
  have j62 : ∀ (o : OO), b_X4_route_62 o = some v → Go X 62 (wC g ad o) [] [] := by
    intro o h
    unfold b_X4_route_62 at h
    exact g_vret E hQ (by rw [← Option.some.inj h]) gdX4_route_62
  have l18 : ∀ (x1 : Int) (x3 : Int) (r : (OO)) (s0 : OO × Int), loopW (fun s => l_X4_route_18 x1 x3 s.1 s.2) s0 = some r → (∀ (o : OO), r = (o) → Go X 62 (wC g ad o) [] []) → Go X 18 (wC g ad s0.1) [(0, .ref (ad 32)), (1, iv x1), (2, .ref (ad 55)), (3, iv x3), (5, iv s0.2)] [] := by
    intro x1 x3 r s0 h k1
    refine loop_rule (Head := fun s0 => Go X 18 (wC g ad s0.1) [(0, .ref (ad 32)), (1, iv x1), (2, .ref (ad 55)), (3, iv x3), (5, iv s0.2)] []) h ?_
    intro s v h kk kx
    obtain ⟨o, x5⟩ := s
    have h : l_X4_route_18 x1 x3 o x5 = some v := h
    have k0 : ∀ (o : OO) (x5 : Int), v = .inl (o, x5) → Go X 18 (wC g ad o) [(0, .ref (ad 32)), (1, iv x1), (2, .ref (ad 55)), (3, iv x3), (5, iv x5)] [] := fun o x5 e => kk (o, x5) e
    have k1 : ∀ (o : OO), v = .inr (o) → Go X 62 (wC g ad o) [] [] := fun o e => k1 o (kx _ e).symm
    unfold l_X4_route_18 at h
    refine g_iload E gdX4_route_18 4 rfl ?_
    refine g_iload_n E gdX4_route_20 rfl 3 rfl ?_
    refine g_icmp_ge E 62 gdX4_route_21 (by decide) h (fun h => ?_) (fun h => ?_)
    ·
      refine g_sub E [] rfl ?_
      exact k1 o (Option.some.inj h).symm
    ·
      refine g_aload_n E gdX4_route_24 rfl 0 rfl ?_
      refine g_get (T := TX4) E fw_X4 32 (wC_32 g ad o) rfl 4 (by decide) w_255 rfl rfl gdX4_route_25 ?_
      refine g_iload_n E gdX4_route_28 rfl 1 rfl ?_
      refine g_bipush E gdX4_route_29 (by decide) ?_
      refine g_imul E gdX4_route_31 ?_
      refine g_iload E gdX4_route_32 4 rfl ?_
      refine g_iadd E gdX4_route_34 ?_
      refine g_aload_n E gdX4_route_35 rfl 2 rfl ?_
      refine g_iload E gdX4_route_36 4 rfl ?_
      obtain ⟨hi1, h⟩ := qIn_of h
      refine g_iald E 55 (wC_55 g ad o) (by decide) hi1 gdX4_route_38 ?_
      obtain ⟨n2, e_n2, h⟩ := qNm_of h
      refine g_nmi e_n2 ?_
      obtain ⟨hi3, h⟩ := qIn_of h
      obtain ⟨o4, e_o4, h⟩ := qNm_of h
      refine g_iast (ws' := wC g ad o4) E 37 (wC_37 g ad o) (by decide) hi3 (by rw [e_o4]; exact wC_s37 g ad o _ _) gdX4_route_39 ?_
      refine g_aload_n E gdX4_route_40 rfl 0 rfl ?_
      refine g_get (T := TX4) E fw_X4 32 (wC_32 g ad o4) rfl 5 (by decide) w_256 rfl rfl gdX4_route_41 ?_
      refine g_iload_n E gdX4_route_44 rfl 1 rfl ?_
      refine g_dup2 E gdX4_route_45 rfl rfl ?_
      obtain ⟨hi5, h⟩ := qIn_of h
      refine g_lald E 38 (wC_38 g ad o4) (by decide) hi5 gdX4_route_46 ?_
      obtain ⟨m6, e_m6, h⟩ := qNm_of h
      refine g_nml e_m6 ?_
      refine g_aload_n E gdX4_route_47 rfl 2 rfl ?_
      refine g_iload E gdX4_route_48 4 rfl ?_
      obtain ⟨hi7, h⟩ := qIn_of h
      refine g_iald E 55 (wC_55 g ad o4) (by decide) hi7 gdX4_route_50 ?_
      obtain ⟨n8, e_n8, h⟩ := qNm_of h
      refine g_nmi e_n8 ?_
      obtain ⟨p9, hc10, h⟩ := qB_of h
      refine g_Sl (r := p9) (As := [iv n8]) (rest := [.long m6, iv x1, .ref (ad 38)]) (w := wC g ad o4) E (c_X3_bit l g (wC g ad o4) n8 p9 hc10) okm_X3_bit w_842 w_877 rfl rfl (Nat.le_of_ble_eq_true rfl) ⟨Nat.le_of_ble_eq_true rfl, Nat.le_of_ble_eq_true rfl⟩ gdX4_route_51 ?_
      refine g_lor E gdX4_route_54 ?_
      obtain ⟨hi11, h⟩ := qIn_of h
      obtain ⟨o12, e_o12, h⟩ := qNm_of h
      refine g_last (ws' := wC g ad o12) E 38 (wC_38 g ad o4) (by decide) hi11 (by rw [e_o12]; exact wC_s38 g ad o4 _ _) gdX4_route_55 ?_
      refine g_iinc E [(5, iv (x5 + 1)), (0, .ref (ad 32)), (1, iv x1), (2, .ref (ad 55)), (3, iv x3)] gdX4_route_56 4 rfl (by decide) rfl ?_
      refine g_goto E 18 gdX4_route_59 (by decide) ?_
      refine g_sub E [1, 2, 3, 4, 0] rfl ?_
      exact k0 o12 (x5 + 1) (Option.some.inj h).symm
  have j18 : ∀ (o : OO) (x1 : Int) (x3 : Int) (x5 : Int), e_X4_route_18 o x1 x3 x5 = some v → Go X 18 (wC g ad o) [(0, .ref (ad 32)), (1, iv x1), (2, .ref (ad 55)), (3, iv x3), (5, iv x5)] [] := by
    intro o x1 x3 x5 h
    unfold e_X4_route_18 at h
    obtain ⟨r, hr, h⟩ := qB_of h
    refine l18 x1 x3 r _ hr ?_
    ·
      intro u0 e
      have e := e.symm
      subst e
      have h : b_X4_route_62 u0 = some v := h
      exact j62 u0 h
  unfold s_X4_route at h
  refine g_aload_n E gdX4_route_0 rfl 0 rfl ?_
  refine g_get (T := TX4) E fw_X4 32 (wC_32 g ad o) rfl 3 (by decide) w_254 rfl rfl gdX4_route_1 ?_
  refine g_iload_n E gdX4_route_4 rfl 1 rfl ?_
  refine g_iload_n E gdX4_route_5 rfl 3 rfl ?_
  obtain ⟨hi13, h⟩ := qIn_of h
  obtain ⟨o14, e_o14, h⟩ := qNm_of h
  refine g_iast (ws' := wC g ad o14) E 36 (wC_36 g ad o) (by decide) hi13 (by rw [e_o14]; exact wC_s36 g ad o _ _) gdX4_route_6 ?_
  refine g_aload_n E gdX4_route_7 rfl 0 rfl ?_
  refine g_get (T := TX4) E fw_X4 32 (wC_32 g ad o14) rfl 6 (by decide) w_257 rfl rfl gdX4_route_8 ?_
  refine g_iload_n E gdX4_route_11 rfl 1 rfl ?_
  refine g_iload E gdX4_route_12 4 rfl ?_
  obtain ⟨hi15, h⟩ := qIn_of h
  obtain ⟨o16, e_o16, h⟩ := qNm_of h
  refine g_iast (ws' := wC g ad o16) E 39 (wC_39 g ad o14) (by decide) hi15 (by rw [e_o16]; exact wC_s39 g ad o14 _ _) gdX4_route_14 ?_
  refine g_iconst E gdX4_route_15 ?_
  refine g_istore E [(5, iv 0), (0, .ref (ad 32)), (1, iv x1), (2, .ref (ad 55)), (3, iv x3), (4, iv x4)] gdX4_route_16 (by decide) rfl ?_
  refine g_sub E [1, 2, 3, 4, 0] rfl ?_
  exact j18 o16 x1 x3 0 h
set_option maxHeartbeats 4000000 in
set_option maxRecDepth 100000 in
theorem c_X11_line (l : Launch) (g : GG) (ad : Nat → Nat) (o : OO) (x1 : Int) (x2 : Int) (x3 : Int) (v : Int × OO) (h : s_X11_line o x1 x2 x3 = some v) : CI l g yX11_line cX11_line 5 (some .int) 5 120 (wC g ad o) [.ref (ad 0), iv x1, iv x2, iv x3] v.1 (wC g ad v.2) := by
  refine met_I (by decide) (Nat.le_of_ble_eq_true rfl) ?_
  intro X E hQ
  show Go X 0 (wC g ad o) [(0, .ref (ad 0)), (1, iv x1), (2, iv x2), (3, iv x3)] []
  have j30 : ∀ (o : OO), b_X11_line_30 o = some v → Go X 30 (wC g ad o) [] [] := by
    intro o h
    unfold b_X11_line_30 at h
    refine g_iconst E gdX11_line_30 ?_
    exact g_iret E hQ (by rw [← Option.some.inj h]) (by rw [← Option.some.inj h]) gdX11_line_31
  have j125 : ∀ (o : OO), b_X11_line_125 o = some v → Go X 125 (wC g ad o) [] [] := by
    intro o h
    unfold b_X11_line_125 at h
    refine g_bipush E gdX11_line_125 (by decide) ?_
    exact g_iret E hQ (by rw [← Option.some.inj h]) (by rw [← Option.some.inj h]) gdX11_line_127
  unfold s_X11_line at h
  refine g_iload_n E gdX11_line_0 rfl 1 rfl ?_
  obtain ⟨r1, hc2, h⟩ := qB_of h
  refine g_Si (r := r1) (As := [iv x1]) (rest := []) (w := wC g ad o) E (c_X3_isCell l g (wC g ad o) x1 r1 hc2) okm_X3_isCell w_622 w_621 rfl rfl (Nat.le_of_ble_eq_true rfl) ⟨Nat.le_of_ble_eq_true rfl, Nat.le_of_ble_eq_true rfl⟩ gdX11_line_1 ?_
  refine g_if_eq E 30 gdX11_line_4 (by decide) h (fun h => ?_) (fun h => ?_)
  ·
    refine g_sub E [] rfl ?_
    exact j30 o h
  ·
    refine g_iload_n E gdX11_line_7 rfl 2 rfl ?_
    obtain ⟨r3, hc4, h⟩ := qB_of h
    refine g_Si (r := r3) (As := [iv x2]) (rest := []) (w := wC g ad o) E (c_X3_isCell l g (wC g ad o) x2 r3 hc4) okm_X3_isCell w_622 w_621 rfl rfl (Nat.le_of_ble_eq_true rfl) ⟨Nat.le_of_ble_eq_true rfl, Nat.le_of_ble_eq_true rfl⟩ gdX11_line_8 ?_
    refine g_if_eq E 30 gdX11_line_11 (by decide) h (fun h => ?_) (fun h => ?_)
    ·
      refine g_sub E [] rfl ?_
      exact j30 o h
    ·
      refine g_iload_n E gdX11_line_14 rfl 1 rfl ?_
      refine g_iload_n E gdX11_line_15 rfl 2 rfl ?_
      refine g_icmp_eq E 30 gdX11_line_16 (by decide) h (fun h => ?_) (fun h => ?_)
      ·
        refine g_sub E [] rfl ?_
        exact j30 o h
      ·
        refine g_aload_n E gdX11_line_19 rfl 0 rfl ?_
        refine g_get (T := TX11) E fw_X11 0 (wC_0 g ad o) rfl 0 (by decide) w_458 rfl rfl gdX11_line_20 ?_
        refine g_iload_n E gdX11_line_23 rfl 3 rfl ?_
        obtain ⟨r5, hc6, h⟩ := qB_of h
        refine g_Vi (r := r5) (As := [iv x3]) (rest := []) (w := wC g ad o) E (c_X8_exists l g ad o x3 r5 hc6) okm_X8_exists okw_X8_exists w_517 rfl (wC_1 g ad o) rfl rfl (Nat.le_of_ble_eq_true rfl) ⟨Nat.le_of_ble_eq_true rfl, Nat.le_of_ble_eq_true rfl⟩ gdX11_line_24 ?_
        refine g_if_ne E 32 gdX11_line_27 (by decide) h (fun h => ?_) (fun h => ?_)
        ·
          refine g_aload_n E gdX11_line_32 rfl 0 rfl ?_
          refine g_get (T := TX11) E fw_X11 0 (wC_0 g ad o) rfl 6 (by decide) w_464 rfl rfl gdX11_line_33 ?_
          obtain ⟨r7, hc8, h⟩ := qB_of h
          refine g_Vi (r := r7) (As := []) (rest := []) (w := wC g ad o) E (c_X4_number l g ad o r7 hc8) okm_X4_number okw_X4_number w_790 rfl (wC_32 g ad o) rfl rfl (Nat.le_of_ble_eq_true rfl) ⟨Nat.le_of_ble_eq_true rfl, Nat.le_of_ble_eq_true rfl⟩ gdX11_line_36 ?_
          refine g_bipush E gdX11_line_39 (by decide) ?_
          refine g_icmp_lt E 47 gdX11_line_41 (by decide) h (fun h => ?_) (fun h => ?_)
          ·
            refine g_aload_n E gdX11_line_47 rfl 0 rfl ?_
            refine g_get (T := TX11) E fw_X11 0 (wC_0 g ad o) rfl 0 (by decide) w_458 rfl rfl gdX11_line_48 ?_
            refine g_iload_n E gdX11_line_51 rfl 3 rfl ?_
            obtain ⟨r9, hc10, h⟩ := qB_of h
            refine g_Vi (r := r9) (As := [iv x3]) (rest := []) (w := wC g ad o) E (c_X8_isThere l g ad o x3 r9 hc10) okm_X8_isThere okw_X8_isThere w_539 rfl (wC_1 g ad o) rfl rfl (Nat.le_of_ble_eq_true rfl) ⟨Nat.le_of_ble_eq_true rfl, Nat.le_of_ble_eq_true rfl⟩ gdX11_line_52 ?_
            refine g_if_ne E 64 gdX11_line_55 (by decide) h (fun h => ?_) (fun h => ?_)
            ·
              refine g_aload_n E gdX11_line_64 rfl 0 rfl ?_
              refine g_get (T := TX11) E fw_X11 0 (wC_0 g ad o) rfl 0 (by decide) w_458 rfl rfl gdX11_line_65 ?_
              refine g_iload_n E gdX11_line_68 rfl 3 rfl ?_
              obtain ⟨r11, hc12, h⟩ := qB_of h
              refine g_Vi (r := r11) (As := [iv x3]) (rest := []) (w := wC g ad o) E (c_X8_sizeOf l g ad o x3 r11 hc12) okm_X8_sizeOf okw_X8_sizeOf w_794 rfl (wC_1 g ad o) rfl rfl (Nat.le_of_ble_eq_true rfl) ⟨Nat.le_of_ble_eq_true rfl, Nat.le_of_ble_eq_true rfl⟩ gdX11_line_69 ?_
              refine g_iconst E gdX11_line_72 ?_
              refine g_icmp_eq E 82 gdX11_line_73 (by decide) h (fun h => ?_) (fun h => ?_)
              ·
                refine g_aload_n E gdX11_line_82 rfl 0 rfl ?_
                refine g_get (T := TX11) E fw_X11 0 (wC_0 g ad o) rfl 0 (by decide) w_458 rfl rfl gdX11_line_83 ?_
                refine g_iload_n E gdX11_line_86 rfl 3 rfl ?_
                refine g_iconst E gdX11_line_87 ?_
                refine g_sipush E gdX11_line_88 (by decide) ?_
                obtain ⟨r13, hc14, h⟩ := qB_of h
                refine g_Vi (r := r13) (As := [iv x3, iv 0, iv 1000]) (rest := []) (w := wC g ad o) E (c_X8_allWithin l g ad o x3 0 1000 r13 hc14) okm_X8_allWithin okw_X8_allWithin w_795 rfl (wC_1 g ad o) rfl rfl (Nat.le_of_ble_eq_true rfl) ⟨Nat.le_of_ble_eq_true rfl, Nat.le_of_ble_eq_true rfl⟩ gdX11_line_91 ?_
                refine g_if_ne E 103 gdX11_line_94 (by decide) h (fun h => ?_) (fun h => ?_)
                ·
                  refine g_aload_n E gdX11_line_103 rfl 0 rfl ?_
                  refine g_get (T := TX11) E fw_X11 0 (wC_0 g ad o) rfl 2 (by decide) w_460 rfl rfl gdX11_line_104 ?_
                  refine g_iload_n E gdX11_line_107 rfl 1 rfl ?_
                  obtain ⟨r15, hc16, h⟩ := qB_of h
                  refine g_Vi (r := r15) (As := [iv x1]) (rest := []) (w := wC g ad o) E (c_X3_isWater l g ad o x1 r15 hc16) okm_X3_isWater okw_X3_isWater w_651 rfl (wC_7 g ad o) rfl rfl (Nat.le_of_ble_eq_true rfl) ⟨Nat.le_of_ble_eq_true rfl, Nat.le_of_ble_eq_true rfl⟩ gdX11_line_108 ?_
                  refine g_if_ne E 125 gdX11_line_111 (by decide) h (fun h => ?_) (fun h => ?_)
                  ·
                    refine g_sub E [] rfl ?_
                    exact j125 o h
                  ·
                    refine g_aload_n E gdX11_line_114 rfl 0 rfl ?_
                    refine g_get (T := TX11) E fw_X11 0 (wC_0 g ad o) rfl 2 (by decide) w_460 rfl rfl gdX11_line_115 ?_
                    refine g_iload_n E gdX11_line_118 rfl 2 rfl ?_
                    obtain ⟨r17, hc18, h⟩ := qB_of h
                    refine g_Vi (r := r17) (As := [iv x2]) (rest := []) (w := wC g ad o) E (c_X3_isWater l g ad o x2 r17 hc18) okm_X3_isWater okw_X3_isWater w_651 rfl (wC_7 g ad o) rfl rfl (Nat.le_of_ble_eq_true rfl) ⟨Nat.le_of_ble_eq_true rfl, Nat.le_of_ble_eq_true rfl⟩ gdX11_line_119 ?_
                    refine g_if_eq E 128 gdX11_line_122 (by decide) h (fun h => ?_) (fun h => ?_)
                    ·
                      refine g_aload_n E gdX11_line_128 rfl 0 rfl ?_
                      refine g_iload_n E gdX11_line_129 rfl 3 rfl ?_
                      obtain ⟨o21, hc20, h⟩ := qB_of h
                      refine g_Vv (As := [iv x3]) (rest := []) (w := wC g ad o21) E (c_X11_setPrices l g ad o x3 o21 hc20) okm_X11_setPrices okw_X11_setPrices w_800 rfl (wC_0 g ad o) rfl rfl (Nat.le_of_ble_eq_true rfl) ⟨Nat.le_of_ble_eq_true rfl, Nat.le_of_ble_eq_true rfl⟩ gdX11_line_130 ?_
                      refine g_aload_n E gdX11_line_133 rfl 0 rfl ?_
                      refine g_get (T := TX11) E fw_X11 0 (wC_0 g ad o21) rfl 8 (by decide) w_466 rfl rfl gdX11_line_134 ?_
                      refine g_aload_n E gdX11_line_137 rfl 0 rfl ?_
                      refine g_get (T := TX11) E fw_X11 0 (wC_0 g ad o21) rfl 2 (by decide) w_460 rfl rfl gdX11_line_138 ?_
                      refine g_aload_n E gdX11_line_141 rfl 0 rfl ?_
                      refine g_iconst E gdX11_line_142 ?_
                      obtain ⟨r22, hc23, h⟩ := qB_of h
                      refine g_Vi (r := r22) (As := [iv 0]) (rest := [.ref (ad 7), .ref (ad 53)]) (w := wC g ad o21) E (c_X11_inForce l g ad o21 0 r22 hc23) okm_X11_inForce okw_X11_inForce w_809 rfl (wC_0 g ad o21) rfl rfl (Nat.le_of_ble_eq_true rfl) ⟨Nat.le_of_ble_eq_true rfl, Nat.le_of_ble_eq_true rfl⟩ gdX11_line_143 ?_
                      refine g_iload_n E gdX11_line_146 rfl 1 rfl ?_
                      refine g_iload_n E gdX11_line_147 rfl 2 rfl ?_
                      obtain ⟨r24, o26, hc25, h⟩ := qB2_of h
                      refine g_Vi (r := r24) (As := [.ref (ad 7), iv r22, iv x1, iv x2]) (rest := []) (w := wC g ad o26) E (c_X10_find l g ad o21 r22 x1 x2 (r24, o26) hc25) okm_X10_find okw_X10_find w_813 rfl (wC_53 g ad o21) rfl rfl (Nat.le_of_ble_eq_true rfl) ⟨Nat.le_of_ble_eq_true rfl, Nat.le_of_ble_eq_true rfl⟩ gdX11_line_148 ?_
                      refine g_if_ne E 160 gdX11_line_151 (by decide) h (fun h => ?_) (fun h => ?_)
                      ·
                        refine g_aload_n E gdX11_line_160 rfl 0 rfl ?_
                        refine g_get (T := TX11) E fw_X11 0 (wC_0 g ad o26) rfl 6 (by decide) w_464 rfl rfl gdX11_line_161 ?_
                        refine g_iconst E gdX11_line_164 ?_
                        refine g_aload_n E gdX11_line_165 rfl 0 rfl ?_
                        refine g_get (T := TX11) E fw_X11 0 (wC_0 g ad o26) rfl 13 (by decide) w_471 rfl rfl gdX11_line_166 ?_
                        refine g_bipush E gdX11_line_169 (by decide) ?_
                        obtain ⟨r27, o29, hc28, h⟩ := qB2_of h
                        refine g_Vi (r := r27) (As := [iv 1, iv (o26.1 0 13), iv (-9)]) (rest := []) (w := wC g ad o29) E (c_X4_add l g ad o26 1 (o26.1 0 13) (-9) (r27, o29) hc28) okm_X4_add okw_X4_add w_869 rfl (wC_32 g ad o26) rfl rfl (Nat.le_of_ble_eq_true rfl) ⟨Nat.le_of_ble_eq_true rfl, Nat.le_of_ble_eq_true rfl⟩ gdX11_line_171 ?_
                        refine g_istore E [(4, iv r27), (0, .ref (ad 0)), (1, iv x1), (2, iv x2), (3, iv x3)] gdX11_line_174 (by decide) rfl ?_
                        refine g_aload_n E gdX11_line_176 rfl 1 rfl ?_
                        refine g_get (T := TX11) E fw_X11 0 (wC_0 g ad o29) rfl 6 (by decide) w_464 rfl rfl gdX11_line_177 ?_
                        refine g_iload E gdX11_line_180 0 rfl ?_
                        refine g_aload_n E gdX11_line_182 rfl 1 rfl ?_
                        refine g_get (T := TX11) E fw_X11 0 (wC_0 g ad o29) rfl 8 (by decide) w_466 rfl rfl gdX11_line_183 ?_
                        refine g_get (T := TX10) E fw_X10 53 (wC_53 g ad o29) rfl 1 (by decide) w_335 rfl rfl gdX11_line_186 ?_
                        refine g_aload_n E gdX11_line_189 rfl 1 rfl ?_
                        refine g_get (T := TX11) E fw_X11 0 (wC_0 g ad o29) rfl 8 (by decide) w_466 rfl rfl gdX11_line_190 ?_
                        refine g_get (T := TX10) E fw_X10 53 (wC_53 g ad o29) rfl 2 (by decide) w_337 rfl rfl gdX11_line_193 ?_
                        refine g_aload_n E gdX11_line_196 rfl 1 rfl ?_
                        refine g_get (T := TX11) E fw_X11 0 (wC_0 g ad o29) rfl 8 (by decide) w_466 rfl rfl gdX11_line_197 ?_
                        refine g_get (T := TX10) E fw_X10 53 (wC_53 g ad o29) rfl 3 (by decide) w_339 rfl rfl gdX11_line_200 ?_
                        obtain ⟨o32, hc31, h⟩ := qB_of h
                        refine g_Vv (As := [iv r27, .ref (ad 55), iv (o29.1 53 2), iv (o29.1 53 3)]) (rest := []) (w := wC g ad o32) E (c_X4_route l g ad o29 r27 (o29.1 53 2) (o29.1 53 3) o32 hc31) okm_X4_route okw_X4_route w_873 rfl (wC_32 g ad o29) rfl rfl (Nat.le_of_ble_eq_true rfl) ⟨Nat.le_of_ble_eq_true rfl, Nat.le_of_ble_eq_true rfl⟩ gdX11_line_203 ?_
                        refine g_iload E gdX11_line_206 0 rfl ?_
                        exact g_iret E hQ (by rw [← Option.some.inj h]) (by rw [← Option.some.inj h]) gdX11_line_208
                      ·
                        refine g_aload_n E gdX11_line_154 rfl 0 rfl ?_
                        refine g_iconst E gdX11_line_155 ?_
                        obtain ⟨r33, o35, hc34, h⟩ := qB2_of h
                        refine g_Vi (r := r33) (As := [iv 1]) (rest := []) (w := wC g ad o35) E (c_X11_found l g ad o26 1 (r33, o35) hc34) okm_X11_found okw_X11_found w_521 rfl (wC_0 g ad o26) rfl rfl (Nat.le_of_ble_eq_true rfl) ⟨Nat.le_of_ble_eq_true rfl, Nat.le_of_ble_eq_true rfl⟩ gdX11_line_156 ?_
                        exact g_iret E hQ (by rw [← Option.some.inj h]) (by rw [← Option.some.inj h]) gdX11_line_159
                    ·
                      refine g_sub E [] rfl ?_
                      exact j125 o h
                ·
                  refine g_aload_n E gdX11_line_97 rfl 0 rfl ?_
                  refine g_iconst E gdX11_line_98 ?_
                  obtain ⟨r36, o38, hc37, h⟩ := qB2_of h
                  refine g_Vi (r := r36) (As := [iv 3]) (rest := []) (w := wC g ad o38) E (c_X11_found l g ad o 3 (r36, o38) hc37) okm_X11_found okw_X11_found w_521 rfl (wC_0 g ad o) rfl rfl (Nat.le_of_ble_eq_true rfl) ⟨Nat.le_of_ble_eq_true rfl, Nat.le_of_ble_eq_true rfl⟩ gdX11_line_99 ?_
                  exact g_iret E hQ (by rw [← Option.some.inj h]) (by rw [← Option.some.inj h]) gdX11_line_102
              ·
                refine g_aload_n E gdX11_line_76 rfl 0 rfl ?_
                refine g_iconst E gdX11_line_77 ?_
                obtain ⟨r39, o41, hc40, h⟩ := qB2_of h
                refine g_Vi (r := r39) (As := [iv 5]) (rest := []) (w := wC g ad o41) E (c_X11_found l g ad o 5 (r39, o41) hc40) okm_X11_found okw_X11_found w_521 rfl (wC_0 g ad o) rfl rfl (Nat.le_of_ble_eq_true rfl) ⟨Nat.le_of_ble_eq_true rfl, Nat.le_of_ble_eq_true rfl⟩ gdX11_line_78 ?_
                exact g_iret E hQ (by rw [← Option.some.inj h]) (by rw [← Option.some.inj h]) gdX11_line_81
            ·
              refine g_aload_n E gdX11_line_58 rfl 0 rfl ?_
              refine g_iconst E gdX11_line_59 ?_
              obtain ⟨r42, o44, hc43, h⟩ := qB2_of h
              refine g_Vi (r := r42) (As := [iv 1]) (rest := []) (w := wC g ad o44) E (c_X11_found l g ad o 1 (r42, o44) hc43) okm_X11_found okw_X11_found w_521 rfl (wC_0 g ad o) rfl rfl (Nat.le_of_ble_eq_true rfl) ⟨Nat.le_of_ble_eq_true rfl, Nat.le_of_ble_eq_true rfl⟩ gdX11_line_60 ?_
              exact g_iret E hQ (by rw [← Option.some.inj h]) (by rw [← Option.some.inj h]) gdX11_line_63
          ·
            refine g_bipush E gdX11_line_44 (by decide) ?_
            exact g_iret E hQ (by rw [← Option.some.inj h]) (by rw [← Option.some.inj h]) gdX11_line_46
        ·
          refine g_sub E [] rfl ?_
          exact j30 o h
set_option maxHeartbeats 4000000 in
set_option maxRecDepth 100000 in
theorem c_X4_lengthOf (l : Launch) (g : GG) (ad : Nat → Nat) (o : OO) (x1 : Int) (v : Int) (h : s_X4_lengthOf o x1 = some v) : CI l g yX4_lengthOf cX4_lengthOf 2 (some .int) 0 0 (wC g ad o) [.ref (ad 32), iv x1] v (wC g ad o) := by
  refine met_I (by decide) (Nat.le_of_ble_eq_true rfl) ?_
  intro X E hQ
  show Go X 0 (wC g ad o) [(0, .ref (ad 32)), (1, iv x1)] []
  unfold s_X4_lengthOf at h
  refine g_aload_n E gdX4_lengthOf_0 rfl 0 rfl ?_
  refine g_get (T := TX4) E fw_X4 32 (wC_32 g ad o) rfl 3 (by decide) w_254 rfl rfl gdX4_lengthOf_1 ?_
  refine g_iload_n E gdX4_lengthOf_4 rfl 1 rfl ?_
  obtain ⟨hi1, h⟩ := qIn_of h
  refine g_iald E 36 (wC_36 g ad o) (by decide) hi1 gdX4_lengthOf_5 ?_
  obtain ⟨n2, e_n2, h⟩ := qNm_of h
  refine g_nmi e_n2 ?_
  exact g_iret E hQ (Option.some.inj h) rfl gdX4_lengthOf_6
set_option maxHeartbeats 4000000 in
set_option maxRecDepth 100000 in
theorem c_X11_mark (l : Launch) (g : GG) (ad : Nat → Nat) (o : OO) (x1 : Int) (x2 : Int) (v : Int × OO) (h : s_X11_mark o x1 x2 = some v) : CI l g yX11_mark cX11_mark 3 (some .int) 3 67 (wC g ad o) [.ref (ad 0), iv x1, iv x2] v.1 (wC g ad v.2) := by
  refine met_I (by decide) (Nat.le_of_ble_eq_true rfl) ?_
  intro X E hQ
  show Go X 0 (wC g ad o) [(0, .ref (ad 0)), (1, iv x1), (2, iv x2)] []
  have j22 : ∀ (o : OO), b_X11_mark_22 o = some v → Go X 22 (wC g ad o) [] [] := by
    intro o h
    unfold b_X11_mark_22 at h
    refine g_iconst E gdX11_mark_22 ?_
    exact g_iret E hQ (by rw [← Option.some.inj h]) (by rw [← Option.some.inj h]) gdX11_mark_23
  unfold s_X11_mark at h
  refine g_aload_n E gdX11_mark_0 rfl 0 rfl ?_
  refine g_get (T := TX11) E fw_X11 0 (wC_0 g ad o) rfl 6 (by decide) w_464 rfl rfl gdX11_mark_1 ?_
  refine g_iload_n E gdX11_mark_4 rfl 1 rfl ?_
  obtain ⟨r1, hc2, h⟩ := qB_of h
  refine g_Vi (r := r1) (As := [iv x1]) (rest := []) (w := wC g ad o) E (c_X4_exists l g ad o x1 r1 hc2) okm_X4_exists okw_X4_exists w_882 rfl (wC_32 g ad o) rfl rfl (Nat.le_of_ble_eq_true rfl) ⟨Nat.le_of_ble_eq_true rfl, Nat.le_of_ble_eq_true rfl⟩ gdX11_mark_5 ?_
  refine g_if_eq E 22 gdX11_mark_8 (by decide) h (fun h => ?_) (fun h => ?_)
  ·
    refine g_sub E [] rfl ?_
    exact j22 o h
  ·
    refine g_iload_n E gdX11_mark_11 rfl 2 rfl ?_
    refine g_iconst E gdX11_mark_12 ?_
    refine g_icmp_lt E 22 gdX11_mark_13 (by decide) h (fun h => ?_) (fun h => ?_)
    ·
      refine g_sub E [] rfl ?_
      exact j22 o h
    ·
      refine g_iload_n E gdX11_mark_16 rfl 2 rfl ?_
      refine g_bipush E gdX11_mark_17 (by decide) ?_
      refine g_icmp_le E 24 gdX11_mark_19 (by decide) h (fun h => ?_) (fun h => ?_)
      ·
        refine g_aload_n E gdX11_mark_24 rfl 0 rfl ?_
        refine g_get (T := TX11) E fw_X11 0 (wC_0 g ad o) rfl 6 (by decide) w_464 rfl rfl gdX11_mark_25 ?_
        refine g_iload_n E gdX11_mark_28 rfl 1 rfl ?_
        refine g_iload_n E gdX11_mark_29 rfl 2 rfl ?_
        obtain ⟨r3, hc4, h⟩ := qB_of h
        refine g_Vi (r := r3) (As := [iv x1, iv x2]) (rest := []) (w := wC g ad o) E (c_X4_isOf l g ad o x1 x2 r3 hc4) okm_X4_isOf okw_X4_isOf w_886 rfl (wC_32 g ad o) rfl rfl (Nat.le_of_ble_eq_true rfl) ⟨Nat.le_of_ble_eq_true rfl, Nat.le_of_ble_eq_true rfl⟩ gdX11_mark_30 ?_
        refine g_if_ne E 42 gdX11_mark_33 (by decide) h (fun h => ?_) (fun h => ?_)
        ·
          refine g_iload_n E gdX11_mark_42 rfl 2 rfl ?_
          obtain ⟨h1, -, ⟨hx, h⟩ | ⟨hx0, h⟩⟩ := qEq_of h
          ·
            refine g_tabIn (kx := 1) (off := 37) E 80 gdX11_mark_43 hx (by decide) (by decide) (by decide) (by decide) (by decide) ?_
            refine g_aload_n E gdX11_mark_80 rfl 0 rfl ?_
            refine g_get (T := TX11) E fw_X11 0 (wC_0 g ad o) rfl 6 (by decide) w_464 rfl rfl gdX11_mark_81 ?_
            refine g_iload_n E gdX11_mark_84 rfl 1 rfl ?_
            obtain ⟨r5, hc6, h⟩ := qB_of h
            refine g_Vi (r := r5) (As := [iv x1]) (rest := []) (w := wC g ad o) E (c_X4_lengthOf l g ad o x1 r5 hc6) okm_X4_lengthOf okw_X4_lengthOf w_1023 rfl (wC_32 g ad o) rfl rfl (Nat.le_of_ble_eq_true rfl) ⟨Nat.le_of_ble_eq_true rfl, Nat.le_of_ble_eq_true rfl⟩ gdX11_mark_85 ?_
            exact g_iret E hQ (by rw [← Option.some.inj h]) (by rw [← Option.some.inj h]) gdX11_mark_88
          ·
            obtain ⟨h1, -, ⟨hx, h⟩ | ⟨hx1, h⟩⟩ := qEq_of h
            ·
              refine g_tabIn (kx := 2) (off := 46) E 89 gdX11_mark_43 hx (by decide) (by decide) (by decide) (by decide) (by decide) ?_
              refine g_aload_n E gdX11_mark_89 rfl 0 rfl ?_
              refine g_get (T := TX11) E fw_X11 0 (wC_0 g ad o) rfl 6 (by decide) w_464 rfl rfl gdX11_mark_90 ?_
              refine g_iload_n E gdX11_mark_93 rfl 1 rfl ?_
              refine g_iconst E gdX11_mark_94 ?_
              obtain ⟨r7, hc8, h⟩ := qB_of h
              refine g_Vi (r := r7) (As := [iv x1, iv 0]) (rest := []) (w := wC g ad o) E (c_X4_cellAt l g ad o x1 0 r7 hc8) okm_X4_cellAt okw_X4_cellAt w_911 rfl (wC_32 g ad o) rfl rfl (Nat.le_of_ble_eq_true rfl) ⟨Nat.le_of_ble_eq_true rfl, Nat.le_of_ble_eq_true rfl⟩ gdX11_mark_95 ?_
              exact g_iret E hQ (by rw [← Option.some.inj h]) (by rw [← Option.some.inj h]) gdX11_mark_98
            ·
              obtain ⟨h1, -, ⟨hx, h⟩ | ⟨hx2, h⟩⟩ := qEq_of h
              ·
                refine g_tabIn (kx := 3) (off := 71) E 114 gdX11_mark_43 hx (by decide) (by decide) (by decide) (by decide) (by decide) ?_
                refine g_aload_n E gdX11_mark_114 rfl 0 rfl ?_
                refine g_get (T := TX11) E fw_X11 0 (wC_0 g ad o) rfl 6 (by decide) w_464 rfl rfl gdX11_mark_115 ?_
                refine g_iload_n E gdX11_mark_118 rfl 1 rfl ?_
                obtain ⟨r9, hc10, h⟩ := qB_of h
                refine g_Vi (r := r9) (As := [iv x1]) (rest := []) (w := wC g ad o) E (c_X4_amountOf l g ad o x1 r9 hc10) okm_X4_amountOf okw_X4_amountOf w_1046 rfl (wC_32 g ad o) rfl rfl (Nat.le_of_ble_eq_true rfl) ⟨Nat.le_of_ble_eq_true rfl, Nat.le_of_ble_eq_true rfl⟩ gdX11_mark_119 ?_
                exact g_iret E hQ (by rw [← Option.some.inj h]) (by rw [← Option.some.inj h]) gdX11_mark_122
              ·
                obtain ⟨h1, -, ⟨hx, h⟩ | ⟨hx3, h⟩⟩ := qEq_of h
                ·
                  refine g_tabIn (kx := 4) (off := 56) E 99 gdX11_mark_43 hx (by decide) (by decide) (by decide) (by decide) (by decide) ?_
                  refine g_aload_n E gdX11_mark_99 rfl 0 rfl ?_
                  refine g_get (T := TX11) E fw_X11 0 (wC_0 g ad o) rfl 6 (by decide) w_464 rfl rfl gdX11_mark_100 ?_
                  refine g_iload_n E gdX11_mark_103 rfl 1 rfl ?_
                  obtain ⟨r11, hc12, h⟩ := qB_of h
                  refine g_Vi (r := r11) (As := [iv x1]) (rest := []) (w := wC g ad o) E (c_X4_partyOf l g ad o x1 r11 hc12) okm_X4_partyOf okw_X4_partyOf w_1027 rfl (wC_32 g ad o) rfl rfl (Nat.le_of_ble_eq_true rfl) ⟨Nat.le_of_ble_eq_true rfl, Nat.le_of_ble_eq_true rfl⟩ gdX11_mark_104 ?_
                  exact g_iret E hQ (by rw [← Option.some.inj h]) (by rw [← Option.some.inj h]) gdX11_mark_107
                ·
                  obtain ⟨h1, -, ⟨hx, h⟩ | ⟨hx4, h⟩⟩ := qEq_of h
                  ·
                    refine g_tabIn (kx := 5) (off := 71) E 114 gdX11_mark_43 hx (by decide) (by decide) (by decide) (by decide) (by decide) ?_
                    refine g_aload_n E gdX11_mark_114 rfl 0 rfl ?_
                    refine g_get (T := TX11) E fw_X11 0 (wC_0 g ad o) rfl 6 (by decide) w_464 rfl rfl gdX11_mark_115 ?_
                    refine g_iload_n E gdX11_mark_118 rfl 1 rfl ?_
                    obtain ⟨r13, hc14, h⟩ := qB_of h
                    refine g_Vi (r := r13) (As := [iv x1]) (rest := []) (w := wC g ad o) E (c_X4_amountOf l g ad o x1 r13 hc14) okm_X4_amountOf okw_X4_amountOf w_1046 rfl (wC_32 g ad o) rfl rfl (Nat.le_of_ble_eq_true rfl) ⟨Nat.le_of_ble_eq_true rfl, Nat.le_of_ble_eq_true rfl⟩ gdX11_mark_119 ?_
                    exact g_iret E hQ (by rw [← Option.some.inj h]) (by rw [← Option.some.inj h]) gdX11_mark_122
                  ·
                    obtain ⟨h1, -, ⟨hx, h⟩ | ⟨hx5, h⟩⟩ := qEq_of h
                    ·
                      refine g_tabIn (kx := 6) (off := 65) E 108 gdX11_mark_43 hx (by decide) (by decide) (by decide) (by decide) (by decide) ?_
                      refine g_aload_n E gdX11_mark_108 rfl 0 rfl ?_
                      refine g_iload_n E gdX11_mark_109 rfl 1 rfl ?_
                      obtain ⟨r15, hc16, h⟩ := qB_of h
                      refine g_Vi (r := r15) (As := [iv x1]) (rest := []) (w := wC g ad o) E (c_X11_couldCome l g ad o x1 r15 hc16) okm_X11_couldCome okw_X11_couldCome w_1031 rfl (wC_0 g ad o) rfl rfl (Nat.le_of_ble_eq_true rfl) ⟨Nat.le_of_ble_eq_true rfl, Nat.le_of_ble_eq_true rfl⟩ gdX11_mark_110 ?_
                      exact g_iret E hQ (by rw [← Option.some.inj h]) (by rw [← Option.some.inj h]) gdX11_mark_113
                    ·
                      refine g_tabOut E 114 gdX11_mark_43 h1 (by omega) (by decide) ?_
                      refine g_aload_n E gdX11_mark_114 rfl 0 rfl ?_
                      refine g_get (T := TX11) E fw_X11 0 (wC_0 g ad o) rfl 6 (by decide) w_464 rfl rfl gdX11_mark_115 ?_
                      refine g_iload_n E gdX11_mark_118 rfl 1 rfl ?_
                      obtain ⟨r17, hc18, h⟩ := qB_of h
                      refine g_Vi (r := r17) (As := [iv x1]) (rest := []) (w := wC g ad o) E (c_X4_amountOf l g ad o x1 r17 hc18) okm_X4_amountOf okw_X4_amountOf w_1046 rfl (wC_32 g ad o) rfl rfl (Nat.le_of_ble_eq_true rfl) ⟨Nat.le_of_ble_eq_true rfl, Nat.le_of_ble_eq_true rfl⟩ gdX11_mark_119 ?_
                      exact g_iret E hQ (by rw [← Option.some.inj h]) (by rw [← Option.some.inj h]) gdX11_mark_122
        ·
          refine g_aload_n E gdX11_mark_36 rfl 0 rfl ?_
          refine g_iconst E gdX11_mark_37 ?_
          obtain ⟨r19, o21, hc20, h⟩ := qB2_of h
          refine g_Vi (r := r19) (As := [iv 3]) (rest := []) (w := wC g ad o21) E (c_X11_found l g ad o 3 (r19, o21) hc20) okm_X11_found okw_X11_found w_521 rfl (wC_0 g ad o) rfl rfl (Nat.le_of_ble_eq_true rfl) ⟨Nat.le_of_ble_eq_true rfl, Nat.le_of_ble_eq_true rfl⟩ gdX11_mark_38 ?_
          exact g_iret E hQ (by rw [← Option.some.inj h]) (by rw [← Option.some.inj h]) gdX11_mark_41
      ·
        refine g_sub E [] rfl ?_
        exact j22 o h
set_option maxHeartbeats 4000000 in
set_option maxRecDepth 100000 in
theorem c_X11_mean (l : Launch) (g : GG) (ad : Nat → Nat) (o : OO) (x1 : Int) (v : Int × OO) (h : s_X11_mean o x1 = some v) : CI l g yX11_mean cX11_mean 5 (some .int) 1 22 (wC g ad o) [.ref (ad 0), iv x1] v.1 (wC g ad v.2) := by
  refine met_I (by decide) (Nat.le_of_ble_eq_true rfl) ?_
  intro X E hQ
  show Go X 0 (wC g ad o) [(0, .ref (ad 0)), (1, iv x1)] []
  have j65 : ∀ (o : OO) (x2 : Int) (x3 : Int), b_X11_mean_65 o x2 x3 = some v → Go X 65 (wC g ad o) [(0, .ref (ad 0)), (2, iv x2), (3, iv x3)] [] := by
    intro o x2 x3 h
    unfold b_X11_mean_65 at h
    refine g_iload_n E gdX11_mean_65 rfl 1 rfl ?_
    refine g_if_ne E 75 gdX11_mean_66 (by decide) h (fun h => ?_) (fun h => ?_)
    ·
      refine g_aload_n E gdX11_mean_75 rfl 0 rfl ?_
      refine g_iload_n E gdX11_mean_76 rfl 2 rfl ?_
      refine g_iload_n E gdX11_mean_77 rfl 1 rfl ?_
      obtain ⟨hd1, h⟩ := qDv_of h
      refine g_idiv E hd1 gdX11_mean_78 ?_
      obtain ⟨r2, o4, hc3, h⟩ := qB2_of h
      refine g_Vi (r := r2) (As := [iv (jq x3 x2)]) (rest := []) (w := wC g ad o4) E (c_X11_tell l g ad o (jq x3 x2) (r2, o4) hc3) okm_X11_tell okw_X11_tell w_551 rfl (wC_0 g ad o) rfl rfl (Nat.le_of_ble_eq_true rfl) ⟨Nat.le_of_ble_eq_true rfl, Nat.le_of_ble_eq_true rfl⟩ gdX11_mean_79 ?_
      exact g_iret E hQ (by rw [← Option.some.inj h]) (by rw [← Option.some.inj h]) gdX11_mean_82
    ·
      refine g_aload_n E gdX11_mean_69 rfl 0 rfl ?_
      refine g_iconst E gdX11_mean_70 ?_
      obtain ⟨r5, o7, hc6, h⟩ := qB2_of h
      refine g_Vi (r := r5) (As := [iv 4]) (rest := []) (w := wC g ad o7) E (c_X11_found l g ad o 4 (r5, o7) hc6) okm_X11_found okw_X11_found w_521 rfl (wC_0 g ad o) rfl rfl (Nat.le_of_ble_eq_true rfl) ⟨Nat.le_of_ble_eq_true rfl, Nat.le_of_ble_eq_true rfl⟩ gdX11_mean_71 ?_
      exact g_iret E hQ (by rw [← Option.some.inj h]) (by rw [← Option.some.inj h]) gdX11_mean_74
  have j59 : ∀ (o : OO) (x1 : Int) (x2 : Int) (x3 : Int) (x4 : Int) (v : (Int × Int × Int) ⊕ ((Int × Int))), b_X11_mean_59 o x1 x2 x3 x4 = some v → (∀ (x2 : Int) (x3 : Int) (x4 : Int), v = .inl (x2, x3, x4) → Go X 16 (wC g ad o) [(0, .ref (ad 0)), (1, iv x1), (2, iv x2), (3, iv x3), (4, iv x4)] []) → (∀ (x2 : Int) (x3 : Int), v = .inr ((x2, x3)) → Go X 65 (wC g ad o) [(0, .ref (ad 0)), (2, iv x2), (3, iv x3)] []) → Go X 59 (wC g ad o) [(0, .ref (ad 0)), (1, iv x1), (2, iv x2), (3, iv x3), (4, iv x4)] [] := by
    intro o x1 x2 x3 x4 v h k0 k1
    unfold b_X11_mean_59 at h
    refine g_iinc E [(4, iv (x4 + 1)), (0, .ref (ad 0)), (1, iv x1), (2, iv x2), (3, iv x3)] gdX11_mean_59 4 rfl (by decide) rfl ?_
    refine g_goto E 16 gdX11_mean_62 (by decide) ?_
    refine g_sub E [1, 2, 3, 4, 0] rfl ?_
    exact k0 x2 x3 (x4 + 1) (Option.some.inj h).symm
  have l16 : ∀ (o : OO) (x1 : Int) (r : (Int × Int)) (s0 : Int × Int × Int), loopW (fun s => l_X11_mean_16 o x1 s.1 s.2.1 s.2.2) s0 = some r → (∀ (x2 : Int) (x3 : Int), r = ((x2, x3)) → Go X 65 (wC g ad o) [(0, .ref (ad 0)), (2, iv x2), (3, iv x3)] []) → Go X 16 (wC g ad o) [(0, .ref (ad 0)), (1, iv x1), (2, iv s0.1), (3, iv s0.2.1), (4, iv s0.2.2)] [] := by
    intro o x1 r s0 h k1
    refine loop_rule (Head := fun s0 => Go X 16 (wC g ad o) [(0, .ref (ad 0)), (1, iv x1), (2, iv s0.1), (3, iv s0.2.1), (4, iv s0.2.2)] []) h ?_
    intro s v h kk kx
    obtain ⟨x2, x3, x4⟩ := s
    have h : l_X11_mean_16 o x1 x2 x3 x4 = some v := h
    have k0 : ∀ (x2 : Int) (x3 : Int) (x4 : Int), v = .inl (x2, x3, x4) → Go X 16 (wC g ad o) [(0, .ref (ad 0)), (1, iv x1), (2, iv x2), (3, iv x3), (4, iv x4)] [] := fun x2 x3 x4 e => kk (x2, x3, x4) e
    have k1 : ∀ (x2 : Int) (x3 : Int), v = .inr ((x2, x3)) → Go X 65 (wC g ad o) [(0, .ref (ad 0)), (2, iv x2), (3, iv x3)] [] := fun x2 x3 e => k1 x2 x3 (kx _ e).symm
    unfold l_X11_mean_16 at h
    refine g_iload E gdX11_mean_16 4 rfl ?_
    refine g_aload_n E gdX11_mean_18 rfl 0 rfl ?_
    refine g_get (T := TX11) E fw_X11 0 (wC_0 g ad o) rfl 3 (by decide) w_461 rfl rfl gdX11_mean_19 ?_
    obtain ⟨r8, hc9, h⟩ := qB_of h
    refine g_Vi (r := r8) (As := []) (rest := [iv x4]) (w := wC g ad o) E (c_X1_number l g ad o r8 hc9) okm_X1_number okw_X1_number w_643 rfl (wC_10 g ad o) rfl rfl (Nat.le_of_ble_eq_true rfl) ⟨Nat.le_of_ble_eq_true rfl, Nat.le_of_ble_eq_true rfl⟩ gdX11_mean_22 ?_
    refine g_icmp_ge E 65 gdX11_mean_25 (by decide) h (fun h => ?_) (fun h => ?_)
    ·
      refine g_sub E [0, 2, 3] rfl ?_
      exact k1 x2 x3 (Option.some.inj h).symm
    ·
      refine g_aload_n E gdX11_mean_28 rfl 0 rfl ?_
      refine g_get (T := TX11) E fw_X11 0 (wC_0 g ad o) rfl 3 (by decide) w_461 rfl rfl gdX11_mean_29 ?_
      refine g_iload E gdX11_mean_32 4 rfl ?_
      refine g_iload_n E gdX11_mean_34 rfl 1 rfl ?_
      obtain ⟨r10, hc11, h⟩ := qB_of h
      refine g_Vi (r := r10) (As := [iv x4, iv x1]) (rest := []) (w := wC g ad o) E (c_X1_stands l g ad o x4 x1 r10 hc11) okm_X1_stands okw_X1_stands w_747 rfl (wC_10 g ad o) rfl rfl (Nat.le_of_ble_eq_true rfl) ⟨Nat.le_of_ble_eq_true rfl, Nat.le_of_ble_eq_true rfl⟩ gdX11_mean_35 ?_
      refine g_if_ne E 44 gdX11_mean_38 (by decide) h (fun h => ?_) (fun h => ?_)
      ·
        refine g_iinc E [(2, iv (x2 + 1)), (0, .ref (ad 0)), (1, iv x1), (3, iv x3), (4, iv x4)] gdX11_mean_44 2 rfl (by decide) rfl ?_
        refine g_iload_n E gdX11_mean_47 rfl 3 rfl ?_
        refine g_aload_n E gdX11_mean_48 rfl 1 rfl ?_
        refine g_get (T := TX11) E fw_X11 0 (wC_0 g ad o) rfl 3 (by decide) w_461 rfl rfl gdX11_mean_49 ?_
        refine g_iload E gdX11_mean_52 4 rfl ?_
        obtain ⟨r12, hc13, h⟩ := qB_of h
        refine g_Vi (r := r12) (As := [iv x4]) (rest := [iv x3]) (w := wC g ad o) E (c_X1_latestWorth l g ad o x4 r12 hc13) okm_X1_latestWorth okw_X1_latestWorth w_675 rfl (wC_10 g ad o) rfl rfl (Nat.le_of_ble_eq_true rfl) ⟨Nat.le_of_ble_eq_true rfl, Nat.le_of_ble_eq_true rfl⟩ gdX11_mean_54 ?_
        refine g_iadd E gdX11_mean_57 ?_
        obtain ⟨n14, e_n14, h⟩ := qNm_of h
        refine g_nmi e_n14 ?_
        refine g_istore_n E [(3, iv n14), (2, iv (x2 + 1)), (0, .ref (ad 0)), (1, iv x1), (4, iv x4)] gdX11_mean_58 rfl (by decide) rfl ?_
        refine g_sub E [2, 3, 1, 0, 4] rfl ?_
        exact j59 o x1 (x2 + 1) n14 x4 v h k0 k1
      ·
        refine g_goto E 59 gdX11_mean_41 (by decide) ?_
        exact j59 o x1 x2 x3 x4 v h k0 k1
  have j16 : ∀ (o : OO) (x1 : Int) (x2 : Int) (x3 : Int) (x4 : Int), e_X11_mean_16 o x1 x2 x3 x4 = some v → Go X 16 (wC g ad o) [(0, .ref (ad 0)), (1, iv x1), (2, iv x2), (3, iv x3), (4, iv x4)] [] := by
    intro o x1 x2 x3 x4 h
    unfold e_X11_mean_16 at h
    obtain ⟨r, hr, h⟩ := qB_of h
    refine l16 o x1 r _ hr ?_
    ·
      intro u0 u1 e
      subst e
      have h : b_X11_mean_65 o u0 u1 = some v := h
      exact j65 o u0 u1 h
  unfold s_X11_mean at h
  refine g_iload_n E gdX11_mean_0 rfl 1 rfl ?_
  obtain ⟨r15, hc16, h⟩ := qB_of h
  refine g_Si (r := r15) (As := [iv x1]) (rest := []) (w := wC g ad o) E (c_X1_isUse l g (wC g ad o) x1 r15 hc16) okm_X1_isUse w_637 w_636 rfl rfl (Nat.le_of_ble_eq_true rfl) ⟨Nat.le_of_ble_eq_true rfl, Nat.le_of_ble_eq_true rfl⟩ gdX11_mean_1 ?_
  refine g_if_ne E 9 gdX11_mean_4 (by decide) h (fun h => ?_) (fun h => ?_)
  ·
    refine g_iconst E gdX11_mean_9 ?_
    refine g_istore_n E [(2, iv 0), (0, .ref (ad 0)), (1, iv x1)] gdX11_mean_10 rfl (by decide) rfl ?_
    refine g_iconst E gdX11_mean_11 ?_
    refine g_istore_n E [(3, iv 0), (2, iv 0), (0, .ref (ad 0)), (1, iv x1)] gdX11_mean_12 rfl (by decide) rfl ?_
    refine g_iconst E gdX11_mean_13 ?_
    refine g_istore E [(4, iv 0), (3, iv 0), (2, iv 0), (0, .ref (ad 0)), (1, iv x1)] gdX11_mean_14 (by decide) rfl ?_
    refine g_sub E [3, 4, 2, 1, 0] rfl ?_
    exact j16 o x1 0 0 0 h
  ·
    refine g_iconst E gdX11_mean_7 ?_
    exact g_iret E hQ (by rw [← Option.some.inj h]) (by rw [← Option.some.inj h]) gdX11_mean_8
set_option maxHeartbeats 4000000 in
set_option maxRecDepth 100000 in
theorem c_X4_livedThere (l : Launch) (g : GG) (ad : Nat → Nat) (o : OO) (x1 : Int) (x2 : Int) (v : Int) (h : s_X4_livedThere o x1 x2 = some v) : CI l g yX4_livedThere cX4_livedThere 3 (some .boolean) 0 0 (wC g ad o) [.ref (ad 32), iv x1, iv x2] v (wC g ad o) := by
  refine met_I (by decide) (Nat.le_of_ble_eq_true rfl) ?_
  intro X E hQ
  show Go X 0 (wC g ad o) [(0, .ref (ad 32)), (1, iv x1), (2, iv x2)] []
  have j20 : ∀ (y0 : Int), b_X4_livedThere_20 o y0 = some v → Go X 20 (wC g ad o) [] [iv y0] := by
    intro y0 h
    unfold b_X4_livedThere_20 at h
    obtain ⟨hz, h⟩ := qZ_of h
    exact g_zret E hQ hz (Option.some.inj h) rfl gdX4_livedThere_20
  unfold s_X4_livedThere at h
  refine g_aload_n E gdX4_livedThere_0 rfl 0 rfl ?_
  refine g_get (T := TX4) E fw_X4 32 (wC_32 g ad o) rfl 12 (by decide) w_263 rfl rfl gdX4_livedThere_1 ?_
  refine g_iload_n E gdX4_livedThere_4 rfl 1 rfl ?_
  obtain ⟨hi1, h⟩ := qIn_of h
  refine g_lald E 45 (wC_45 g ad o) (by decide) hi1 gdX4_livedThere_5 ?_
  obtain ⟨m2, e_m2, h⟩ := qNm_of h
  refine g_nml e_m2 ?_
  refine g_iload_n E gdX4_livedThere_6 rfl 2 rfl ?_
  refine g_lushr E gdX4_livedThere_7 ?_
  refine g_lconst (v := 1) E gdX4_livedThere_8 (by decide) ?_
  refine g_land E gdX4_livedThere_9 ?_
  refine g_lconst (v := 1) E gdX4_livedThere_10 (by decide) ?_
  refine g_lcmp_ne E 19 gdX4_livedThere_11 gdX4_livedThere_12 (by decide) h (fun h => ?_) (fun h => ?_)
  ·
    refine g_iconst E gdX4_livedThere_19 ?_
    refine g_sub E [] rfl ?_
    exact j20 0 h
  ·
    refine g_iconst E gdX4_livedThere_15 ?_
    refine g_goto E 20 gdX4_livedThere_16 (by decide) ?_
    refine g_sub E [] rfl ?_
    exact j20 1 h
set_option maxHeartbeats 4000000 in
set_option maxRecDepth 100000 in
theorem c_X1_roomsLeft (l : Launch) (g : GG) (ad : Nat → Nat) (o : OO) (x1 : Int) (v : Int) (h : s_X1_roomsLeft o x1 = some v) : CI l g yX1_roomsLeft cX1_roomsLeft 2 (some .int) 1 22 (wC g ad o) [.ref (ad 10), iv x1] v (wC g ad o) := by
  refine met_I (by decide) (Nat.le_of_ble_eq_true rfl) ?_
  intro X E hQ
  show Go X 0 (wC g ad o) [(0, .ref (ad 10)), (1, iv x1)] []
  have j26 : ∀ (y0 : Int), b_X1_roomsLeft_26 o y0 = some v → Go X 26 (wC g ad o) [] [iv y0] := by
    intro y0 h
    unfold b_X1_roomsLeft_26 at h
    exact g_iret E hQ (Option.some.inj h) rfl gdX1_roomsLeft_26
  unfold s_X1_roomsLeft at h
  refine g_aload_n E gdX1_roomsLeft_0 rfl 0 rfl ?_
  refine g_iload_n E gdX1_roomsLeft_1 rfl 1 rfl ?_
  refine g_iconst E gdX1_roomsLeft_2 ?_
  obtain ⟨r1, hc2, h⟩ := qB_of h
  refine g_Vi (r := r1) (As := [iv x1, iv 0]) (rest := []) (w := wC g ad o) E (c_X1_stands l g ad o x1 0 r1 hc2) okm_X1_stands okw_X1_stands w_711 rfl (wC_10 g ad o) rfl rfl (Nat.le_of_ble_eq_true rfl) ⟨Nat.le_of_ble_eq_true rfl, Nat.le_of_ble_eq_true rfl⟩ gdX1_roomsLeft_3 ?_
  refine g_if_eq E 25 gdX1_roomsLeft_6 (by decide) h (fun h => ?_) (fun h => ?_)
  ·
    refine g_iconst E gdX1_roomsLeft_25 ?_
    refine g_sub E [] rfl ?_
    exact j26 0 h
  ·
    refine g_aload_n E gdX1_roomsLeft_9 rfl 0 rfl ?_
    refine g_get (T := TX1) E fw_X1 10 (wC_10 g ad o) rfl 2 (by decide) w_162 rfl rfl gdX1_roomsLeft_10 ?_
    refine g_iload_n E gdX1_roomsLeft_13 rfl 1 rfl ?_
    obtain ⟨hi3, h⟩ := qIn_of h
    refine g_iald E 13 (wC_13 g ad o) (by decide) hi3 gdX1_roomsLeft_14 ?_
    obtain ⟨n4, e_n4, h⟩ := qNm_of h
    refine g_nmi e_n4 ?_
    refine g_aload_n E gdX1_roomsLeft_15 rfl 0 rfl ?_
    refine g_get (T := TX1) E fw_X1 10 (wC_10 g ad o) rfl 3 (by decide) w_163 rfl rfl gdX1_roomsLeft_16 ?_
    refine g_iload_n E gdX1_roomsLeft_19 rfl 1 rfl ?_
    obtain ⟨hi5, h⟩ := qIn_of h
    refine g_iald E 14 (wC_14 g ad o) (by decide) hi5 gdX1_roomsLeft_20 ?_
    obtain ⟨n6, e_n6, h⟩ := qNm_of h
    refine g_nmi e_n6 ?_
    refine g_isub E gdX1_roomsLeft_21 ?_
    refine g_goto E 26 gdX1_roomsLeft_22 (by decide) ?_
    refine g_sub E [] rfl ?_
    exact j26 (n4 - n6) h
set_option maxHeartbeats 4000000 in
set_option maxRecDepth 100000 in
theorem c_X4_setMoved (l : Launch) (g : GG) (ad : Nat → Nat) (o : OO) (x1 : Int) (x2 : Int) (x3 : Int) (v : OO) (h : s_X4_setMoved o x1 x2 x3 = some v) : CV l g yX4_setMoved cX4_setMoved 4 0 0 (wC g ad o) [.ref (ad 32), iv x1, iv x2, iv x3] (wC g ad v) := by
  refine met_V (by decide) (Nat.le_of_ble_eq_true rfl) ?_
  intro X E hQ
  show Go X 0 (wC g ad o) [(0, .ref (ad 32)), (1, iv x1), (2, iv x2), (3, iv x3)] []
  unfold s_X4_setMoved at h
  refine g_aload_n E gdX4_setMoved_0 rfl 0 rfl ?_
  refine g_get (T := TX4) E fw_X4 32 (wC_32 g ad o) rfl 8 (by decide) w_259 rfl rfl gdX4_setMoved_1 ?_
  refine g_iload_n E gdX4_setMoved_4 rfl 1 rfl ?_
  refine g_iload_n E gdX4_setMoved_5 rfl 2 rfl ?_
  obtain ⟨hi1, h⟩ := qIn_of h
  obtain ⟨o2, e_o2, h⟩ := qNm_of h
  refine g_iast (ws' := wC g ad o2) E 41 (wC_41 g ad o) (by decide) hi1 (by rw [e_o2]; exact wC_s41 g ad o _ _) gdX4_setMoved_6 ?_
  refine g_aload_n E gdX4_setMoved_7 rfl 0 rfl ?_
  refine g_get (T := TX4) E fw_X4 32 (wC_32 g ad o2) rfl 9 (by decide) w_260 rfl rfl gdX4_setMoved_8 ?_
  refine g_iload_n E gdX4_setMoved_11 rfl 1 rfl ?_
  refine g_iload_n E gdX4_setMoved_12 rfl 3 rfl ?_
  obtain ⟨hi3, h⟩ := qIn_of h
  obtain ⟨o4, e_o4, h⟩ := qNm_of h
  refine g_iast (ws' := wC g ad o4) E 42 (wC_42 g ad o2) (by decide) hi3 (by rw [e_o4]; exact wC_s42 g ad o2 _ _) gdX4_setMoved_13 ?_
  exact g_vret E hQ (by rw [← Option.some.inj h]) gdX4_setMoved_14
set_option maxHeartbeats 4000000 in
set_option maxRecDepth 100000 in
theorem c_X5_setHome (l : Launch) (g : GG) (ad : Nat → Nat) (o : OO) (x1 : Int) (x2 : Int) (v : OO) (h : s_X5_setHome o x1 x2 = some v) : CV l g yX5_setHome cX5_setHome 3 0 0 (wC g ad o) [.ref (ad 23), iv x1, iv x2] (wC g ad v) := by
  refine met_V (by decide) (Nat.le_of_ble_eq_true rfl) ?_
  intro X E hQ
  show Go X 0 (wC g ad o) [(0, .ref (ad 23)), (1, iv x1), (2, iv x2)] []
  unfold s_X5_setHome at h
  refine g_aload_n E gdX5_setHome_0 rfl 0 rfl ?_
  refine g_get (T := TX5) E fw_X5 23 (wC_23 g ad o) rfl 0 (by decide) w_210 rfl rfl gdX5_setHome_1 ?_
  refine g_iload_n E gdX5_setHome_4 rfl 1 rfl ?_
  refine g_iload_n E gdX5_setHome_5 rfl 2 rfl ?_
  obtain ⟨hi1, h⟩ := qIn_of h
  obtain ⟨o2, e_o2, h⟩ := qNm_of h
  refine g_iast (ws' := wC g ad o2) E 24 (wC_24 g ad o) (by decide) hi1 (by rw [e_o2]; exact wC_s24 g ad o _ _) gdX5_setHome_6 ?_
  exact g_vret E hQ (by rw [← Option.some.inj h]) gdX5_setHome_7
set_option maxHeartbeats 4000000 in
set_option maxRecDepth 100000 in
theorem c_X1_enter (l : Launch) (g : GG) (ad : Nat → Nat) (o : OO) (x1 : Int) (v : OO) (h : s_X1_enter o x1 = some v) : CV l g yX1_enter cX1_enter 2 0 0 (wC g ad o) [.ref (ad 10), iv x1] (wC g ad v) := by
  refine met_V (by decide) (Nat.le_of_ble_eq_true rfl) ?_
  intro X E hQ
  show Go X 0 (wC g ad o) [(0, .ref (ad 10)), (1, iv x1)] []
  unfold s_X1_enter at h
  refine g_aload_n E gdX1_enter_0 rfl 0 rfl ?_
  refine g_get (T := TX1) E fw_X1 10 (wC_10 g ad o) rfl 3 (by decide) w_163 rfl rfl gdX1_enter_1 ?_
  refine g_iload_n E gdX1_enter_4 rfl 1 rfl ?_
  refine g_dup2 E gdX1_enter_5 rfl rfl ?_
  obtain ⟨hi1, h⟩ := qIn_of h
  refine g_iald E 14 (wC_14 g ad o) (by decide) hi1 gdX1_enter_6 ?_
  obtain ⟨n2, e_n2, h⟩ := qNm_of h
  refine g_nmi e_n2 ?_
  refine g_iconst E gdX1_enter_7 ?_
  refine g_iadd E gdX1_enter_8 ?_
  obtain ⟨hi3, h⟩ := qIn_of h
  obtain ⟨o4, e_o4, h⟩ := qNm_of h
  refine g_iast (ws' := wC g ad o4) E 14 (wC_14 g ad o) (by decide) hi3 (by rw [e_o4]; exact wC_s14 g ad o _ _) gdX1_enter_9 ?_
  exact g_vret E hQ (by rw [← Option.some.inj h]) gdX1_enter_10
set_option maxHeartbeats 4000000 in
set_option maxRecDepth 100000 in
theorem c_X11_settle (l : Launch) (g : GG) (ad : Nat → Nat) (o : OO) (x1 : Int) (x2 : Int) (v : OO) (h : s_X11_settle o x1 x2 = some v) : CV l g yX11_settle cX11_settle 3 1 22 (wC g ad o) [.ref (ad 0), iv x1, iv x2] (wC g ad v) := by
  refine met_V (by decide) (Nat.le_of_ble_eq_true rfl) ?_
  intro X E hQ
  show Go X 0 (wC g ad o) [(0, .ref (ad 0)), (1, iv x1), (2, iv x2)] []
  unfold s_X11_settle at h
  refine g_aload_n E gdX11_settle_0 rfl 0 rfl ?_
  refine g_get (T := TX11) E fw_X11 0 (wC_0 g ad o) rfl 4 (by decide) w_462 rfl rfl gdX11_settle_1 ?_
  refine g_iload_n E gdX11_settle_4 rfl 1 rfl ?_
  refine g_iload_n E gdX11_settle_5 rfl 2 rfl ?_
  obtain ⟨o3, hc2, h⟩ := qB_of h
  refine g_Vv (As := [iv x1, iv x2]) (rest := []) (w := wC g ad o3) E (c_X5_setHome l g ad o x1 x2 o3 hc2) okm_X5_setHome okw_X5_setHome w_723 rfl (wC_23 g ad o) rfl rfl (Nat.le_of_ble_eq_true rfl) ⟨Nat.le_of_ble_eq_true rfl, Nat.le_of_ble_eq_true rfl⟩ gdX11_settle_6 ?_
  refine g_aload_n E gdX11_settle_9 rfl 0 rfl ?_
  refine g_get (T := TX11) E fw_X11 0 (wC_0 g ad o3) rfl 3 (by decide) w_461 rfl rfl gdX11_settle_10 ?_
  refine g_iload_n E gdX11_settle_13 rfl 2 rfl ?_
  obtain ⟨o6, hc5, h⟩ := qB_of h
  refine g_Vv (As := [iv x2]) (rest := []) (w := wC g ad o6) E (c_X1_enter l g ad o3 x2 o6 hc5) okm_X1_enter okw_X1_enter w_727 rfl (wC_10 g ad o3) rfl rfl (Nat.le_of_ble_eq_true rfl) ⟨Nat.le_of_ble_eq_true rfl, Nat.le_of_ble_eq_true rfl⟩ gdX11_settle_14 ?_
  exact g_vret E hQ (by rw [← Option.some.inj h]) gdX11_settle_17
set_option maxHeartbeats 4000000 in
set_option maxRecDepth 100000 in
theorem c_X11_moved (l : Launch) (g : GG) (ad : Nat → Nat) (o : OO) (x1 : Int) (x2 : Int) (x3 : Int) (v : Int × OO) (h : s_X11_moved o x1 x2 x3 = some v) : CI l g yX11_moved cX11_moved 6 (some .int) 3 70 (wC g ad o) [.ref (ad 0), iv x1, iv x2, iv x3] v.1 (wC g ad v.2) := by
  refine met_I (by decide) (Nat.le_of_ble_eq_true rfl) ?_
  intro X E hQ
  show Go X 0 (wC g ad o) [(0, .ref (ad 0)), (1, iv x1), (2, iv x2), (3, iv x3)] []
  have j33 : ∀ (o : OO), b_X11_moved_33 o = some v → Go X 33 (wC g ad o) [] [] := by
    intro o h
    unfold b_X11_moved_33 at h
    refine g_iconst E gdX11_moved_33 ?_
    exact g_iret E hQ (by rw [← Option.some.inj h]) (by rw [← Option.some.inj h]) gdX11_moved_34
  have j105 : ∀ (o : OO), b_X11_moved_105 o = some v → Go X 105 (wC g ad o) [] [] := by
    intro o h
    unfold b_X11_moved_105 at h
    refine g_bipush E gdX11_moved_105 (by decide) ?_
    exact g_iret E hQ (by rw [← Option.some.inj h]) (by rw [← Option.some.inj h]) gdX11_moved_107
  unfold s_X11_moved at h
  refine g_aload_n E gdX11_moved_0 rfl 0 rfl ?_
  refine g_get (T := TX11) E fw_X11 0 (wC_0 g ad o) rfl 6 (by decide) w_464 rfl rfl gdX11_moved_1 ?_
  refine g_iload_n E gdX11_moved_4 rfl 1 rfl ?_
  obtain ⟨r1, hc2, h⟩ := qB_of h
  refine g_Vi (r := r1) (As := [iv x1]) (rest := []) (w := wC g ad o) E (c_X4_exists l g ad o x1 r1 hc2) okm_X4_exists okw_X4_exists w_882 rfl (wC_32 g ad o) rfl rfl (Nat.le_of_ble_eq_true rfl) ⟨Nat.le_of_ble_eq_true rfl, Nat.le_of_ble_eq_true rfl⟩ gdX11_moved_5 ?_
  refine g_if_eq E 33 gdX11_moved_8 (by decide) h (fun h => ?_) (fun h => ?_)
  ·
    refine g_sub E [] rfl ?_
    exact j33 o h
  ·
    refine g_aload_n E gdX11_moved_11 rfl 0 rfl ?_
    refine g_get (T := TX11) E fw_X11 0 (wC_0 g ad o) rfl 4 (by decide) w_462 rfl rfl gdX11_moved_12 ?_
    refine g_iload_n E gdX11_moved_15 rfl 2 rfl ?_
    obtain ⟨r3, hc4, h⟩ := qB_of h
    refine g_Vi (r := r3) (As := [iv x2]) (rest := []) (w := wC g ad o) E (c_X5_exists l g ad o x2 r3 hc4) okm_X5_exists okw_X5_exists w_735 rfl (wC_23 g ad o) rfl rfl (Nat.le_of_ble_eq_true rfl) ⟨Nat.le_of_ble_eq_true rfl, Nat.le_of_ble_eq_true rfl⟩ gdX11_moved_16 ?_
    refine g_if_eq E 33 gdX11_moved_19 (by decide) h (fun h => ?_) (fun h => ?_)
    ·
      refine g_sub E [] rfl ?_
      exact j33 o h
    ·
      refine g_aload_n E gdX11_moved_22 rfl 0 rfl ?_
      refine g_get (T := TX11) E fw_X11 0 (wC_0 g ad o) rfl 3 (by decide) w_461 rfl rfl gdX11_moved_23 ?_
      refine g_iload_n E gdX11_moved_26 rfl 3 rfl ?_
      obtain ⟨r5, hc6, h⟩ := qB_of h
      refine g_Vi (r := r5) (As := [iv x3]) (rest := []) (w := wC g ad o) E (c_X1_exists l g ad o x3 r5 hc6) okm_X1_exists okw_X1_exists w_667 rfl (wC_10 g ad o) rfl rfl (Nat.le_of_ble_eq_true rfl) ⟨Nat.le_of_ble_eq_true rfl, Nat.le_of_ble_eq_true rfl⟩ gdX11_moved_27 ?_
      refine g_if_ne E 35 gdX11_moved_30 (by decide) h (fun h => ?_) (fun h => ?_)
      ·
        refine g_aload_n E gdX11_moved_35 rfl 0 rfl ?_
        refine g_get (T := TX11) E fw_X11 0 (wC_0 g ad o) rfl 6 (by decide) w_464 rfl rfl gdX11_moved_36 ?_
        obtain ⟨r7, hc8, h⟩ := qB_of h
        refine g_Vi (r := r7) (As := []) (rest := []) (w := wC g ad o) E (c_X4_number l g ad o r7 hc8) okm_X4_number okw_X4_number w_790 rfl (wC_32 g ad o) rfl rfl (Nat.le_of_ble_eq_true rfl) ⟨Nat.le_of_ble_eq_true rfl, Nat.le_of_ble_eq_true rfl⟩ gdX11_moved_39 ?_
        refine g_bipush E gdX11_moved_42 (by decide) ?_
        refine g_icmp_lt E 50 gdX11_moved_44 (by decide) h (fun h => ?_) (fun h => ?_)
        ·
          refine g_aload_n E gdX11_moved_50 rfl 0 rfl ?_
          refine g_get (T := TX11) E fw_X11 0 (wC_0 g ad o) rfl 6 (by decide) w_464 rfl rfl gdX11_moved_51 ?_
          refine g_iload_n E gdX11_moved_54 rfl 1 rfl ?_
          obtain ⟨r9, hc10, h⟩ := qB_of h
          refine g_Vi (r := r9) (As := [iv x1]) (rest := []) (w := wC g ad o) E (c_X4_kindOf l g ad o x1 r9 hc10) okm_X4_kindOf okw_X4_kindOf w_979 rfl (wC_32 g ad o) rfl rfl (Nat.le_of_ble_eq_true rfl) ⟨Nat.le_of_ble_eq_true rfl, Nat.le_of_ble_eq_true rfl⟩ gdX11_moved_55 ?_
          refine g_iconst E gdX11_moved_58 ?_
          refine g_icmp_eq E 68 gdX11_moved_59 (by decide) h (fun h => ?_) (fun h => ?_)
          ·
            refine g_aload_n E gdX11_moved_68 rfl 0 rfl ?_
            refine g_get (T := TX11) E fw_X11 0 (wC_0 g ad o) rfl 6 (by decide) w_464 rfl rfl gdX11_moved_69 ?_
            refine g_iload_n E gdX11_moved_72 rfl 1 rfl ?_
            refine g_iload_n E gdX11_moved_73 rfl 2 rfl ?_
            obtain ⟨r11, hc12, h⟩ := qB_of h
            refine g_Vi (r := r11) (As := [iv x1, iv x2]) (rest := []) (w := wC g ad o) E (c_X4_livedThere l g ad o x1 x2 r11 hc12) okm_X4_livedThere okw_X4_livedThere w_983 rfl (wC_32 g ad o) rfl rfl (Nat.le_of_ble_eq_true rfl) ⟨Nat.le_of_ble_eq_true rfl, Nat.le_of_ble_eq_true rfl⟩ gdX11_moved_74 ?_
            refine g_if_eq E 105 gdX11_moved_77 (by decide) h (fun h => ?_) (fun h => ?_)
            ·
              refine g_sub E [] rfl ?_
              exact j105 o h
            ·
              refine g_aload_n E gdX11_moved_80 rfl 0 rfl ?_
              refine g_get (T := TX11) E fw_X11 0 (wC_0 g ad o) rfl 4 (by decide) w_462 rfl rfl gdX11_moved_81 ?_
              refine g_iload_n E gdX11_moved_84 rfl 2 rfl ?_
              obtain ⟨r13, hc14, h⟩ := qB_of h
              refine g_Vi (r := r13) (As := [iv x2]) (rest := []) (w := wC g ad o) E (c_X5_homeOf l g ad o x2 r13 hc14) okm_X5_homeOf okw_X5_homeOf w_987 rfl (wC_23 g ad o) rfl rfl (Nat.le_of_ble_eq_true rfl) ⟨Nat.le_of_ble_eq_true rfl, Nat.le_of_ble_eq_true rfl⟩ gdX11_moved_85 ?_
              refine g_bipush E gdX11_moved_88 (by decide) ?_
              refine g_icmp_ne E 105 gdX11_moved_90 (by decide) h (fun h => ?_) (fun h => ?_)
              ·
                refine g_sub E [] rfl ?_
                exact j105 o h
              ·
                refine g_aload_n E gdX11_moved_93 rfl 0 rfl ?_
                refine g_get (T := TX11) E fw_X11 0 (wC_0 g ad o) rfl 3 (by decide) w_461 rfl rfl gdX11_moved_94 ?_
                refine g_iload_n E gdX11_moved_97 rfl 3 rfl ?_
                obtain ⟨r15, hc16, h⟩ := qB_of h
                refine g_Vi (r := r15) (As := [iv x3]) (rest := []) (w := wC g ad o) E (c_X1_roomsLeft l g ad o x3 r15 hc16) okm_X1_roomsLeft okw_X1_roomsLeft w_707 rfl (wC_10 g ad o) rfl rfl (Nat.le_of_ble_eq_true rfl) ⟨Nat.le_of_ble_eq_true rfl, Nat.le_of_ble_eq_true rfl⟩ gdX11_moved_98 ?_
                refine g_iconst E gdX11_moved_101 ?_
                refine g_icmp_ge E 108 gdX11_moved_102 (by decide) h (fun h => ?_) (fun h => ?_)
                ·
                  refine g_aload_n E gdX11_moved_108 rfl 0 rfl ?_
                  refine g_iconst E gdX11_moved_109 ?_
                  obtain ⟨r17, hc18, h⟩ := qB_of h
                  refine g_Vi (r := r17) (As := [iv 3]) (rest := []) (w := wC g ad o) E (c_X11_inForce l g ad o 3 r17 hc18) okm_X11_inForce okw_X11_inForce w_809 rfl (wC_0 g ad o) rfl rfl (Nat.le_of_ble_eq_true rfl) ⟨Nat.le_of_ble_eq_true rfl, Nat.le_of_ble_eq_true rfl⟩ gdX11_moved_110 ?_
                  refine g_istore E [(4, iv r17), (0, .ref (ad 0)), (1, iv x1), (2, iv x2), (3, iv x3)] gdX11_moved_113 (by decide) rfl ?_
                  refine g_aload_n E gdX11_moved_115 rfl 1 rfl ?_
                  refine g_get (T := TX11) E fw_X11 0 (wC_0 g ad o) rfl 6 (by decide) w_464 rfl rfl gdX11_moved_116 ?_
                  refine g_iconst E gdX11_moved_119 ?_
                  refine g_aload_n E gdX11_moved_120 rfl 1 rfl ?_
                  refine g_get (T := TX11) E fw_X11 0 (wC_0 g ad o) rfl 13 (by decide) w_471 rfl rfl gdX11_moved_121 ?_
                  refine g_iload_n E gdX11_moved_124 rfl 2 rfl ?_
                  obtain ⟨r19, o21, hc20, h⟩ := qB2_of h
                  refine g_Vi (r := r19) (As := [iv 4, iv (o.1 0 13), iv x1]) (rest := []) (w := wC g ad o21) E (c_X4_add l g ad o 4 (o.1 0 13) x1 (r19, o21) hc20) okm_X4_add okw_X4_add w_869 rfl (wC_32 g ad o) rfl rfl (Nat.le_of_ble_eq_true rfl) ⟨Nat.le_of_ble_eq_true rfl, Nat.le_of_ble_eq_true rfl⟩ gdX11_moved_125 ?_
                  refine g_istore E [(5, iv r19), (4, iv r17), (0, .ref (ad 0)), (1, iv x1), (2, iv x2), (3, iv x3)] gdX11_moved_128 (by decide) rfl ?_
                  refine g_aload_n E gdX11_moved_130 rfl 2 rfl ?_
                  refine g_get (T := TX11) E fw_X11 0 (wC_0 g ad o21) rfl 6 (by decide) w_464 rfl rfl gdX11_moved_131 ?_
                  refine g_iload E gdX11_moved_134 0 rfl ?_
                  refine g_iload E gdX11_moved_136 1 rfl ?_
                  refine g_iload_n E gdX11_moved_138 rfl 4 rfl ?_
                  obtain ⟨o24, hc23, h⟩ := qB_of h
                  refine g_Vv (As := [iv r19, iv r17, iv x2]) (rest := []) (w := wC g ad o24) E (c_X4_setMoved l g ad o21 r19 r17 x2 o24 hc23) okm_X4_setMoved okw_X4_setMoved w_991 rfl (wC_32 g ad o21) rfl rfl (Nat.le_of_ble_eq_true rfl) ⟨Nat.le_of_ble_eq_true rfl, Nat.le_of_ble_eq_true rfl⟩ gdX11_moved_139 ?_
                  refine g_aload_n E gdX11_moved_142 rfl 2 rfl ?_
                  refine g_iload_n E gdX11_moved_143 rfl 4 rfl ?_
                  refine g_iload_n E gdX11_moved_144 rfl 5 rfl ?_
                  obtain ⟨o27, hc26, h⟩ := qB_of h
                  refine g_Vv (As := [iv x2, iv x3]) (rest := []) (w := wC g ad o27) E (c_X11_settle l g ad o24 x2 x3 o27 hc26) okm_X11_settle okw_X11_settle w_719 rfl (wC_0 g ad o24) rfl rfl (Nat.le_of_ble_eq_true rfl) ⟨Nat.le_of_ble_eq_true rfl, Nat.le_of_ble_eq_true rfl⟩ gdX11_moved_145 ?_
                  refine g_aload_n E gdX11_moved_148 rfl 2 rfl ?_
                  refine g_iload E gdX11_moved_149 1 rfl ?_
                  obtain ⟨r28, o30, hc29, h⟩ := qB2_of h
                  refine g_Vi (r := r28) (As := [iv r17]) (rest := []) (w := wC g ad o30) E (c_X11_tell l g ad o27 r17 (r28, o30) hc29) okm_X11_tell okw_X11_tell w_551 rfl (wC_0 g ad o27) rfl rfl (Nat.le_of_ble_eq_true rfl) ⟨Nat.le_of_ble_eq_true rfl, Nat.le_of_ble_eq_true rfl⟩ gdX11_moved_151 ?_
                  refine g_pop E gdX11_moved_154 rfl ?_
                  refine g_iload E gdX11_moved_155 0 rfl ?_
                  exact g_iret E hQ (by rw [← Option.some.inj h]) (by rw [← Option.some.inj h]) gdX11_moved_157
                ·
                  refine g_sub E [] rfl ?_
                  exact j105 o h
          ·
            refine g_aload_n E gdX11_moved_62 rfl 0 rfl ?_
            refine g_iconst E gdX11_moved_63 ?_
            obtain ⟨r31, o33, hc32, h⟩ := qB2_of h
            refine g_Vi (r := r31) (As := [iv 3]) (rest := []) (w := wC g ad o33) E (c_X11_found l g ad o 3 (r31, o33) hc32) okm_X11_found okw_X11_found w_521 rfl (wC_0 g ad o) rfl rfl (Nat.le_of_ble_eq_true rfl) ⟨Nat.le_of_ble_eq_true rfl, Nat.le_of_ble_eq_true rfl⟩ gdX11_moved_64 ?_
            exact g_iret E hQ (by rw [← Option.some.inj h]) (by rw [← Option.some.inj h]) gdX11_moved_67
        ·
          refine g_bipush E gdX11_moved_47 (by decide) ?_
          exact g_iret E hQ (by rw [← Option.some.inj h]) (by rw [← Option.some.inj h]) gdX11_moved_49
      ·
        refine g_sub E [] rfl ?_
        exact j33 o h
set_option maxHeartbeats 4000000 in
set_option maxRecDepth 100000 in
theorem c_X11_noise (l : Launch) (g : GG) (ad : Nat → Nat) (o : OO) (x1 : Int) (x2 : Int) (v : Int × OO) (h : s_X11_noise o x1 x2 = some v) : CI l g yX11_noise cX11_noise 5 (some .int) 4 100 (wC g ad o) [.ref (ad 0), iv x1, iv x2] v.1 (wC g ad v.2) := by
  refine met_I (by decide) (Nat.le_of_ble_eq_true rfl) ?_
  intro X E hQ
  show Go X 0 (wC g ad o) [(0, .ref (ad 0)), (1, iv x1), (2, iv x2)] []
  have j22 : ∀ (o : OO), b_X11_noise_22 o = some v → Go X 22 (wC g ad o) [] [] := by
    intro o h
    unfold b_X11_noise_22 at h
    refine g_iconst E gdX11_noise_22 ?_
    exact g_iret E hQ (by rw [← Option.some.inj h]) (by rw [← Option.some.inj h]) gdX11_noise_23
  unfold s_X11_noise at h
  refine g_aload_n E gdX11_noise_0 rfl 0 rfl ?_
  refine g_get (T := TX11) E fw_X11 0 (wC_0 g ad o) rfl 6 (by decide) w_464 rfl rfl gdX11_noise_1 ?_
  refine g_iload_n E gdX11_noise_4 rfl 1 rfl ?_
  obtain ⟨r1, hc2, h⟩ := qB_of h
  refine g_Vi (r := r1) (As := [iv x1]) (rest := []) (w := wC g ad o) E (c_X4_exists l g ad o x1 r1 hc2) okm_X4_exists okw_X4_exists w_882 rfl (wC_32 g ad o) rfl rfl (Nat.le_of_ble_eq_true rfl) ⟨Nat.le_of_ble_eq_true rfl, Nat.le_of_ble_eq_true rfl⟩ gdX11_noise_5 ?_
  refine g_if_eq E 22 gdX11_noise_8 (by decide) h (fun h => ?_) (fun h => ?_)
  ·
    refine g_sub E [] rfl ?_
    exact j22 o h
  ·
    refine g_aload_n E gdX11_noise_11 rfl 0 rfl ?_
    refine g_get (T := TX11) E fw_X11 0 (wC_0 g ad o) rfl 0 (by decide) w_458 rfl rfl gdX11_noise_12 ?_
    refine g_iload_n E gdX11_noise_15 rfl 2 rfl ?_
    obtain ⟨r3, hc4, h⟩ := qB_of h
    refine g_Vi (r := r3) (As := [iv x2]) (rest := []) (w := wC g ad o) E (c_X8_exists l g ad o x2 r3 hc4) okm_X8_exists okw_X8_exists w_517 rfl (wC_1 g ad o) rfl rfl (Nat.le_of_ble_eq_true rfl) ⟨Nat.le_of_ble_eq_true rfl, Nat.le_of_ble_eq_true rfl⟩ gdX11_noise_16 ?_
    refine g_if_ne E 24 gdX11_noise_19 (by decide) h (fun h => ?_) (fun h => ?_)
    ·
      refine g_aload_n E gdX11_noise_24 rfl 0 rfl ?_
      refine g_get (T := TX11) E fw_X11 0 (wC_0 g ad o) rfl 6 (by decide) w_464 rfl rfl gdX11_noise_25 ?_
      refine g_iload_n E gdX11_noise_28 rfl 1 rfl ?_
      refine g_iconst E gdX11_noise_29 ?_
      obtain ⟨r5, hc6, h⟩ := qB_of h
      refine g_Vi (r := r5) (As := [iv x1, iv 1]) (rest := []) (w := wC g ad o) E (c_X4_isOf l g ad o x1 1 r5 hc6) okm_X4_isOf okw_X4_isOf w_886 rfl (wC_32 g ad o) rfl rfl (Nat.le_of_ble_eq_true rfl) ⟨Nat.le_of_ble_eq_true rfl, Nat.le_of_ble_eq_true rfl⟩ gdX11_noise_30 ?_
      refine g_if_ne E 42 gdX11_noise_33 (by decide) h (fun h => ?_) (fun h => ?_)
      ·
        refine g_aload_n E gdX11_noise_42 rfl 0 rfl ?_
        refine g_get (T := TX11) E fw_X11 0 (wC_0 g ad o) rfl 0 (by decide) w_458 rfl rfl gdX11_noise_43 ?_
        refine g_iload_n E gdX11_noise_46 rfl 2 rfl ?_
        obtain ⟨r7, hc8, h⟩ := qB_of h
        refine g_Vi (r := r7) (As := [iv x2]) (rest := []) (w := wC g ad o) E (c_X8_isThere l g ad o x2 r7 hc8) okm_X8_isThere okw_X8_isThere w_539 rfl (wC_1 g ad o) rfl rfl (Nat.le_of_ble_eq_true rfl) ⟨Nat.le_of_ble_eq_true rfl, Nat.le_of_ble_eq_true rfl⟩ gdX11_noise_47 ?_
        refine g_if_ne E 59 gdX11_noise_50 (by decide) h (fun h => ?_) (fun h => ?_)
        ·
          refine g_aload_n E gdX11_noise_59 rfl 0 rfl ?_
          refine g_iload_n E gdX11_noise_60 rfl 1 rfl ?_
          refine g_iload_n E gdX11_noise_61 rfl 2 rfl ?_
          obtain ⟨p9, hc10, h⟩ := qB_of h
          refine g_Vl (r := p9) (As := [iv x1, iv x2]) (rest := []) (w := wC g ad o) E (c_X11_loudCells l g ad o x1 x2 p9 hc10) okm_X11_loudCells okw_X11_loudCells w_1205 rfl (wC_0 g ad o) rfl rfl (Nat.le_of_ble_eq_true rfl) ⟨Nat.le_of_ble_eq_true rfl, Nat.le_of_ble_eq_true rfl⟩ gdX11_noise_62 ?_
          refine g_lstore_n E [(3, .long p9), (0, .ref (ad 0)), (1, iv x1), (2, iv x2)] gdX11_noise_65 rfl (by decide) rfl ?_
          refine g_aload_n E gdX11_noise_66 rfl 1 rfl ?_
          refine g_aload_n E gdX11_noise_67 rfl 1 rfl ?_
          refine g_get (T := TX11) E fw_X11 0 (wC_0 g ad o) rfl 3 (by decide) w_461 rfl rfl gdX11_noise_68 ?_
          refine g_lload_n E gdX11_noise_71 rfl 0 rfl ?_
          obtain ⟨r11, hc12, h⟩ := qB_of h
          refine g_Vi (r := r11) (As := [.long p9]) (rest := [.ref (ad 0)]) (w := wC g ad o) E (c_X1_dwellersIn l g ad o p9 r11 hc12) okm_X1_dwellersIn okw_X1_dwellersIn w_1209 rfl (wC_10 g ad o) rfl rfl (Nat.le_of_ble_eq_true rfl) ⟨Nat.le_of_ble_eq_true rfl, Nat.le_of_ble_eq_true rfl⟩ gdX11_noise_72 ?_
          obtain ⟨r13, o15, hc14, h⟩ := qB2_of h
          refine g_Vi (r := r13) (As := [iv r11]) (rest := []) (w := wC g ad o15) E (c_X11_tell l g ad o r11 (r13, o15) hc14) okm_X11_tell okw_X11_tell w_551 rfl (wC_0 g ad o) rfl rfl (Nat.le_of_ble_eq_true rfl) ⟨Nat.le_of_ble_eq_true rfl, Nat.le_of_ble_eq_true rfl⟩ gdX11_noise_75 ?_
          refine g_pop E gdX11_noise_78 rfl ?_
          refine g_aload_n E gdX11_noise_79 rfl 1 rfl ?_
          refine g_get (T := TX11) E fw_X11 0 (wC_0 g ad o15) rfl 3 (by decide) w_461 rfl rfl gdX11_noise_80 ?_
          refine g_lload_n E gdX11_noise_83 rfl 0 rfl ?_
          obtain ⟨r16, hc17, h⟩ := qB_of h
          refine g_Vi (r := r16) (As := [.long p9]) (rest := []) (w := wC g ad o15) E (c_X1_housesIn l g ad o15 p9 r16 hc17) okm_X1_housesIn okw_X1_housesIn w_1213 rfl (wC_10 g ad o15) rfl rfl (Nat.le_of_ble_eq_true rfl) ⟨Nat.le_of_ble_eq_true rfl, Nat.le_of_ble_eq_true rfl⟩ gdX11_noise_84 ?_
          exact g_iret E hQ (by rw [← Option.some.inj h]) (by rw [← Option.some.inj h]) gdX11_noise_87
        ·
          refine g_aload_n E gdX11_noise_53 rfl 0 rfl ?_
          refine g_iconst E gdX11_noise_54 ?_
          obtain ⟨r18, o20, hc19, h⟩ := qB2_of h
          refine g_Vi (r := r18) (As := [iv 1]) (rest := []) (w := wC g ad o20) E (c_X11_found l g ad o 1 (r18, o20) hc19) okm_X11_found okw_X11_found w_521 rfl (wC_0 g ad o) rfl rfl (Nat.le_of_ble_eq_true rfl) ⟨Nat.le_of_ble_eq_true rfl, Nat.le_of_ble_eq_true rfl⟩ gdX11_noise_55 ?_
          exact g_iret E hQ (by rw [← Option.some.inj h]) (by rw [← Option.some.inj h]) gdX11_noise_58
      ·
        refine g_aload_n E gdX11_noise_36 rfl 0 rfl ?_
        refine g_iconst E gdX11_noise_37 ?_
        obtain ⟨r21, o23, hc22, h⟩ := qB2_of h
        refine g_Vi (r := r21) (As := [iv 3]) (rest := []) (w := wC g ad o23) E (c_X11_found l g ad o 3 (r21, o23) hc22) okm_X11_found okw_X11_found w_521 rfl (wC_0 g ad o) rfl rfl (Nat.le_of_ble_eq_true rfl) ⟨Nat.le_of_ble_eq_true rfl, Nat.le_of_ble_eq_true rfl⟩ gdX11_noise_38 ?_
        exact g_iret E hQ (by rw [← Option.some.inj h]) (by rw [← Option.some.inj h]) gdX11_noise_41
    ·
      refine g_sub E [] rfl ?_
      exact j22 o h
set_option maxHeartbeats 4000000 in
set_option maxRecDepth 100000 in
theorem c_X11_over (l : Launch) (g : GG) (ad : Nat → Nat) (o : OO) (x1 : Int) (v : Int × OO) (h : s_X11_over o x1 = some v) : CI l g yX11_over cX11_over 2 (some .int) 1 23 (wC g ad o) [.ref (ad 0), iv x1] v.1 (wC g ad v.2) := by
  refine met_I (by decide) (Nat.le_of_ble_eq_true rfl) ?_
  intro X E hQ
  show Go X 0 (wC g ad o) [(0, .ref (ad 0)), (1, iv x1)] []
  unfold s_X11_over at h
  refine g_aload_n E gdX11_over_0 rfl 0 rfl ?_
  refine g_get (T := TX11) E fw_X11 0 (wC_0 g ad o) rfl 6 (by decide) w_464 rfl rfl gdX11_over_1 ?_
  refine g_iload_n E gdX11_over_4 rfl 1 rfl ?_
  obtain ⟨r1, hc2, h⟩ := qB_of h
  refine g_Vi (r := r1) (As := [iv x1]) (rest := []) (w := wC g ad o) E (c_X4_exists l g ad o x1 r1 hc2) okm_X4_exists okw_X4_exists w_882 rfl (wC_32 g ad o) rfl rfl (Nat.le_of_ble_eq_true rfl) ⟨Nat.le_of_ble_eq_true rfl, Nat.le_of_ble_eq_true rfl⟩ gdX11_over_5 ?_
  refine g_if_ne E 13 gdX11_over_8 (by decide) h (fun h => ?_) (fun h => ?_)
  ·
    refine g_aload_n E gdX11_over_13 rfl 0 rfl ?_
    refine g_get (T := TX11) E fw_X11 0 (wC_0 g ad o) rfl 6 (by decide) w_464 rfl rfl gdX11_over_14 ?_
    refine g_iload_n E gdX11_over_17 rfl 1 rfl ?_
    refine g_iconst E gdX11_over_18 ?_
    obtain ⟨r3, hc4, h⟩ := qB_of h
    refine g_Vi (r := r3) (As := [iv x1, iv 1]) (rest := []) (w := wC g ad o) E (c_X4_isOf l g ad o x1 1 r3 hc4) okm_X4_isOf okw_X4_isOf w_886 rfl (wC_32 g ad o) rfl rfl (Nat.le_of_ble_eq_true rfl) ⟨Nat.le_of_ble_eq_true rfl, Nat.le_of_ble_eq_true rfl⟩ gdX11_over_19 ?_
    refine g_if_ne E 31 gdX11_over_22 (by decide) h (fun h => ?_) (fun h => ?_)
    ·
      refine g_aload_n E gdX11_over_31 rfl 0 rfl ?_
      refine g_aload_n E gdX11_over_32 rfl 0 rfl ?_
      refine g_get (T := TX11) E fw_X11 0 (wC_0 g ad o) rfl 6 (by decide) w_464 rfl rfl gdX11_over_33 ?_
      refine g_iload_n E gdX11_over_36 rfl 1 rfl ?_
      obtain ⟨p5, hc6, h⟩ := qB_of h
      refine g_Vl (r := p5) (As := [iv x1]) (rest := [.ref (ad 0)]) (w := wC g ad o) E (c_X4_cells l g ad o x1 p5 hc6) okm_X4_cells okw_X4_cells w_890 rfl (wC_32 g ad o) rfl rfl (Nat.le_of_ble_eq_true rfl) ⟨Nat.le_of_ble_eq_true rfl, Nat.le_of_ble_eq_true rfl⟩ gdX11_over_37 ?_
      obtain ⟨o7, e_o7, h⟩ := qNm_of h
      refine g_putl (T := TX11) (ws' := wC g ad o7) E fw_X11 tyX11 tyX11_ok nmX11 0 (wC_0 g ad o) rfl 16 (by decide) w_474 rfl rfl (by decide +kernel) (Nat.le_of_ble_eq_true rfl) (by rw [e_o7]; exact wC_p0_16 g ad o _) gdX11_over_40 ?_
      refine g_aload_n E gdX11_over_43 rfl 0 rfl ?_
      refine g_get (T := TX11) E fw_X11 0 (wC_0 g ad o7) rfl 6 (by decide) w_464 rfl rfl gdX11_over_44 ?_
      refine g_iload_n E gdX11_over_47 rfl 1 rfl ?_
      obtain ⟨r8, hc9, h⟩ := qB_of h
      refine g_Vi (r := r8) (As := [iv x1]) (rest := []) (w := wC g ad o7) E (c_X4_lengthOf l g ad o7 x1 r8 hc9) okm_X4_lengthOf okw_X4_lengthOf w_1023 rfl (wC_32 g ad o7) rfl rfl (Nat.le_of_ble_eq_true rfl) ⟨Nat.le_of_ble_eq_true rfl, Nat.le_of_ble_eq_true rfl⟩ gdX11_over_48 ?_
      exact g_iret E hQ (by rw [← Option.some.inj h]) (by rw [← Option.some.inj h]) gdX11_over_51
    ·
      refine g_aload_n E gdX11_over_25 rfl 0 rfl ?_
      refine g_iconst E gdX11_over_26 ?_
      obtain ⟨r10, o12, hc11, h⟩ := qB2_of h
      refine g_Vi (r := r10) (As := [iv 3]) (rest := []) (w := wC g ad o12) E (c_X11_found l g ad o 3 (r10, o12) hc11) okm_X11_found okw_X11_found w_521 rfl (wC_0 g ad o) rfl rfl (Nat.le_of_ble_eq_true rfl) ⟨Nat.le_of_ble_eq_true rfl, Nat.le_of_ble_eq_true rfl⟩ gdX11_over_27 ?_
      exact g_iret E hQ (by rw [← Option.some.inj h]) (by rw [← Option.some.inj h]) gdX11_over_30
  ·
    refine g_iconst E gdX11_over_11 ?_
    exact g_iret E hQ (by rw [← Option.some.inj h]) (by rw [← Option.some.inj h]) gdX11_over_12
set_option maxHeartbeats 4000000 in
set_option maxRecDepth 100000 in
theorem c_X11_owed (l : Launch) (g : GG) (ad : Nat → Nat) (o : OO) (v : Int × OO) (h : s_X11_owed o = some v) : CI l g yX11_owed cX11_owed 5 (some .int) 5 111 (wC g ad o) [.ref (ad 0)] v.1 (wC g ad v.2) := by
  refine met_I (by decide) (Nat.le_of_ble_eq_true rfl) ?_
  intro X E hQ
  show Go X 0 (wC g ad o) [(0, .ref (ad 0))] []
  have j79 : ∀ (o : OO) (z1 : Int64) (x3 : Int), b_X11_owed_79 o z1 x3 = some v → Go X 79 (wC g ad o) [(0, .ref (ad 0)), (1, .long z1), (3, iv x3)] [] := by
    intro o z1 x3 h
    unfold b_X11_owed_79 at h
    refine g_aload_n E gdX11_owed_79 rfl 0 rfl ?_
    refine g_lload_n E gdX11_owed_80 rfl 1 rfl ?_
    obtain ⟨o1, e_o1, h⟩ := qNm_of h
    refine g_putl (T := TX11) (ws' := wC g ad o1) E fw_X11 tyX11 tyX11_ok nmX11 0 (wC_0 g ad o) rfl 15 (by decide) w_473 rfl rfl (by decide +kernel) (Nat.le_of_ble_eq_true rfl) (by rw [e_o1]; exact wC_p0_15 g ad o _) gdX11_owed_81 ?_
    refine g_iload_n E gdX11_owed_84 rfl 2 rfl ?_
    exact g_iret E hQ (by rw [← Option.some.inj h]) (by rw [← Option.some.inj h]) gdX11_owed_85
  have j73 : ∀ (o : OO) (z1 : Int64) (x3 : Int) (x4 : Int) (v : (Int64 × Int × Int) ⊕ ((Int64 × Int))), b_X11_owed_73 o z1 x3 x4 = some v → (∀ (z1 : Int64) (x3 : Int) (x4 : Int), v = .inl (z1, x3, x4) → Go X 7 (wC g ad o) [(0, .ref (ad 0)), (1, .long z1), (3, iv x3), (4, iv x4)] []) → (∀ (z1 : Int64) (x3 : Int), v = .inr ((z1, x3)) → Go X 79 (wC g ad o) [(0, .ref (ad 0)), (1, .long z1), (3, iv x3)] []) → Go X 73 (wC g ad o) [(0, .ref (ad 0)), (1, .long z1), (3, iv x3), (4, iv x4)] [] := by
    intro o z1 x3 x4 v h k0 k1
    unfold b_X11_owed_73 at h
    refine g_iinc E [(4, iv (x4 + 1)), (0, .ref (ad 0)), (1, .long z1), (3, iv x3)] gdX11_owed_73 3 rfl (by decide) rfl ?_
    refine g_goto E 7 gdX11_owed_76 (by decide) ?_
    refine g_sub E [1, 2, 3, 0] rfl ?_
    exact k0 z1 x3 (x4 + 1) (Option.some.inj h).symm
  have l7 : ∀ (o : OO) (r : (Int64 × Int)) (s0 : Int64 × Int × Int), loopW (fun s => l_X11_owed_7 o s.1 s.2.1 s.2.2) s0 = some r → (∀ (z1 : Int64) (x3 : Int), r = ((z1, x3)) → Go X 79 (wC g ad o) [(0, .ref (ad 0)), (1, .long z1), (3, iv x3)] []) → Go X 7 (wC g ad o) [(0, .ref (ad 0)), (1, .long s0.1), (3, iv s0.2.1), (4, iv s0.2.2)] [] := by
    intro o r s0 h k1
    refine loop_rule (Head := fun s0 => Go X 7 (wC g ad o) [(0, .ref (ad 0)), (1, .long s0.1), (3, iv s0.2.1), (4, iv s0.2.2)] []) h ?_
    intro s v h kk kx
    obtain ⟨z1, x3, x4⟩ := s
    have h : l_X11_owed_7 o z1 x3 x4 = some v := h
    have k0 : ∀ (z1 : Int64) (x3 : Int) (x4 : Int), v = .inl (z1, x3, x4) → Go X 7 (wC g ad o) [(0, .ref (ad 0)), (1, .long z1), (3, iv x3), (4, iv x4)] [] := fun z1 x3 x4 e => kk (z1, x3, x4) e
    have k1 : ∀ (z1 : Int64) (x3 : Int), v = .inr ((z1, x3)) → Go X 79 (wC g ad o) [(0, .ref (ad 0)), (1, .long z1), (3, iv x3)] [] := fun z1 x3 e => k1 z1 x3 (kx _ e).symm
    unfold l_X11_owed_7 at h
    refine g_iload E gdX11_owed_7 3 rfl ?_
    refine g_aload_n E gdX11_owed_9 rfl 0 rfl ?_
    refine g_get (T := TX11) E fw_X11 0 (wC_0 g ad o) rfl 6 (by decide) w_464 rfl rfl gdX11_owed_10 ?_
    obtain ⟨r2, hc3, h⟩ := qB_of h
    refine g_Vi (r := r2) (As := []) (rest := [iv x4]) (w := wC g ad o) E (c_X4_number l g ad o r2 hc3) okm_X4_number okw_X4_number w_790 rfl (wC_32 g ad o) rfl rfl (Nat.le_of_ble_eq_true rfl) ⟨Nat.le_of_ble_eq_true rfl, Nat.le_of_ble_eq_true rfl⟩ gdX11_owed_13 ?_
    refine g_icmp_ge E 79 gdX11_owed_16 (by decide) h (fun h => ?_) (fun h => ?_)
    ·
      refine g_sub E [0, 1, 2] rfl ?_
      exact k1 z1 x3 (Option.some.inj h).symm
    ·
      refine g_aload_n E gdX11_owed_19 rfl 0 rfl ?_
      refine g_get (T := TX11) E fw_X11 0 (wC_0 g ad o) rfl 6 (by decide) w_464 rfl rfl gdX11_owed_20 ?_
      refine g_iload E gdX11_owed_23 3 rfl ?_
      refine g_iconst E gdX11_owed_25 ?_
      obtain ⟨r4, hc5, h⟩ := qB_of h
      refine g_Vi (r := r4) (As := [iv x4, iv 3]) (rest := []) (w := wC g ad o) E (c_X4_isOf l g ad o x4 3 r4 hc5) okm_X4_isOf okw_X4_isOf w_886 rfl (wC_32 g ad o) rfl rfl (Nat.le_of_ble_eq_true rfl) ⟨Nat.le_of_ble_eq_true rfl, Nat.le_of_ble_eq_true rfl⟩ gdX11_owed_26 ?_
      refine g_if_ne E 35 gdX11_owed_29 (by decide) h (fun h => ?_) (fun h => ?_)
      ·
        refine g_lload_n E gdX11_owed_35 rfl 1 rfl ?_
        refine g_aload_n E gdX11_owed_36 rfl 0 rfl ?_
        refine g_get (T := TX11) E fw_X11 0 (wC_0 g ad o) rfl 6 (by decide) w_464 rfl rfl gdX11_owed_37 ?_
        refine g_iload E gdX11_owed_40 3 rfl ?_
        obtain ⟨r6, hc7, h⟩ := qB_of h
        refine g_Vi (r := r6) (As := [iv x4]) (rest := [.long z1]) (w := wC g ad o) E (c_X4_amountOf l g ad o x4 r6 hc7) okm_X4_amountOf okw_X4_amountOf w_1046 rfl (wC_32 g ad o) rfl rfl (Nat.le_of_ble_eq_true rfl) ⟨Nat.le_of_ble_eq_true rfl, Nat.le_of_ble_eq_true rfl⟩ gdX11_owed_42 ?_
        refine g_i2l E gdX11_owed_45 ?_
        refine g_ladd E gdX11_owed_46 ?_
        obtain ⟨m8, e_m8, h⟩ := qNm_of h
        refine g_nml e_m8 ?_
        refine g_lstore_n E [(1, .long m8), (0, .ref (ad 0)), (3, iv x3), (4, iv x4)] gdX11_owed_47 rfl (by decide) rfl ?_
        refine g_aload_n E gdX11_owed_48 rfl 1 rfl ?_
        refine g_get (T := TX11) E fw_X11 0 (wC_0 g ad o) rfl 6 (by decide) w_464 rfl rfl gdX11_owed_49 ?_
        refine g_iload E gdX11_owed_52 3 rfl ?_
        obtain ⟨r9, hc10, h⟩ := qB_of h
        refine g_Vi (r := r9) (As := [iv x4]) (rest := []) (w := wC g ad o) E (c_X4_kindOf l g ad o x4 r9 hc10) okm_X4_kindOf okw_X4_kindOf w_979 rfl (wC_32 g ad o) rfl rfl (Nat.le_of_ble_eq_true rfl) ⟨Nat.le_of_ble_eq_true rfl, Nat.le_of_ble_eq_true rfl⟩ gdX11_owed_54 ?_
        refine g_iconst E gdX11_owed_57 ?_
        refine g_icmp_ne E 73 gdX11_owed_58 (by decide) h (fun h => ?_) (fun h => ?_)
        ·
          refine g_sub E [1, 0, 2, 3] rfl ?_
          exact j73 o m8 x3 x4 v h k0 k1
        ·
          refine g_aload_n E gdX11_owed_61 rfl 1 rfl ?_
          refine g_iload E gdX11_owed_62 3 rfl ?_
          obtain ⟨r11, hc12, h⟩ := qB_of h
          refine g_Vi (r := r11) (As := [iv x4]) (rest := []) (w := wC g ad o) E (c_X11_isVoidTaking l g ad o x4 r11 hc12) okm_X11_isVoidTaking okw_X11_isVoidTaking w_1242 rfl (wC_0 g ad o) rfl rfl (Nat.le_of_ble_eq_true rfl) ⟨Nat.le_of_ble_eq_true rfl, Nat.le_of_ble_eq_true rfl⟩ gdX11_owed_64 ?_
          refine g_if_eq E 73 gdX11_owed_67 (by decide) h (fun h => ?_) (fun h => ?_)
          ·
            refine g_sub E [1, 0, 2, 3] rfl ?_
            exact j73 o m8 x3 x4 v h k0 k1
          ·
            refine g_iinc E [(3, iv (x3 + 1)), (1, .long m8), (0, .ref (ad 0)), (4, iv x4)] gdX11_owed_70 2 rfl (by decide) rfl ?_
            refine g_sub E [2, 1, 0, 3] rfl ?_
            exact j73 o m8 (x3 + 1) x4 v h k0 k1
      ·
        refine g_goto E 73 gdX11_owed_32 (by decide) ?_
        exact j73 o z1 x3 x4 v h k0 k1
  have j7 : ∀ (o : OO) (z1 : Int64) (x3 : Int) (x4 : Int), e_X11_owed_7 o z1 x3 x4 = some v → Go X 7 (wC g ad o) [(0, .ref (ad 0)), (1, .long z1), (3, iv x3), (4, iv x4)] [] := by
    intro o z1 x3 x4 h
    unfold e_X11_owed_7 at h
    obtain ⟨r, hr, h⟩ := qB_of h
    refine l7 o r _ hr ?_
    ·
      intro u0 u1 e
      subst e
      have h : b_X11_owed_79 o u0 u1 = some v := h
      exact j79 o u0 u1 h
  unfold s_X11_owed at h
  refine g_lconst (v := 0) E gdX11_owed_0 (by decide) ?_
  obtain ⟨m13, e_m13, h⟩ := qNm_of h
  refine g_nml e_m13 ?_
  refine g_lstore_n E [(1, .long m13), (0, .ref (ad 0))] gdX11_owed_1 rfl (by decide) rfl ?_
  refine g_iconst E gdX11_owed_2 ?_
  refine g_istore_n E [(3, iv 0), (1, .long m13), (0, .ref (ad 0))] gdX11_owed_3 rfl (by decide) rfl ?_
  refine g_iconst E gdX11_owed_4 ?_
  refine g_istore E [(4, iv 0), (3, iv 0), (1, .long m13), (0, .ref (ad 0))] gdX11_owed_5 (by decide) rfl ?_
  refine g_sub E [3, 2, 1, 0] rfl ?_
  exact j7 o m13 0 0 h
set_option maxHeartbeats 4000000 in
set_option maxRecDepth 100000 in
theorem c_X11_park (l : Launch) (g : GG) (ad : Nat → Nat) (o : OO) (x1 : Int) (v : Int × OO) (h : s_X11_park o x1 = some v) : CI l g yX11_park cX11_park 3 (some .int) 3 70 (wC g ad o) [.ref (ad 0), iv x1] v.1 (wC g ad v.2) := by
  refine met_I (by decide) (Nat.le_of_ble_eq_true rfl) ?_
  intro X E hQ
  show Go X 0 (wC g ad o) [(0, .ref (ad 0)), (1, iv x1)] []
  have j68 : ∀ (o : OO) (y0 : Int), b_X11_park_68 o y0 = some v → Go X 68 (wC g ad o) [] [iv y0] := by
    intro o y0 h
    unfold b_X11_park_68 at h
    exact g_iret E hQ (by rw [← Option.some.inj h]) (by rw [← Option.some.inj h]) gdX11_park_68
  unfold s_X11_park at h
  refine g_aload_n E gdX11_park_0 rfl 0 rfl ?_
  refine g_get (T := TX11) E fw_X11 0 (wC_0 g ad o) rfl 6 (by decide) w_464 rfl rfl gdX11_park_1 ?_
  refine g_iload_n E gdX11_park_4 rfl 1 rfl ?_
  obtain ⟨r1, hc2, h⟩ := qB_of h
  refine g_Vi (r := r1) (As := [iv x1]) (rest := []) (w := wC g ad o) E (c_X4_exists l g ad o x1 r1 hc2) okm_X4_exists okw_X4_exists w_882 rfl (wC_32 g ad o) rfl rfl (Nat.le_of_ble_eq_true rfl) ⟨Nat.le_of_ble_eq_true rfl, Nat.le_of_ble_eq_true rfl⟩ gdX11_park_5 ?_
  refine g_if_ne E 13 gdX11_park_8 (by decide) h (fun h => ?_) (fun h => ?_)
  ·
    refine g_aload_n E gdX11_park_13 rfl 0 rfl ?_
    refine g_get (T := TX11) E fw_X11 0 (wC_0 g ad o) rfl 6 (by decide) w_464 rfl rfl gdX11_park_14 ?_
    refine g_iload_n E gdX11_park_17 rfl 1 rfl ?_
    refine g_iconst E gdX11_park_18 ?_
    obtain ⟨r3, hc4, h⟩ := qB_of h
    refine g_Vi (r := r3) (As := [iv x1, iv 1]) (rest := []) (w := wC g ad o) E (c_X4_isOf l g ad o x1 1 r3 hc4) okm_X4_isOf okw_X4_isOf w_886 rfl (wC_32 g ad o) rfl rfl (Nat.le_of_ble_eq_true rfl) ⟨Nat.le_of_ble_eq_true rfl, Nat.le_of_ble_eq_true rfl⟩ gdX11_park_19 ?_
    refine g_if_ne E 31 gdX11_park_22 (by decide) h (fun h => ?_) (fun h => ?_)
    ·
      refine g_aload_n E gdX11_park_31 rfl 0 rfl ?_
      refine g_get (T := TX11) E fw_X11 0 (wC_0 g ad o) rfl 2 (by decide) w_460 rfl rfl gdX11_park_32 ?_
      refine g_aload_n E gdX11_park_35 rfl 0 rfl ?_
      refine g_get (T := TX11) E fw_X11 0 (wC_0 g ad o) rfl 6 (by decide) w_464 rfl rfl gdX11_park_36 ?_
      refine g_iload_n E gdX11_park_39 rfl 1 rfl ?_
      obtain ⟨p5, hc6, h⟩ := qB_of h
      refine g_Vl (r := p5) (As := [iv x1]) (rest := [.ref (ad 7)]) (w := wC g ad o) E (c_X4_cells l g ad o x1 p5 hc6) okm_X4_cells okw_X4_cells w_890 rfl (wC_32 g ad o) rfl rfl (Nat.le_of_ble_eq_true rfl) ⟨Nat.le_of_ble_eq_true rfl, Nat.le_of_ble_eq_true rfl⟩ gdX11_park_40 ?_
      obtain ⟨r7, hc8, h⟩ := qB_of h
      refine g_Vi (r := r7) (As := [.long p5]) (rest := []) (w := wC g ad o) E (c_X3_parksIn l g ad o p5 r7 hc8) okm_X3_parksIn okw_X3_parksIn w_1221 rfl (wC_7 g ad o) rfl rfl (Nat.le_of_ble_eq_true rfl) ⟨Nat.le_of_ble_eq_true rfl, Nat.le_of_ble_eq_true rfl⟩ gdX11_park_43 ?_
      refine g_istore_n E [(2, iv r7), (0, .ref (ad 0)), (1, iv x1)] gdX11_park_46 rfl (by decide) rfl ?_
      refine g_aload_n E gdX11_park_47 rfl 1 rfl ?_
      refine g_iload_n E gdX11_park_48 rfl 0 rfl ?_
      obtain ⟨r9, o11, hc10, h⟩ := qB2_of h
      refine g_Vi (r := r9) (As := [iv r7]) (rest := []) (w := wC g ad o11) E (c_X11_tell l g ad o r7 (r9, o11) hc10) okm_X11_tell okw_X11_tell w_551 rfl (wC_0 g ad o) rfl rfl (Nat.le_of_ble_eq_true rfl) ⟨Nat.le_of_ble_eq_true rfl, Nat.le_of_ble_eq_true rfl⟩ gdX11_park_49 ?_
      refine g_pop E gdX11_park_52 rfl ?_
      refine g_iload_n E gdX11_park_53 rfl 0 rfl ?_
      refine g_aload_n E gdX11_park_54 rfl 1 rfl ?_
      refine g_bipush E gdX11_park_55 (by decide) ?_
      obtain ⟨r12, hc13, h⟩ := qB_of h
      refine g_Vi (r := r12) (As := [iv 6]) (rest := [iv r7]) (w := wC g ad o11) E (c_X11_inForce l g ad o11 6 r12 hc13) okm_X11_inForce okw_X11_inForce w_809 rfl (wC_0 g ad o11) rfl rfl (Nat.le_of_ble_eq_true rfl) ⟨Nat.le_of_ble_eq_true rfl, Nat.le_of_ble_eq_true rfl⟩ gdX11_park_57 ?_
      refine g_icmp_gt E 67 gdX11_park_60 (by decide) h (fun h => ?_) (fun h => ?_)
      ·
        refine g_iconst E gdX11_park_67 ?_
        refine g_sub E [] rfl ?_
        exact j68 o11 0 h
      ·
        refine g_iconst E gdX11_park_63 ?_
        refine g_goto E 68 gdX11_park_64 (by decide) ?_
        refine g_sub E [] rfl ?_
        exact j68 o11 1 h
    ·
      refine g_aload_n E gdX11_park_25 rfl 0 rfl ?_
      refine g_iconst E gdX11_park_26 ?_
      obtain ⟨r14, o16, hc15, h⟩ := qB2_of h
      refine g_Vi (r := r14) (As := [iv 3]) (rest := []) (w := wC g ad o16) E (c_X11_found l g ad o 3 (r14, o16) hc15) okm_X11_found okw_X11_found w_521 rfl (wC_0 g ad o) rfl rfl (Nat.le_of_ble_eq_true rfl) ⟨Nat.le_of_ble_eq_true rfl, Nat.le_of_ble_eq_true rfl⟩ gdX11_park_27 ?_
      exact g_iret E hQ (by rw [← Option.some.inj h]) (by rw [← Option.some.inj h]) gdX11_park_30
  ·
    refine g_iconst E gdX11_park_11 ?_
    exact g_iret E hQ (by rw [← Option.some.inj h]) (by rw [← Option.some.inj h]) gdX11_park_12
set_option maxHeartbeats 4000000 in
set_option maxRecDepth 100000 in
theorem c_X5_add (l : Launch) (g : GG) (ad : Nat → Nat) (o : OO) (x1 : Int) (x2 : Int) (x3 : Int) (v : Int × OO) (h : s_X5_add o x1 x2 x3 = some v) : CI l g yX5_add cX5_add 5 (some .int) 0 0 (wC g ad o) [.ref (ad 23), iv x1, iv x2, iv x3] v.1 (wC g ad v.2) := by
  refine met_I (by decide) (Nat.le_of_ble_eq_true rfl) ?_
  intro X E hQ
  show Go X 0 (wC g ad o) [(0, .ref (ad 23)), (1, iv x1), (2, iv x2), (3, iv x3)] []
  unfold s_X5_add at h
  refine g_aload_n E gdX5_add_0 rfl 0 rfl ?_
  refine g_get (T := TX5) E fw_X5 23 (wC_23 g ad o) rfl 4 (by decide) w_214 rfl rfl gdX5_add_1 ?_
  refine g_istore E [(4, iv (o.1 23 4)), (0, .ref (ad 23)), (1, iv x1), (2, iv x2), (3, iv x3)] gdX5_add_4 (by decide) rfl ?_
  refine g_aload_n E gdX5_add_6 rfl 1 rfl ?_
  refine g_dup E gdX5_add_7 rfl ?_
  refine g_get (T := TX5) E fw_X5 23 (wC_23 g ad o) rfl 4 (by decide) w_214 rfl rfl gdX5_add_8 ?_
  refine g_iconst E gdX5_add_11 ?_
  refine g_iadd E gdX5_add_12 ?_
  obtain ⟨o1, e_o1, h⟩ := qNm_of h
  refine g_puti (T := TX5) (ws' := wC g ad o1) E fw_X5 tyX5 tyX5_ok nmX5 23 (wC_23 g ad o) rfl 4 (by decide) w_214 rfl rfl (by decide +kernel) (Nat.le_of_ble_eq_true rfl) (by rw [e_o1]; exact wC_p23_4 g ad o _) gdX5_add_13 ?_
  refine g_aload_n E gdX5_add_16 rfl 1 rfl ?_
  refine g_get (T := TX5) E fw_X5 23 (wC_23 g ad o1) rfl 0 (by decide) w_210 rfl rfl gdX5_add_17 ?_
  refine g_iload E gdX5_add_20 0 rfl ?_
  refine g_bipush E gdX5_add_22 (by decide) ?_
  obtain ⟨hi2, h⟩ := qIn_of h
  obtain ⟨o3, e_o3, h⟩ := qNm_of h
  refine g_iast (ws' := wC g ad o3) E 24 (wC_24 g ad o1) (by decide) hi2 (by rw [e_o3]; exact wC_s24 g ad o1 _ _) gdX5_add_24 ?_
  refine g_aload_n E gdX5_add_25 rfl 1 rfl ?_
  refine g_get (T := TX5) E fw_X5 23 (wC_23 g ad o3) rfl 1 (by decide) w_211 rfl rfl gdX5_add_26 ?_
  refine g_iload E gdX5_add_29 0 rfl ?_
  refine g_iload_n E gdX5_add_31 rfl 2 rfl ?_
  obtain ⟨hi4, h⟩ := qIn_of h
  obtain ⟨o5, e_o5, h⟩ := qNm_of h
  refine g_iast (ws' := wC g ad o5) E 25 (wC_25 g ad o3) (by decide) hi4 (by rw [e_o5]; exact wC_s25 g ad o3 _ _) gdX5_add_32 ?_
  refine g_aload_n E gdX5_add_33 rfl 1 rfl ?_
  refine g_get (T := TX5) E fw_X5 23 (wC_23 g ad o5) rfl 2 (by decide) w_212 rfl rfl gdX5_add_34 ?_
  refine g_iload E gdX5_add_37 0 rfl ?_
  refine g_iload_n E gdX5_add_39 rfl 3 rfl ?_
  obtain ⟨hi6, h⟩ := qIn_of h
  obtain ⟨hz7, h⟩ := qZ_of h
  obtain ⟨o8, e_o8, h⟩ := qNm_of h
  refine g_zast (ws' := wC g ad o8) E 26 (wC_26 g ad o5) (by decide) hi6 hz7 (by rw [e_o8]; exact wC_s26 g ad o5 _ _) gdX5_add_40 ?_
  refine g_aload_n E gdX5_add_41 rfl 1 rfl ?_
  refine g_get (T := TX5) E fw_X5 23 (wC_23 g ad o8) rfl 3 (by decide) w_213 rfl rfl gdX5_add_42 ?_
  refine g_iload E gdX5_add_45 0 rfl ?_
  refine g_iload_n E gdX5_add_47 rfl 4 rfl ?_
  obtain ⟨hi9, h⟩ := qIn_of h
  obtain ⟨o10, e_o10, h⟩ := qNm_of h
  refine g_iast (ws' := wC g ad o10) E 27 (wC_27 g ad o8) (by decide) hi9 (by rw [e_o10]; exact wC_s27 g ad o8 _ _) gdX5_add_48 ?_
  refine g_iload E gdX5_add_49 0 rfl ?_
  exact g_iret E hQ (by rw [← Option.some.inj h]) (by rw [← Option.some.inj h]) gdX5_add_51
set_option maxHeartbeats 4000000 in
set_option maxRecDepth 100000 in
theorem c_X11_person (l : Launch) (g : GG) (ad : Nat → Nat) (o : OO) (x1 : Int) (x2 : Int) (x3 : Int) (x4 : Int) (v : Int × OO) (h : s_X11_person o x1 x2 x3 x4 = some v) : CI l g yX11_person cX11_person 6 (some .int) 2 44 (wC g ad o) [.ref (ad 0), iv x1, iv x2, iv x3, iv x4] v.1 (wC g ad v.2) := by
  refine met_I (by decide) (Nat.le_of_ble_eq_true rfl) ?_
  intro X E hQ
  show Go X 0 (wC g ad o) [(0, .ref (ad 0)), (1, iv x1), (2, iv x2), (3, iv x3), (4, iv x4)] []
  have j46 : ∀ (o : OO), b_X11_person_46 o = some v → Go X 46 (wC g ad o) [] [] := by
    intro o h
    unfold b_X11_person_46 at h
    refine g_iconst E gdX11_person_46 ?_
    exact g_iret E hQ (by rw [← Option.some.inj h]) (by rw [← Option.some.inj h]) gdX11_person_47
  have j110 : ∀ (o : OO) (x5 : Int), b_X11_person_110 o x5 = some v → Go X 110 (wC g ad o) [(5, iv x5)] [] := by
    intro o x5 h
    unfold b_X11_person_110 at h
    refine g_iload E gdX11_person_110 0 rfl ?_
    exact g_iret E hQ (by rw [← Option.some.inj h]) (by rw [← Option.some.inj h]) gdX11_person_112
  have j84 : ∀ (o : OO) (x1 : Int) (x2 : Int) (x3 : Int) (x4 : Int), b_X11_person_84 o x1 x2 x3 x4 = some v → Go X 84 (wC g ad o) [(0, .ref (ad 0)), (1, iv x1), (2, iv x2), (3, iv x3), (4, iv x4)] [] := by
    intro o x1 x2 x3 x4 h
    unfold b_X11_person_84 at h
    refine g_aload_n E gdX11_person_84 rfl 0 rfl ?_
    refine g_get (T := TX11) E fw_X11 0 (wC_0 g ad o) rfl 4 (by decide) w_462 rfl rfl gdX11_person_85 ?_
    refine g_iload_n E gdX11_person_88 rfl 2 rfl ?_
    refine g_iload_n E gdX11_person_89 rfl 3 rfl ?_
    refine g_iload E gdX11_person_90 4 rfl ?_
    obtain ⟨r1, o3, hc2, h⟩ := qB2_of h
    refine g_Vi (r := r1) (As := [iv x2, iv x3, iv x4]) (rest := []) (w := wC g ad o3) E (c_X5_add l g ad o x2 x3 x4 (r1, o3) hc2) okm_X5_add okw_X5_add w_715 rfl (wC_23 g ad o) rfl rfl (Nat.le_of_ble_eq_true rfl) ⟨Nat.le_of_ble_eq_true rfl, Nat.le_of_ble_eq_true rfl⟩ gdX11_person_92 ?_
    refine g_istore E [(5, iv r1), (0, .ref (ad 0)), (1, iv x1), (2, iv x2), (3, iv x3), (4, iv x4)] gdX11_person_95 (by decide) rfl ?_
    refine g_iload_n E gdX11_person_97 rfl 2 rfl ?_
    refine g_bipush E gdX11_person_98 (by decide) ?_
    refine g_icmp_eq E 110 gdX11_person_100 (by decide) h (fun h => ?_) (fun h => ?_)
    ·
      refine g_sub E [0] rfl ?_
      exact j110 o3 r1 h
    ·
      refine g_aload_n E gdX11_person_103 rfl 1 rfl ?_
      refine g_iload E gdX11_person_104 0 rfl ?_
      refine g_iload_n E gdX11_person_106 rfl 2 rfl ?_
      obtain ⟨o6, hc5, h⟩ := qB_of h
      refine g_Vv (As := [iv r1, iv x1]) (rest := []) (w := wC g ad o6) E (c_X11_settle l g ad o3 r1 x1 o6 hc5) okm_X11_settle okw_X11_settle w_719 rfl (wC_0 g ad o3) rfl rfl (Nat.le_of_ble_eq_true rfl) ⟨Nat.le_of_ble_eq_true rfl, Nat.le_of_ble_eq_true rfl⟩ gdX11_person_107 ?_
      refine g_sub E [0] rfl ?_
      exact j110 o6 r1 h
  have j34 : ∀ (o : OO) (x1 : Int) (x2 : Int) (x3 : Int) (x4 : Int), b_X11_person_34 o x1 x2 x3 x4 = some v → Go X 34 (wC g ad o) [(0, .ref (ad 0)), (1, iv x1), (2, iv x2), (3, iv x3), (4, iv x4)] [] := by
    intro o x1 x2 x3 x4 h
    unfold b_X11_person_34 at h
    refine g_iload E gdX11_person_34 4 rfl ?_
    refine g_if_lt E 46 gdX11_person_36 (by decide) h (fun h => ?_) (fun h => ?_)
    ·
      refine g_sub E [] rfl ?_
      exact j46 o h
    ·
      refine g_iload E gdX11_person_39 4 rfl ?_
      refine g_bipush E gdX11_person_41 (by decide) ?_
      refine g_icmp_le E 48 gdX11_person_43 (by decide) h (fun h => ?_) (fun h => ?_)
      ·
        refine g_aload_n E gdX11_person_48 rfl 0 rfl ?_
        refine g_get (T := TX11) E fw_X11 0 (wC_0 g ad o) rfl 4 (by decide) w_462 rfl rfl gdX11_person_49 ?_
        obtain ⟨r7, hc8, h⟩ := qB_of h
        refine g_Vi (r := r7) (As := []) (rest := []) (w := wC g ad o) E (c_X5_number l g ad o r7 hc8) okm_X5_number okw_X5_number w_703 rfl (wC_23 g ad o) rfl rfl (Nat.le_of_ble_eq_true rfl) ⟨Nat.le_of_ble_eq_true rfl, Nat.le_of_ble_eq_true rfl⟩ gdX11_person_52 ?_
        refine g_bipush E gdX11_person_55 (by decide) ?_
        refine g_icmp_lt E 63 gdX11_person_57 (by decide) h (fun h => ?_) (fun h => ?_)
        ·
          refine g_iload_n E gdX11_person_63 rfl 1 rfl ?_
          refine g_bipush E gdX11_person_64 (by decide) ?_
          refine g_icmp_eq E 84 gdX11_person_66 (by decide) h (fun h => ?_) (fun h => ?_)
          ·
            exact j84 o x1 x2 x3 x4 h
          ·
            refine g_aload_n E gdX11_person_69 rfl 0 rfl ?_
            refine g_get (T := TX11) E fw_X11 0 (wC_0 g ad o) rfl 3 (by decide) w_461 rfl rfl gdX11_person_70 ?_
            refine g_iload_n E gdX11_person_73 rfl 1 rfl ?_
            obtain ⟨r9, hc10, h⟩ := qB_of h
            refine g_Vi (r := r9) (As := [iv x1]) (rest := []) (w := wC g ad o) E (c_X1_roomsLeft l g ad o x1 r9 hc10) okm_X1_roomsLeft okw_X1_roomsLeft w_707 rfl (wC_10 g ad o) rfl rfl (Nat.le_of_ble_eq_true rfl) ⟨Nat.le_of_ble_eq_true rfl, Nat.le_of_ble_eq_true rfl⟩ gdX11_person_74 ?_
            refine g_iconst E gdX11_person_77 ?_
            refine g_icmp_ge E 84 gdX11_person_78 (by decide) h (fun h => ?_) (fun h => ?_)
            ·
              exact j84 o x1 x2 x3 x4 h
            ·
              refine g_bipush E gdX11_person_81 (by decide) ?_
              exact g_iret E hQ (by rw [← Option.some.inj h]) (by rw [← Option.some.inj h]) gdX11_person_83
        ·
          refine g_bipush E gdX11_person_60 (by decide) ?_
          exact g_iret E hQ (by rw [← Option.some.inj h]) (by rw [← Option.some.inj h]) gdX11_person_62
      ·
        refine g_sub E [] rfl ?_
        exact j46 o h
  have j19 : ∀ (o : OO) (x1 : Int) (x2 : Int) (x3 : Int) (x4 : Int), b_X11_person_19 o x1 x2 x3 x4 = some v → Go X 19 (wC g ad o) [(0, .ref (ad 0)), (1, iv x1), (2, iv x2), (3, iv x3), (4, iv x4)] [] := by
    intro o x1 x2 x3 x4 h
    unfold b_X11_person_19 at h
    refine g_iload_n E gdX11_person_19 rfl 2 rfl ?_
    refine g_bipush E gdX11_person_20 (by decide) ?_
    refine g_icmp_eq E 34 gdX11_person_22 (by decide) h (fun h => ?_) (fun h => ?_)
    ·
      exact j34 o x1 x2 x3 x4 h
    ·
      refine g_iload_n E gdX11_person_25 rfl 2 rfl ?_
      obtain ⟨r11, hc12, h⟩ := qB_of h
      refine g_Si (r := r11) (As := [iv x2]) (rest := []) (w := wC g ad o) E (c_X3_isCell l g (wC g ad o) x2 r11 hc12) okm_X3_isCell w_622 w_621 rfl rfl (Nat.le_of_ble_eq_true rfl) ⟨Nat.le_of_ble_eq_true rfl, Nat.le_of_ble_eq_true rfl⟩ gdX11_person_26 ?_
      refine g_if_ne E 34 gdX11_person_29 (by decide) h (fun h => ?_) (fun h => ?_)
      ·
        exact j34 o x1 x2 x3 x4 h
      ·
        refine g_iconst E gdX11_person_32 ?_
        exact g_iret E hQ (by rw [← Option.some.inj h]) (by rw [← Option.some.inj h]) gdX11_person_33
  unfold s_X11_person at h
  refine g_iload_n E gdX11_person_0 rfl 1 rfl ?_
  refine g_bipush E gdX11_person_1 (by decide) ?_
  refine g_icmp_eq E 19 gdX11_person_3 (by decide) h (fun h => ?_) (fun h => ?_)
  ·
    exact j19 o x1 x2 x3 x4 h
  ·
    refine g_aload_n E gdX11_person_6 rfl 0 rfl ?_
    refine g_get (T := TX11) E fw_X11 0 (wC_0 g ad o) rfl 3 (by decide) w_461 rfl rfl gdX11_person_7 ?_
    refine g_iload_n E gdX11_person_10 rfl 1 rfl ?_
    obtain ⟨r13, hc14, h⟩ := qB_of h
    refine g_Vi (r := r13) (As := [iv x1]) (rest := []) (w := wC g ad o) E (c_X1_exists l g ad o x1 r13 hc14) okm_X1_exists okw_X1_exists w_667 rfl (wC_10 g ad o) rfl rfl (Nat.le_of_ble_eq_true rfl) ⟨Nat.le_of_ble_eq_true rfl, Nat.le_of_ble_eq_true rfl⟩ gdX11_person_11 ?_
    refine g_if_ne E 19 gdX11_person_14 (by decide) h (fun h => ?_) (fun h => ?_)
    ·
      exact j19 o x1 x2 x3 x4 h
    ·
      refine g_iconst E gdX11_person_17 ?_
      exact g_iret E hQ (by rw [← Option.some.inj h]) (by rw [← Option.some.inj h]) gdX11_person_18
set_option maxHeartbeats 4000000 in
set_option maxRecDepth 100000 in
theorem c_X8_exchange__4 (l : Launch) (g : GG) (ad : Nat → Nat) (o : OO) (x1 : Int) (x2 : Int) (x3 : Int) (v : Int × OO) (h : s_X8_exchange__4 o x1 x2 x3 = some v) : CI l g yX8_exchange cX8_exchange 5 (some .int) 0 0 (wC g ad o) [.ref (ad 4), iv x1, iv x2, iv x3] v.1 (wC g ad v.2) := by
  refine met_I (by decide) (Nat.le_of_ble_eq_true rfl) ?_
  intro X E hQ
  show Go X 0 (wC g ad o) [(0, .ref (ad 4)), (1, iv x1), (2, iv x2), (3, iv x3)] []
  unfold s_X8_exchange__4 at h
  refine g_aload_n E gdX8_exchange_0 rfl 0 rfl ?_
  refine g_get (T := TX8) E fw_X8 4 (wC_4 g ad o) rfl 3 (by decide) w_129 rfl rfl gdX8_exchange_1 ?_
  refine g_iload_n E gdX8_exchange_4 rfl 1 rfl ?_
  refine g_bipush E gdX8_exchange_5 (by decide) ?_
  refine g_imul E gdX8_exchange_7 ?_
  refine g_iload_n E gdX8_exchange_8 rfl 2 rfl ?_
  refine g_iadd E gdX8_exchange_9 ?_
  obtain ⟨hi1, h⟩ := qIn_of h
  refine g_iald E 6 (wC_6 g ad o) (by decide) hi1 gdX8_exchange_10 ?_
  obtain ⟨n2, e_n2, h⟩ := qNm_of h
  refine g_nmi e_n2 ?_
  refine g_istore E [(4, iv n2), (0, .ref (ad 4)), (1, iv x1), (2, iv x2), (3, iv x3)] gdX8_exchange_11 (by decide) rfl ?_
  refine g_aload_n E gdX8_exchange_13 rfl 1 rfl ?_
  refine g_get (T := TX8) E fw_X8 4 (wC_4 g ad o) rfl 3 (by decide) w_129 rfl rfl gdX8_exchange_14 ?_
  refine g_iload_n E gdX8_exchange_17 rfl 2 rfl ?_
  refine g_bipush E gdX8_exchange_18 (by decide) ?_
  refine g_imul E gdX8_exchange_20 ?_
  refine g_iload_n E gdX8_exchange_21 rfl 3 rfl ?_
  refine g_iadd E gdX8_exchange_22 ?_
  refine g_iload_n E gdX8_exchange_23 rfl 4 rfl ?_
  obtain ⟨hi3, h⟩ := qIn_of h
  obtain ⟨o4, e_o4, h⟩ := qNm_of h
  refine g_iast (ws' := wC g ad o4) E 6 (wC_6 g ad o) (by decide) hi3 (by rw [e_o4]; exact wC_s6 g ad o _ _) gdX8_exchange_24 ?_
  refine g_iload E gdX8_exchange_25 0 rfl ?_
  exact g_iret E hQ (by rw [← Option.some.inj h]) (by rw [← Option.some.inj h]) gdX8_exchange_27
set_option maxHeartbeats 4000000 in
set_option maxRecDepth 100000 in
theorem c_X11_put (l : Launch) (g : GG) (ad : Nat → Nat) (o : OO) (x1 : Int) (x2 : Int) (x3 : Int) (v : Int × OO) (h : s_X11_put o x1 x2 x3 = some v) : CI l g yX11_put cX11_put 4 (some .int) 1 24 (wC g ad o) [.ref (ad 0), iv x1, iv x2, iv x3] v.1 (wC g ad v.2) := by
  refine met_I (by decide) (Nat.le_of_ble_eq_true rfl) ?_
  intro X E hQ
  show Go X 0 (wC g ad o) [(0, .ref (ad 0)), (1, iv x1), (2, iv x2), (3, iv x3)] []
  unfold s_X11_put at h
  refine g_aload_n E gdX11_put_0 rfl 0 rfl ?_
  refine g_get (T := TX11) E fw_X11 0 (wC_0 g ad o) rfl 1 (by decide) w_459 rfl rfl gdX11_put_1 ?_
  refine g_iload_n E gdX11_put_4 rfl 1 rfl ?_
  obtain ⟨r1, hc2, h⟩ := qB_of h
  refine g_Vi (r := r1) (As := [iv x1]) (rest := []) (w := wC g ad o) E (c_X8_exists__4 l g ad o x1 r1 hc2) okm_X8_exists okw_X8_exists w_517 rfl (wC_4 g ad o) rfl rfl (Nat.le_of_ble_eq_true rfl) ⟨Nat.le_of_ble_eq_true rfl, Nat.le_of_ble_eq_true rfl⟩ gdX11_put_5 ?_
  refine g_if_ne E 13 gdX11_put_8 (by decide) h (fun h => ?_) (fun h => ?_)
  ·
    refine g_aload_n E gdX11_put_13 rfl 0 rfl ?_
    refine g_get (T := TX11) E fw_X11 0 (wC_0 g ad o) rfl 1 (by decide) w_459 rfl rfl gdX11_put_14 ?_
    refine g_iload_n E gdX11_put_17 rfl 1 rfl ?_
    obtain ⟨r3, hc4, h⟩ := qB_of h
    refine g_Vi (r := r3) (As := [iv x1]) (rest := []) (w := wC g ad o) E (c_X8_isThere__4 l g ad o x1 r3 hc4) okm_X8_isThere okw_X8_isThere w_539 rfl (wC_4 g ad o) rfl rfl (Nat.le_of_ble_eq_true rfl) ⟨Nat.le_of_ble_eq_true rfl, Nat.le_of_ble_eq_true rfl⟩ gdX11_put_18 ?_
    refine g_if_ne E 30 gdX11_put_21 (by decide) h (fun h => ?_) (fun h => ?_)
    ·
      refine g_aload_n E gdX11_put_30 rfl 0 rfl ?_
      refine g_get (T := TX11) E fw_X11 0 (wC_0 g ad o) rfl 1 (by decide) w_459 rfl rfl gdX11_put_31 ?_
      refine g_iload_n E gdX11_put_34 rfl 1 rfl ?_
      refine g_iload_n E gdX11_put_35 rfl 2 rfl ?_
      obtain ⟨r5, hc6, h⟩ := qB_of h
      refine g_Vi (r := r5) (As := [iv x1, iv x2]) (rest := []) (w := wC g ad o) E (c_X8_holds l g ad o x1 x2 r5 hc6) okm_X8_holds okw_X8_holds w_543 rfl (wC_4 g ad o) rfl rfl (Nat.le_of_ble_eq_true rfl) ⟨Nat.le_of_ble_eq_true rfl, Nat.le_of_ble_eq_true rfl⟩ gdX11_put_36 ?_
      refine g_if_ne E 48 gdX11_put_39 (by decide) h (fun h => ?_) (fun h => ?_)
      ·
        refine g_aload_n E gdX11_put_48 rfl 0 rfl ?_
        refine g_get (T := TX11) E fw_X11 0 (wC_0 g ad o) rfl 1 (by decide) w_459 rfl rfl gdX11_put_49 ?_
        refine g_iload_n E gdX11_put_52 rfl 1 rfl ?_
        refine g_iload_n E gdX11_put_53 rfl 2 rfl ?_
        refine g_iload_n E gdX11_put_54 rfl 3 rfl ?_
        refine g_i2b E gdX11_put_55 ?_
        obtain ⟨r7, o9, hc8, h⟩ := qB2_of h
        refine g_Vi (r := r7) (As := [iv x1, iv x2, iv (jb x3)]) (rest := []) (w := wC g ad o9) E (c_X8_exchange__4 l g ad o x1 x2 (jb x3) (r7, o9) hc8) okm_X8_exchange okw_X8_exchange w_547 rfl (wC_4 g ad o) rfl rfl (Nat.le_of_ble_eq_true rfl) ⟨Nat.le_of_ble_eq_true rfl, Nat.le_of_ble_eq_true rfl⟩ gdX11_put_56 ?_
        refine g_sipush E gdX11_put_59 (by decide) ?_
        refine g_iadd E gdX11_put_62 ?_
        exact g_iret E hQ (by rw [← Option.some.inj h]) (by rw [← Option.some.inj h]) gdX11_put_63
      ·
        refine g_aload_n E gdX11_put_42 rfl 0 rfl ?_
        refine g_iconst E gdX11_put_43 ?_
        obtain ⟨r10, o12, hc11, h⟩ := qB2_of h
        refine g_Vi (r := r10) (As := [iv 2]) (rest := []) (w := wC g ad o12) E (c_X11_found l g ad o 2 (r10, o12) hc11) okm_X11_found okw_X11_found w_521 rfl (wC_0 g ad o) rfl rfl (Nat.le_of_ble_eq_true rfl) ⟨Nat.le_of_ble_eq_true rfl, Nat.le_of_ble_eq_true rfl⟩ gdX11_put_44 ?_
        exact g_iret E hQ (by rw [← Option.some.inj h]) (by rw [← Option.some.inj h]) gdX11_put_47
    ·
      refine g_aload_n E gdX11_put_24 rfl 0 rfl ?_
      refine g_iconst E gdX11_put_25 ?_
      obtain ⟨r13, o15, hc14, h⟩ := qB2_of h
      refine g_Vi (r := r13) (As := [iv 1]) (rest := []) (w := wC g ad o15) E (c_X11_found l g ad o 1 (r13, o15) hc14) okm_X11_found okw_X11_found w_521 rfl (wC_0 g ad o) rfl rfl (Nat.le_of_ble_eq_true rfl) ⟨Nat.le_of_ble_eq_true rfl, Nat.le_of_ble_eq_true rfl⟩ gdX11_put_26 ?_
      exact g_iret E hQ (by rw [← Option.some.inj h]) (by rw [← Option.some.inj h]) gdX11_put_29
  ·
    refine g_iconst E gdX11_put_11 ?_
    exact g_iret E hQ (by rw [← Option.some.inj h]) (by rw [← Option.some.inj h]) gdX11_put_12
set_option maxHeartbeats 4000000 in
set_option maxRecDepth 100000 in
theorem c_X4_routeOf (l : Launch) (g : GG) (ad : Nat → Nat) (o : OO) (x1 : Int) (x2 : Int) (v : OO) (h : s_X4_routeOf o x1 x2 = some v) : CV l g yX4_routeOf cX4_routeOf 3 1 20 (wC g ad o) [.ref (ad 32), iv x1, iv x2] (wC g ad v) := by
  refine met_V (by decide) (Nat.le_of_ble_eq_true rfl) ?_
  intro X E hQ
  show Go X 0 (wC g ad o) [(0, .ref (ad 32)), (1, iv x1), (2, iv x2)] []
  unfold s_X4_routeOf at h
  refine g_aload_n E gdX4_routeOf_0 rfl 0 rfl ?_
  refine g_get (T := TX4) E fw_X4 32 (wC_32 g ad o) rfl 3 (by decide) w_254 rfl rfl gdX4_routeOf_1 ?_
  refine g_iload_n E gdX4_routeOf_4 rfl 1 rfl ?_
  refine g_iconst E gdX4_routeOf_5 ?_
  obtain ⟨hi1, h⟩ := qIn_of h
  obtain ⟨o2, e_o2, h⟩ := qNm_of h
  refine g_iast (ws' := wC g ad o2) E 36 (wC_36 g ad o) (by decide) hi1 (by rw [e_o2]; exact wC_s36 g ad o _ _) gdX4_routeOf_6 ?_
  refine g_aload_n E gdX4_routeOf_7 rfl 0 rfl ?_
  refine g_get (T := TX4) E fw_X4 32 (wC_32 g ad o2) rfl 4 (by decide) w_255 rfl rfl gdX4_routeOf_8 ?_
  refine g_iload_n E gdX4_routeOf_11 rfl 1 rfl ?_
  refine g_bipush E gdX4_routeOf_12 (by decide) ?_
  refine g_imul E gdX4_routeOf_14 ?_
  refine g_iload_n E gdX4_routeOf_15 rfl 2 rfl ?_
  obtain ⟨hi3, h⟩ := qIn_of h
  obtain ⟨o4, e_o4, h⟩ := qNm_of h
  refine g_iast (ws' := wC g ad o4) E 37 (wC_37 g ad o2) (by decide) hi3 (by rw [e_o4]; exact wC_s37 g ad o2 _ _) gdX4_routeOf_16 ?_
  refine g_aload_n E gdX4_routeOf_17 rfl 0 rfl ?_
  refine g_get (T := TX4) E fw_X4 32 (wC_32 g ad o4) rfl 5 (by decide) w_256 rfl rfl gdX4_routeOf_18 ?_
  refine g_iload_n E gdX4_routeOf_21 rfl 1 rfl ?_
  refine g_iload_n E gdX4_routeOf_22 rfl 2 rfl ?_
  obtain ⟨p5, hc6, h⟩ := qB_of h
  refine g_Sl (r := p5) (As := [iv x2]) (rest := [iv x1, .ref (ad 38)]) (w := wC g ad o4) E (c_X3_bit l g (wC g ad o4) x2 p5 hc6) okm_X3_bit w_842 w_877 rfl rfl (Nat.le_of_ble_eq_true rfl) ⟨Nat.le_of_ble_eq_true rfl, Nat.le_of_ble_eq_true rfl⟩ gdX4_routeOf_23 ?_
  obtain ⟨hi7, h⟩ := qIn_of h
  obtain ⟨o8, e_o8, h⟩ := qNm_of h
  refine g_last (ws' := wC g ad o8) E 38 (wC_38 g ad o4) (by decide) hi7 (by rw [e_o8]; exact wC_s38 g ad o4 _ _) gdX4_routeOf_26 ?_
  exact g_vret E hQ (by rw [← Option.some.inj h]) gdX4_routeOf_27
set_option maxHeartbeats 4000000 in
set_option maxRecDepth 100000 in
theorem c_X11_ramp (l : Launch) (g : GG) (ad : Nat → Nat) (o : OO) (x1 : Int) (x2 : Int) (v : Int × OO) (h : s_X11_ramp o x1 x2 = some v) : CI l g yX11_ramp cX11_ramp 7 (some .int) 2 42 (wC g ad o) [.ref (ad 0), iv x1, iv x2] v.1 (wC g ad v.2) := by
  refine met_I (by decide) (Nat.le_of_ble_eq_true rfl) ?_
  intro X E hQ
  show Go X 0 (wC g ad o) [(0, .ref (ad 0)), (1, iv x1), (2, iv x2)] []
  have j18 : ∀ (o : OO), b_X11_ramp_18 o = some v → Go X 18 (wC g ad o) [] [] := by
    intro o h
    unfold b_X11_ramp_18 at h
    refine g_iconst E gdX11_ramp_18 ?_
    exact g_iret E hQ (by rw [← Option.some.inj h]) (by rw [← Option.some.inj h]) gdX11_ramp_19
  have j104 : ∀ (o : OO), b_X11_ramp_104 o = some v → Go X 104 (wC g ad o) [] [] := by
    intro o h
    unfold b_X11_ramp_104 at h
    refine g_bipush E gdX11_ramp_104 (by decide) ?_
    exact g_iret E hQ (by rw [← Option.some.inj h]) (by rw [← Option.some.inj h]) gdX11_ramp_106
  have j86 : ∀ (o : OO) (x1 : Int) (x2 : Int) (y0 : Int), b_X11_ramp_86 o x1 x2 y0 = some v → Go X 86 (wC g ad o) [(0, .ref (ad 0)), (1, iv x1), (2, iv x2)] [iv y0] := by
    intro o x1 x2 y0 h
    unfold b_X11_ramp_86 at h
    refine g_istore E [(5, iv y0), (0, .ref (ad 0)), (1, iv x1), (2, iv x2)] gdX11_ramp_86 (by decide) rfl ?_
    refine g_aload_n E gdX11_ramp_88 rfl 1 rfl ?_
    refine g_get (T := TX11) E fw_X11 0 (wC_0 g ad o) rfl 2 (by decide) w_460 rfl rfl gdX11_ramp_89 ?_
    refine g_iload_n E gdX11_ramp_92 rfl 3 rfl ?_
    obtain ⟨r1, hc2, h⟩ := qB_of h
    refine g_Vi (r := r1) (As := [iv x2]) (rest := []) (w := wC g ad o) E (c_X3_isWater l g ad o x2 r1 hc2) okm_X3_isWater okw_X3_isWater w_651 rfl (wC_7 g ad o) rfl rfl (Nat.le_of_ble_eq_true rfl) ⟨Nat.le_of_ble_eq_true rfl, Nat.le_of_ble_eq_true rfl⟩ gdX11_ramp_93 ?_
    refine g_if_ne E 104 gdX11_ramp_96 (by decide) h (fun h => ?_) (fun h => ?_)
    ·
      refine g_sub E [] rfl ?_
      exact j104 o h
    ·
      refine g_iload E gdX11_ramp_99 0 rfl ?_
      refine g_if_ne E 107 gdX11_ramp_101 (by decide) h (fun h => ?_) (fun h => ?_)
      ·
        refine g_aload_n E gdX11_ramp_107 rfl 1 rfl ?_
        refine g_get (T := TX11) E fw_X11 0 (wC_0 g ad o) rfl 6 (by decide) w_464 rfl rfl gdX11_ramp_108 ?_
        refine g_iconst E gdX11_ramp_111 ?_
        refine g_aload_n E gdX11_ramp_112 rfl 1 rfl ?_
        refine g_get (T := TX11) E fw_X11 0 (wC_0 g ad o) rfl 13 (by decide) w_471 rfl rfl gdX11_ramp_113 ?_
        refine g_iload_n E gdX11_ramp_116 rfl 2 rfl ?_
        obtain ⟨r3, o5, hc4, h⟩ := qB2_of h
        refine g_Vi (r := r3) (As := [iv 2, iv (o.1 0 13), iv x1]) (rest := []) (w := wC g ad o5) E (c_X4_add l g ad o 2 (o.1 0 13) x1 (r3, o5) hc4) okm_X4_add okw_X4_add w_869 rfl (wC_32 g ad o) rfl rfl (Nat.le_of_ble_eq_true rfl) ⟨Nat.le_of_ble_eq_true rfl, Nat.le_of_ble_eq_true rfl⟩ gdX11_ramp_117 ?_
        refine g_istore E [(6, iv r3), (5, iv y0), (0, .ref (ad 0)), (1, iv x1), (2, iv x2)] gdX11_ramp_120 (by decide) rfl ?_
        refine g_aload_n E gdX11_ramp_122 rfl 2 rfl ?_
        refine g_get (T := TX11) E fw_X11 0 (wC_0 g ad o5) rfl 6 (by decide) w_464 rfl rfl gdX11_ramp_123 ?_
        refine g_iload E gdX11_ramp_126 0 rfl ?_
        refine g_iload_n E gdX11_ramp_128 rfl 4 rfl ?_
        obtain ⟨o8, hc7, h⟩ := qB_of h
        refine g_Vv (As := [iv r3, iv x2]) (rest := []) (w := wC g ad o8) E (c_X4_routeOf l g ad o5 r3 x2 o8 hc7) okm_X4_routeOf okw_X4_routeOf w_903 rfl (wC_32 g ad o5) rfl rfl (Nat.le_of_ble_eq_true rfl) ⟨Nat.le_of_ble_eq_true rfl, Nat.le_of_ble_eq_true rfl⟩ gdX11_ramp_129 ?_
        refine g_iload E gdX11_ramp_132 0 rfl ?_
        exact g_iret E hQ (by rw [← Option.some.inj h]) (by rw [← Option.some.inj h]) gdX11_ramp_134
      ·
        refine g_sub E [] rfl ?_
        exact j104 o h
  have j85 : ∀ (o : OO) (x1 : Int) (x2 : Int), b_X11_ramp_85 o x1 x2 = some v → Go X 85 (wC g ad o) [(0, .ref (ad 0)), (1, iv x1), (2, iv x2)] [] := by
    intro o x1 x2 h
    unfold b_X11_ramp_85 at h
    refine g_iconst E gdX11_ramp_85 ?_
    exact j86 o x1 x2 0 h
  unfold s_X11_ramp at h
  refine g_aload_n E gdX11_ramp_0 rfl 0 rfl ?_
  refine g_get (T := TX11) E fw_X11 0 (wC_0 g ad o) rfl 6 (by decide) w_464 rfl rfl gdX11_ramp_1 ?_
  refine g_iload_n E gdX11_ramp_4 rfl 1 rfl ?_
  obtain ⟨r9, hc10, h⟩ := qB_of h
  refine g_Vi (r := r9) (As := [iv x1]) (rest := []) (w := wC g ad o) E (c_X4_exists l g ad o x1 r9 hc10) okm_X4_exists okw_X4_exists w_882 rfl (wC_32 g ad o) rfl rfl (Nat.le_of_ble_eq_true rfl) ⟨Nat.le_of_ble_eq_true rfl, Nat.le_of_ble_eq_true rfl⟩ gdX11_ramp_5 ?_
  refine g_if_eq E 18 gdX11_ramp_8 (by decide) h (fun h => ?_) (fun h => ?_)
  ·
    refine g_sub E [] rfl ?_
    exact j18 o h
  ·
    refine g_iload_n E gdX11_ramp_11 rfl 2 rfl ?_
    obtain ⟨r11, hc12, h⟩ := qB_of h
    refine g_Si (r := r11) (As := [iv x2]) (rest := []) (w := wC g ad o) E (c_X3_isCell l g (wC g ad o) x2 r11 hc12) okm_X3_isCell w_622 w_621 rfl rfl (Nat.le_of_ble_eq_true rfl) ⟨Nat.le_of_ble_eq_true rfl, Nat.le_of_ble_eq_true rfl⟩ gdX11_ramp_12 ?_
    refine g_if_ne E 20 gdX11_ramp_15 (by decide) h (fun h => ?_) (fun h => ?_)
    ·
      refine g_aload_n E gdX11_ramp_20 rfl 0 rfl ?_
      refine g_get (T := TX11) E fw_X11 0 (wC_0 g ad o) rfl 6 (by decide) w_464 rfl rfl gdX11_ramp_21 ?_
      obtain ⟨r13, hc14, h⟩ := qB_of h
      refine g_Vi (r := r13) (As := []) (rest := []) (w := wC g ad o) E (c_X4_number l g ad o r13 hc14) okm_X4_number okw_X4_number w_790 rfl (wC_32 g ad o) rfl rfl (Nat.le_of_ble_eq_true rfl) ⟨Nat.le_of_ble_eq_true rfl, Nat.le_of_ble_eq_true rfl⟩ gdX11_ramp_24 ?_
      refine g_bipush E gdX11_ramp_27 (by decide) ?_
      refine g_icmp_lt E 35 gdX11_ramp_29 (by decide) h (fun h => ?_) (fun h => ?_)
      ·
        refine g_aload_n E gdX11_ramp_35 rfl 0 rfl ?_
        refine g_get (T := TX11) E fw_X11 0 (wC_0 g ad o) rfl 6 (by decide) w_464 rfl rfl gdX11_ramp_36 ?_
        refine g_iload_n E gdX11_ramp_39 rfl 1 rfl ?_
        refine g_iconst E gdX11_ramp_40 ?_
        obtain ⟨r15, hc16, h⟩ := qB_of h
        refine g_Vi (r := r15) (As := [iv x1, iv 1]) (rest := []) (w := wC g ad o) E (c_X4_isOf l g ad o x1 1 r15 hc16) okm_X4_isOf okw_X4_isOf w_886 rfl (wC_32 g ad o) rfl rfl (Nat.le_of_ble_eq_true rfl) ⟨Nat.le_of_ble_eq_true rfl, Nat.le_of_ble_eq_true rfl⟩ gdX11_ramp_41 ?_
        refine g_if_ne E 53 gdX11_ramp_44 (by decide) h (fun h => ?_) (fun h => ?_)
        ·
          refine g_aload_n E gdX11_ramp_53 rfl 0 rfl ?_
          refine g_get (T := TX11) E fw_X11 0 (wC_0 g ad o) rfl 6 (by decide) w_464 rfl rfl gdX11_ramp_54 ?_
          refine g_iload_n E gdX11_ramp_57 rfl 1 rfl ?_
          obtain ⟨p17, hc18, h⟩ := qB_of h
          refine g_Vl (r := p17) (As := [iv x1]) (rest := []) (w := wC g ad o) E (c_X4_cells l g ad o x1 p17 hc18) okm_X4_cells okw_X4_cells w_890 rfl (wC_32 g ad o) rfl rfl (Nat.le_of_ble_eq_true rfl) ⟨Nat.le_of_ble_eq_true rfl, Nat.le_of_ble_eq_true rfl⟩ gdX11_ramp_58 ?_
          refine g_lstore_n E [(3, .long p17), (0, .ref (ad 0)), (1, iv x1), (2, iv x2)] gdX11_ramp_61 rfl (by decide) rfl ?_
          refine g_lload_n E gdX11_ramp_62 rfl 0 rfl ?_
          obtain ⟨p19, hc20, h⟩ := qB_of h
          refine g_Sl (r := p19) (As := [.long p17]) (rest := []) (w := wC g ad o) E (c_X3_spread l g (wC g ad o) p17 p19 hc20) okm_X3_spread w_895 w_894 rfl rfl (Nat.le_of_ble_eq_true rfl) ⟨Nat.le_of_ble_eq_true rfl, Nat.le_of_ble_eq_true rfl⟩ gdX11_ramp_63 ?_
          refine g_iload_n E gdX11_ramp_66 rfl 3 rfl ?_
          obtain ⟨r21, hc22, h⟩ := qB_of h
          refine g_Si (r := r21) (As := [.long p19, iv x2]) (rest := []) (w := wC g ad o) E (c_X3_has l g (wC g ad o) p19 x2 r21 hc22) okm_X3_has w_839 w_902 rfl rfl (Nat.le_of_ble_eq_true rfl) ⟨Nat.le_of_ble_eq_true rfl, Nat.le_of_ble_eq_true rfl⟩ gdX11_ramp_67 ?_
          refine g_if_eq E 85 gdX11_ramp_70 (by decide) h (fun h => ?_) (fun h => ?_)
          ·
            refine g_sub E [1, 2, 3] rfl ?_
            exact j85 o x1 x2 h
          ·
            refine g_lload_n E gdX11_ramp_73 rfl 0 rfl ?_
            refine g_iload_n E gdX11_ramp_74 rfl 3 rfl ?_
            obtain ⟨r23, hc24, h⟩ := qB_of h
            refine g_Si (r := r23) (As := [.long p17, iv x2]) (rest := []) (w := wC g ad o) E (c_X3_has l g (wC g ad o) p17 x2 r23 hc24) okm_X3_has w_839 w_902 rfl rfl (Nat.le_of_ble_eq_true rfl) ⟨Nat.le_of_ble_eq_true rfl, Nat.le_of_ble_eq_true rfl⟩ gdX11_ramp_75 ?_
            refine g_if_ne E 85 gdX11_ramp_78 (by decide) h (fun h => ?_) (fun h => ?_)
            ·
              refine g_sub E [1, 2, 3] rfl ?_
              exact j85 o x1 x2 h
            ·
              refine g_iconst E gdX11_ramp_81 ?_
              refine g_goto E 86 gdX11_ramp_82 (by decide) ?_
              refine g_sub E [1, 2, 3] rfl ?_
              exact j86 o x1 x2 1 h
        ·
          refine g_aload_n E gdX11_ramp_47 rfl 0 rfl ?_
          refine g_iconst E gdX11_ramp_48 ?_
          obtain ⟨r25, o27, hc26, h⟩ := qB2_of h
          refine g_Vi (r := r25) (As := [iv 3]) (rest := []) (w := wC g ad o27) E (c_X11_found l g ad o 3 (r25, o27) hc26) okm_X11_found okw_X11_found w_521 rfl (wC_0 g ad o) rfl rfl (Nat.le_of_ble_eq_true rfl) ⟨Nat.le_of_ble_eq_true rfl, Nat.le_of_ble_eq_true rfl⟩ gdX11_ramp_49 ?_
          exact g_iret E hQ (by rw [← Option.some.inj h]) (by rw [← Option.some.inj h]) gdX11_ramp_52
      ·
        refine g_bipush E gdX11_ramp_32 (by decide) ?_
        exact g_iret E hQ (by rw [← Option.some.inj h]) (by rw [← Option.some.inj h]) gdX11_ramp_34
    ·
      refine g_sub E [] rfl ?_
      exact j18 o h
set_option maxHeartbeats 4000000 in
set_option maxRecDepth 100000 in
theorem c_J7_rangeCheck_23922 (l : Launch) (g : GG) (ws : va_W) (x0 : Int) (x1 : Int) (x2 : Int) (v : Unit) (h : s_J7_rangeCheck_23922 x0 x1 x2 = some v) : CV l g yJ7_rangeCheck_23922 cJ7_rangeCheck_23922 3 0 0 ws [iv x0, iv x1, iv x2] ws := by
  refine met_V (by decide) (Nat.le_of_ble_eq_true rfl) ?_
  intro X E hQ
  show Go X 0 ws [(0, iv x0), (1, iv x1), (2, iv x2)] []
  unfold s_J7_rangeCheck_23922 at h
  refine g_iload_n E gdJ7_rangeCheck_23922_0 rfl 1 rfl ?_
  refine g_iload_n E gdJ7_rangeCheck_23922_1 rfl 2 rfl ?_
  refine g_icmp_le E 46 gdJ7_rangeCheck_23922_2 (by decide) h (fun h => ?_) (fun h => ?_)
  ·
    refine g_iload_n E gdJ7_rangeCheck_23922_46 rfl 1 rfl ?_
    refine g_if_ge E 59 gdJ7_rangeCheck_23922_47 (by decide) h (fun h => ?_) (fun h => ?_)
    ·
      refine g_iload_n E gdJ7_rangeCheck_23922_59 rfl 2 rfl ?_
      refine g_iload_n E gdJ7_rangeCheck_23922_60 rfl 0 rfl ?_
      refine g_icmp_le E 73 gdJ7_rangeCheck_23922_61 (by decide) h (fun h => ?_) (fun h => ?_)
      ·
        exact g_vret E hQ rfl gdJ7_rangeCheck_23922_73
      ·
        cases h
    ·
      cases h
  ·
    cases h
set_option maxHeartbeats 4000000 in
set_option maxRecDepth 100000 in
theorem c_J7_fill_fda19 (l : Launch) (g : GG) (ad : Nat → Nat) (o : OO) (x1 : Int) (x2 : Int) (x3 : Int) (v : OO) (h : s_J7_fill_fda19 o x1 x2 x3 = some v) : CV l g yJ7_fill_fda19 cJ7_fill_fda19 5 1 22 (wC g ad o) [.ref (ad 3), iv x1, iv x2, iv x3] (wC g ad v) := by
  refine met_V (by decide) (Nat.le_of_ble_eq_true rfl) ?_
  intro X E hQ
  show Go X 0 (wC g ad o) [(0, .ref (ad 3)), (1, iv x1), (2, iv x2), (3, iv x3)] []
  have j27 : ∀ (o : OO), b_J7_fill_fda19_27 o = some v → Go X 27 (wC g ad o) [] [] := by
    intro o h
    unfold b_J7_fill_fda19_27 at h
    exact g_vret E hQ (by rw [← Option.some.inj h]) gdJ7_fill_fda19_27
  have l10 : ∀ (x2 : Int) (x3 : Int) (r : (OO)) (s0 : OO × Int), loopW (fun s => l_J7_fill_fda19_10 x2 x3 s.1 s.2) s0 = some r → (∀ (o : OO), r = (o) → Go X 27 (wC g ad o) [] []) → Go X 10 (wC g ad s0.1) [(0, .ref (ad 3)), (2, iv x2), (3, iv x3), (4, iv s0.2)] [] := by
    intro x2 x3 r s0 h k1
    refine loop_rule (Head := fun s0 => Go X 10 (wC g ad s0.1) [(0, .ref (ad 3)), (2, iv x2), (3, iv x3), (4, iv s0.2)] []) h ?_
    intro s v h kk kx
    obtain ⟨o, x4⟩ := s
    have h : l_J7_fill_fda19_10 x2 x3 o x4 = some v := h
    have k0 : ∀ (o : OO) (x4 : Int), v = .inl (o, x4) → Go X 10 (wC g ad o) [(0, .ref (ad 3)), (2, iv x2), (3, iv x3), (4, iv x4)] [] := fun o x4 e => kk (o, x4) e
    have k1 : ∀ (o : OO), v = .inr (o) → Go X 27 (wC g ad o) [] [] := fun o e => k1 o (kx _ e).symm
    unfold l_J7_fill_fda19_10 at h
    refine g_iload E gdJ7_fill_fda19_10 3 rfl ?_
    refine g_iload_n E gdJ7_fill_fda19_12 rfl 1 rfl ?_
    refine g_icmp_ge E 27 gdJ7_fill_fda19_13 (by decide) h (fun h => ?_) (fun h => ?_)
    ·
      refine g_sub E [] rfl ?_
      exact k1 o (Option.some.inj h).symm
    ·
      refine g_aload_n E gdJ7_fill_fda19_16 rfl 0 rfl ?_
      refine g_iload E gdJ7_fill_fda19_17 3 rfl ?_
      refine g_iload_n E gdJ7_fill_fda19_19 rfl 2 rfl ?_
      obtain ⟨hi1, h⟩ := qIn_of h
      obtain ⟨o2, e_o2, h⟩ := qNm_of h
      refine g_iast (ws' := wC g ad o2) E 3 (wC_3 g ad o) (by decide) hi1 (by rw [e_o2]; exact wC_s3 g ad o _ _) gdJ7_fill_fda19_20 ?_
      refine g_iinc E [(4, iv (x4 + 1)), (0, .ref (ad 3)), (2, iv x2), (3, iv x3)] gdJ7_fill_fda19_21 3 rfl (by decide) rfl ?_
      refine g_goto E 10 gdJ7_fill_fda19_24 (by decide) ?_
      refine g_sub E [1, 2, 3, 0] rfl ?_
      exact k0 o2 (x4 + 1) (Option.some.inj h).symm
  have j10 : ∀ (o : OO) (x2 : Int) (x3 : Int) (x4 : Int), e_J7_fill_fda19_10 o x2 x3 x4 = some v → Go X 10 (wC g ad o) [(0, .ref (ad 3)), (2, iv x2), (3, iv x3), (4, iv x4)] [] := by
    intro o x2 x3 x4 h
    unfold e_J7_fill_fda19_10 at h
    obtain ⟨r, hr, h⟩ := qB_of h
    refine l10 x2 x3 r _ hr ?_
    ·
      intro u0 e
      have e := e.symm
      subst e
      have h : b_J7_fill_fda19_27 u0 = some v := h
      exact j27 u0 h
  unfold s_J7_fill_fda19 at h
  refine g_aload_n E gdJ7_fill_fda19_0 rfl 0 rfl ?_
  refine g_alen (N := 240) E 3 (wC_3 g ad o) gdJ7_fill_fda19_1 ?_
  refine g_iload_n E gdJ7_fill_fda19_2 rfl 1 rfl ?_
  refine g_iload_n E gdJ7_fill_fda19_3 rfl 2 rfl ?_
  obtain ⟨r3, hc4, h⟩ := qB_of h
  refine g_Sv (As := [iv 240, iv x1, iv x2]) (rest := []) (w := wC g ad o) E (c_J7_rangeCheck_23922 l g (wC g ad o) 240 x1 x2 r3 hc4) okm_J7_rangeCheck_23922 w_533 w_532 rfl rfl (Nat.le_of_ble_eq_true rfl) ⟨Nat.le_of_ble_eq_true rfl, Nat.le_of_ble_eq_true rfl⟩ gdJ7_fill_fda19_4 ?_
  refine g_iload_n E gdJ7_fill_fda19_7 rfl 1 rfl ?_
  refine g_istore E [(4, iv x1), (0, .ref (ad 3)), (1, iv x1), (2, iv x2), (3, iv x3)] gdJ7_fill_fda19_8 (by decide) rfl ?_
  refine g_sub E [1, 3, 4, 0] rfl ?_
  exact j10 o x2 x3 x1 h
set_option maxHeartbeats 4000000 in
set_option maxRecDepth 100000 in
theorem c_X8_layOut (l : Launch) (g : GG) (ad : Nat → Nat) (o : OO) (x1 : Int) (x2 : Int) (v : OO) (h : s_X8_layOut o x1 x2 = some v) : CV l g yX8_layOut cX8_layOut 3 2 46 (wC g ad o) [.ref (ad 1), iv x1, iv x2] (wC g ad v) := by
  refine met_V (by decide) (Nat.le_of_ble_eq_true rfl) ?_
  intro X E hQ
  show Go X 0 (wC g ad o) [(0, .ref (ad 1)), (1, iv x1), (2, iv x2)] []
  unfold s_X8_layOut at h
  refine g_aload_n E gdX8_layOut_0 rfl 0 rfl ?_
  refine g_get (T := TX8) E fw_X8 1 (wC_1 g ad o) rfl 2 (by decide) w_128 rfl rfl gdX8_layOut_1 ?_
  refine g_iload_n E gdX8_layOut_4 rfl 1 rfl ?_
  refine g_iload_n E gdX8_layOut_5 rfl 2 rfl ?_
  obtain ⟨hi1, h⟩ := qIn_of h
  obtain ⟨o2, e_o2, h⟩ := qNm_of h
  refine g_iast (ws' := wC g ad o2) E 2 (wC_2 g ad o) (by decide) hi1 (by rw [e_o2]; exact wC_s2 g ad o _ _) gdX8_layOut_6 ?_
  refine g_aload_n E gdX8_layOut_7 rfl 0 rfl ?_
  refine g_get (T := TX8) E fw_X8 1 (wC_1 g ad o2) rfl 3 (by decide) w_129 rfl rfl gdX8_layOut_8 ?_
  refine g_iload_n E gdX8_layOut_11 rfl 1 rfl ?_
  refine g_bipush E gdX8_layOut_12 (by decide) ?_
  refine g_imul E gdX8_layOut_14 ?_
  refine g_iload_n E gdX8_layOut_15 rfl 1 rfl ?_
  refine g_bipush E gdX8_layOut_16 (by decide) ?_
  refine g_imul E gdX8_layOut_18 ?_
  refine g_iload_n E gdX8_layOut_19 rfl 2 rfl ?_
  refine g_iadd E gdX8_layOut_20 ?_
  refine g_aload_n E gdX8_layOut_21 rfl 0 rfl ?_
  refine g_get (T := TX8) E fw_X8 1 (wC_1 g ad o2) rfl 1 (by decide) w_127 rfl rfl gdX8_layOut_22 ?_
  obtain ⟨o5, hc4, h⟩ := qB_of h
  refine g_Sv (As := [.ref (ad 3), iv (x1 * 40), iv ((x1 * 40) + x2), iv (o2.1 1 1)]) (rest := []) (w := wC g ad o5) E (c_J7_fill_fda19 l g ad o2 (x1 * 40) ((x1 * 40) + x2) (o2.1 1 1) o5 hc4) okm_J7_fill_fda19 w_530 w_529 rfl rfl (Nat.le_of_ble_eq_true rfl) ⟨Nat.le_of_ble_eq_true rfl, Nat.le_of_ble_eq_true rfl⟩ gdX8_layOut_25 ?_
  exact g_vret E hQ (by rw [← Option.some.inj h]) gdX8_layOut_28
set_option maxHeartbeats 4000000 in
set_option maxRecDepth 100000 in
theorem c_X11_row (l : Launch) (g : GG) (ad : Nat → Nat) (o : OO) (x1 : Int) (x2 : Int) (v : Int × OO) (h : s_X11_row o x1 x2 = some v) : CI l g yX11_row cX11_row 3 (some .int) 3 68 (wC g ad o) [.ref (ad 0), iv x1, iv x2] v.1 (wC g ad v.2) := by
  refine met_I (by decide) (Nat.le_of_ble_eq_true rfl) ?_
  intro X E hQ
  show Go X 0 (wC g ad o) [(0, .ref (ad 0)), (1, iv x1), (2, iv x2)] []
  have j17 : ∀ (o : OO), b_X11_row_17 o = some v → Go X 17 (wC g ad o) [] [] := by
    intro o h
    unfold b_X11_row_17 at h
    refine g_iconst E gdX11_row_17 ?_
    exact g_iret E hQ (by rw [← Option.some.inj h]) (by rw [← Option.some.inj h]) gdX11_row_18
  unfold s_X11_row at h
  refine g_aload_n E gdX11_row_0 rfl 0 rfl ?_
  refine g_get (T := TX11) E fw_X11 0 (wC_0 g ad o) rfl 0 (by decide) w_458 rfl rfl gdX11_row_1 ?_
  refine g_iload_n E gdX11_row_4 rfl 1 rfl ?_
  obtain ⟨r1, hc2, h⟩ := qB_of h
  refine g_Vi (r := r1) (As := [iv x1]) (rest := []) (w := wC g ad o) E (c_X8_exists l g ad o x1 r1 hc2) okm_X8_exists okw_X8_exists w_517 rfl (wC_1 g ad o) rfl rfl (Nat.le_of_ble_eq_true rfl) ⟨Nat.le_of_ble_eq_true rfl, Nat.le_of_ble_eq_true rfl⟩ gdX11_row_5 ?_
  refine g_if_eq E 17 gdX11_row_8 (by decide) h (fun h => ?_) (fun h => ?_)
  ·
    refine g_sub E [] rfl ?_
    exact j17 o h
  ·
    refine g_iload_n E gdX11_row_11 rfl 2 rfl ?_
    refine g_bipush E gdX11_row_12 (by decide) ?_
    refine g_icmp_le E 19 gdX11_row_14 (by decide) h (fun h => ?_) (fun h => ?_)
    ·
      refine g_iload_n E gdX11_row_19 rfl 2 rfl ?_
      refine g_if_ge E 29 gdX11_row_20 (by decide) h (fun h => ?_) (fun h => ?_)
      ·
        refine g_aload_n E gdX11_row_29 rfl 0 rfl ?_
        refine g_get (T := TX11) E fw_X11 0 (wC_0 g ad o) rfl 0 (by decide) w_458 rfl rfl gdX11_row_30 ?_
        refine g_iload_n E gdX11_row_33 rfl 1 rfl ?_
        refine g_iload_n E gdX11_row_34 rfl 2 rfl ?_
        obtain ⟨o5, hc4, h⟩ := qB_of h
        refine g_Vv (As := [iv x1, iv x2]) (rest := []) (w := wC g ad o5) E (c_X8_layOut l g ad o x1 x2 o5 hc4) okm_X8_layOut okw_X8_layOut w_525 rfl (wC_1 g ad o) rfl rfl (Nat.le_of_ble_eq_true rfl) ⟨Nat.le_of_ble_eq_true rfl, Nat.le_of_ble_eq_true rfl⟩ gdX11_row_35 ?_
        refine g_iload_n E gdX11_row_38 rfl 2 rfl ?_
        exact g_iret E hQ (by rw [← Option.some.inj h]) (by rw [← Option.some.inj h]) gdX11_row_39
      ·
        refine g_aload_n E gdX11_row_23 rfl 0 rfl ?_
        refine g_iconst E gdX11_row_24 ?_
        obtain ⟨r6, o8, hc7, h⟩ := qB2_of h
        refine g_Vi (r := r6) (As := [iv 5]) (rest := []) (w := wC g ad o8) E (c_X11_found l g ad o 5 (r6, o8) hc7) okm_X11_found okw_X11_found w_521 rfl (wC_0 g ad o) rfl rfl (Nat.le_of_ble_eq_true rfl) ⟨Nat.le_of_ble_eq_true rfl, Nat.le_of_ble_eq_true rfl⟩ gdX11_row_25 ?_
        exact g_iret E hQ (by rw [← Option.some.inj h]) (by rw [← Option.some.inj h]) gdX11_row_28
    ·
      refine g_sub E [] rfl ?_
      exact j17 o h
set_option maxHeartbeats 4000000 in
set_option maxRecDepth 100000 in
theorem c_J7_fill_fda19__31 (l : Launch) (g : GG) (ad : Nat → Nat) (o : OO) (x1 : Int) (x2 : Int) (x3 : Int) (v : OO) (h : s_J7_fill_fda19__31 o x1 x2 x3 = some v) : CV l g yJ7_fill_fda19 cJ7_fill_fda19 5 1 22 (wC g ad o) [.ref (ad 31), iv x1, iv x2, iv x3] (wC g ad v) := by
  refine met_V (by decide) (Nat.le_of_ble_eq_true rfl) ?_
  intro X E hQ
  show Go X 0 (wC g ad o) [(0, .ref (ad 31)), (1, iv x1), (2, iv x2), (3, iv x3)] []
  have j27 : ∀ (o : OO), b_J7_fill_fda19__31_27 o = some v → Go X 27 (wC g ad o) [] [] := by
    intro o h
    unfold b_J7_fill_fda19__31_27 at h
    exact g_vret E hQ (by rw [← Option.some.inj h]) gdJ7_fill_fda19_27
  have l10 : ∀ (x2 : Int) (x3 : Int) (r : (OO)) (s0 : OO × Int), loopW (fun s => l_J7_fill_fda19__31_10 x2 x3 s.1 s.2) s0 = some r → (∀ (o : OO), r = (o) → Go X 27 (wC g ad o) [] []) → Go X 10 (wC g ad s0.1) [(0, .ref (ad 31)), (2, iv x2), (3, iv x3), (4, iv s0.2)] [] := by
    intro x2 x3 r s0 h k1
    refine loop_rule (Head := fun s0 => Go X 10 (wC g ad s0.1) [(0, .ref (ad 31)), (2, iv x2), (3, iv x3), (4, iv s0.2)] []) h ?_
    intro s v h kk kx
    obtain ⟨o, x4⟩ := s
    have h : l_J7_fill_fda19__31_10 x2 x3 o x4 = some v := h
    have k0 : ∀ (o : OO) (x4 : Int), v = .inl (o, x4) → Go X 10 (wC g ad o) [(0, .ref (ad 31)), (2, iv x2), (3, iv x3), (4, iv x4)] [] := fun o x4 e => kk (o, x4) e
    have k1 : ∀ (o : OO), v = .inr (o) → Go X 27 (wC g ad o) [] [] := fun o e => k1 o (kx _ e).symm
    unfold l_J7_fill_fda19__31_10 at h
    refine g_iload E gdJ7_fill_fda19_10 3 rfl ?_
    refine g_iload_n E gdJ7_fill_fda19_12 rfl 1 rfl ?_
    refine g_icmp_ge E 27 gdJ7_fill_fda19_13 (by decide) h (fun h => ?_) (fun h => ?_)
    ·
      refine g_sub E [] rfl ?_
      exact k1 o (Option.some.inj h).symm
    ·
      refine g_aload_n E gdJ7_fill_fda19_16 rfl 0 rfl ?_
      refine g_iload E gdJ7_fill_fda19_17 3 rfl ?_
      refine g_iload_n E gdJ7_fill_fda19_19 rfl 2 rfl ?_
      obtain ⟨hi1, h⟩ := qIn_of h
      obtain ⟨o2, e_o2, h⟩ := qNm_of h
      refine g_iast (ws' := wC g ad o2) E 31 (wC_31 g ad o) (by decide) hi1 (by rw [e_o2]; exact wC_s31 g ad o _ _) gdJ7_fill_fda19_20 ?_
      refine g_iinc E [(4, iv (x4 + 1)), (0, .ref (ad 31)), (2, iv x2), (3, iv x3)] gdJ7_fill_fda19_21 3 rfl (by decide) rfl ?_
      refine g_goto E 10 gdJ7_fill_fda19_24 (by decide) ?_
      refine g_sub E [1, 2, 3, 0] rfl ?_
      exact k0 o2 (x4 + 1) (Option.some.inj h).symm
  have j10 : ∀ (o : OO) (x2 : Int) (x3 : Int) (x4 : Int), e_J7_fill_fda19__31_10 o x2 x3 x4 = some v → Go X 10 (wC g ad o) [(0, .ref (ad 31)), (2, iv x2), (3, iv x3), (4, iv x4)] [] := by
    intro o x2 x3 x4 h
    unfold e_J7_fill_fda19__31_10 at h
    obtain ⟨r, hr, h⟩ := qB_of h
    refine l10 x2 x3 r _ hr ?_
    ·
      intro u0 e
      have e := e.symm
      subst e
      have h : b_J7_fill_fda19__31_27 u0 = some v := h
      exact j27 u0 h
  unfold s_J7_fill_fda19__31 at h
  refine g_aload_n E gdJ7_fill_fda19_0 rfl 0 rfl ?_
  refine g_alen (N := 128) E 31 (wC_31 g ad o) gdJ7_fill_fda19_1 ?_
  refine g_iload_n E gdJ7_fill_fda19_2 rfl 1 rfl ?_
  refine g_iload_n E gdJ7_fill_fda19_3 rfl 2 rfl ?_
  obtain ⟨r3, hc4, h⟩ := qB_of h
  refine g_Sv (As := [iv 128, iv x1, iv x2]) (rest := []) (w := wC g ad o) E (c_J7_rangeCheck_23922 l g (wC g ad o) 128 x1 x2 r3 hc4) okm_J7_rangeCheck_23922 w_533 w_532 rfl rfl (Nat.le_of_ble_eq_true rfl) ⟨Nat.le_of_ble_eq_true rfl, Nat.le_of_ble_eq_true rfl⟩ gdJ7_fill_fda19_4 ?_
  refine g_iload_n E gdJ7_fill_fda19_7 rfl 1 rfl ?_
  refine g_istore E [(4, iv x1), (0, .ref (ad 31)), (1, iv x1), (2, iv x2), (3, iv x3)] gdJ7_fill_fda19_8 (by decide) rfl ?_
  refine g_sub E [1, 3, 4, 0] rfl ?_
  exact j10 o x2 x3 x1 h
set_option maxHeartbeats 4000000 in
set_option maxRecDepth 100000 in
theorem c_X7_numberAt (l : Launch) (g : GG) (ad : Nat → Nat) (o : OO) (x1 : Int) (x2 : Int) (x3 : Int) (v : Int) (h : s_X7_numberAt o x1 x2 x3 = some v) : CI l g yX7_numberAt cX7_numberAt 6 (some .int) 1 22 (wC g ad o) [.ref (ad 4), iv x1, iv x2, iv x3] v (wC g ad o) := by
  refine met_I (by decide) (Nat.le_of_ble_eq_true rfl) ?_
  intro X E hQ
  show Go X 0 (wC g ad o) [(0, .ref (ad 4)), (1, iv x1), (2, iv x2), (3, iv x3)] []
  have j38 : ∀ (x4 : Int), b_X7_numberAt_38 o x4 = some v → Go X 38 (wC g ad o) [(4, iv x4)] [] := by
    intro x4 h
    unfold b_X7_numberAt_38 at h
    refine g_iload E gdX7_numberAt_38 0 rfl ?_
    exact g_iret E hQ (Option.some.inj h) rfl gdX7_numberAt_40
  have l6 : ∀ (x1 : Int) (x2 : Int) (x3 : Int) (r : (Int)) (s0 : Int × Int), loopW (fun s => l_X7_numberAt_6 o x1 x2 x3 s.1 s.2) s0 = some r → (∀ (x4 : Int), r = (x4) → Go X 38 (wC g ad o) [(4, iv x4)] []) → Go X 6 (wC g ad o) [(0, .ref (ad 4)), (1, iv x1), (2, iv x2), (3, iv x3), (4, iv s0.1), (5, iv s0.2)] [] := by
    intro x1 x2 x3 r s0 h k1
    refine loop_rule (Head := fun s0 => Go X 6 (wC g ad o) [(0, .ref (ad 4)), (1, iv x1), (2, iv x2), (3, iv x3), (4, iv s0.1), (5, iv s0.2)] []) h ?_
    intro s v h kk kx
    obtain ⟨x4, x5⟩ := s
    have h : l_X7_numberAt_6 o x1 x2 x3 x4 x5 = some v := h
    have k0 : ∀ (x4 : Int) (x5 : Int), v = .inl (x4, x5) → Go X 6 (wC g ad o) [(0, .ref (ad 4)), (1, iv x1), (2, iv x2), (3, iv x3), (4, iv x4), (5, iv x5)] [] := fun x4 x5 e => kk (x4, x5) e
    have k1 : ∀ (x4 : Int), v = .inr (x4) → Go X 38 (wC g ad o) [(4, iv x4)] [] := fun x4 e => k1 x4 (kx _ e).symm
    unfold l_X7_numberAt_6 at h
    refine g_iload E gdX7_numberAt_6 5 rfl ?_
    refine g_iload_n E gdX7_numberAt_8 rfl 2 rfl ?_
    refine g_iload_n E gdX7_numberAt_9 rfl 3 rfl ?_
    refine g_iadd E gdX7_numberAt_10 ?_
    refine g_icmp_ge E 38 gdX7_numberAt_11 (by decide) h (fun h => ?_) (fun h => ?_)
    ·
      refine g_sub E [4] rfl ?_
      exact k1 x4 (Option.some.inj h).symm
    ·
      refine g_bipush E gdX7_numberAt_14 (by decide) ?_
      refine g_iload E gdX7_numberAt_16 4 rfl ?_
      refine g_imul E gdX7_numberAt_18 ?_
      refine g_aload_n E gdX7_numberAt_19 rfl 0 rfl ?_
      refine g_iload_n E gdX7_numberAt_20 rfl 1 rfl ?_
      refine g_iload E gdX7_numberAt_21 5 rfl ?_
      obtain ⟨r1, hc2, h⟩ := qB_of h
      refine g_Vi (r := r1) (As := [iv x1, iv x5]) (rest := [iv (10 * x4)]) (w := wC g ad o) E (c_X8_at__4 l g ad o x1 x5 r1 hc2) okm_X8_at okw_X8_at w_597 rfl (wC_4 g ad o) rfl rfl (Nat.le_of_ble_eq_true rfl) ⟨Nat.le_of_ble_eq_true rfl, Nat.le_of_ble_eq_true rfl⟩ gdX7_numberAt_23 ?_
      refine g_iadd E gdX7_numberAt_26 ?_
      refine g_bipush E gdX7_numberAt_27 (by decide) ?_
      refine g_isub E gdX7_numberAt_29 ?_
      obtain ⟨n3, e_n3, h⟩ := qNm_of h
      refine g_nmi e_n3 ?_
      refine g_istore E [(4, iv n3), (0, .ref (ad 4)), (1, iv x1), (2, iv x2), (3, iv x3), (5, iv x5)] gdX7_numberAt_30 (by decide) rfl ?_
      refine g_iinc E [(5, iv (x5 + 1)), (4, iv n3), (0, .ref (ad 4)), (1, iv x1), (2, iv x2), (3, iv x3)] gdX7_numberAt_32 5 rfl (by decide) rfl ?_
      refine g_goto E 6 gdX7_numberAt_35 (by decide) ?_
      refine g_sub E [2, 3, 4, 5, 1, 0] rfl ?_
      exact k0 n3 (x5 + 1) (Option.some.inj h).symm
  have j6 : ∀ (x1 : Int) (x2 : Int) (x3 : Int) (x4 : Int) (x5 : Int), e_X7_numberAt_6 o x1 x2 x3 x4 x5 = some v → Go X 6 (wC g ad o) [(0, .ref (ad 4)), (1, iv x1), (2, iv x2), (3, iv x3), (4, iv x4), (5, iv x5)] [] := by
    intro x1 x2 x3 x4 x5 h
    unfold e_X7_numberAt_6 at h
    obtain ⟨r, hr, h⟩ := qB_of h
    refine l6 x1 x2 x3 r _ hr ?_
    ·
      intro u0 e
      have e := e.symm
      subst e
      have h : b_X7_numberAt_38 o u0 = some v := h
      exact j38 u0 h
  unfold s_X7_numberAt at h
  refine g_iconst E gdX7_numberAt_0 ?_
  refine g_istore E [(4, iv 0), (0, .ref (ad 4)), (1, iv x1), (2, iv x2), (3, iv x3)] gdX7_numberAt_1 (by decide) rfl ?_
  refine g_iload_n E gdX7_numberAt_3 rfl 3 rfl ?_
  refine g_istore E [(5, iv x2), (4, iv 0), (0, .ref (ad 4)), (1, iv x1), (2, iv x2), (3, iv x3)] gdX7_numberAt_4 (by decide) rfl ?_
  refine g_sub E [2, 3, 4, 5, 1, 0] rfl ?_
  exact j6 x1 x2 x3 0 x2 h
set_option maxHeartbeats 4000000 in
set_option maxRecDepth 100000 in
theorem c_X7_add (l : Launch) (g : GG) (ad : Nat → Nat) (o : OO) (x2 : Int) (x3 : Int) (x4 : Int) (v : Int × OO) (h : s_X7_add o x2 x3 x4 = some v) : CI l g yX7_add cX7_add 8 (some .int) 2 47 (wC g ad o) [.ref (ad 28), .ref (ad 4), iv x2, iv x3, iv x4] v.1 (wC g ad v.2) := by
  refine met_I (by decide) (Nat.le_of_ble_eq_true rfl) ?_
  intro X E hQ
  show Go X 0 (wC g ad o) [(0, .ref (ad 28)), (1, .ref (ad 4)), (2, iv x2), (3, iv x3), (4, iv x4)] []
  have j125 : ∀ (o : OO) (x5 : Int), b_X7_add_125 o x5 = some v → Go X 125 (wC g ad o) [(5, iv x5)] [] := by
    intro o x5 h
    unfold b_X7_add_125 at h
    refine g_iload E gdX7_add_125 0 rfl ?_
    exact g_iret E hQ (by rw [← Option.some.inj h]) (by rw [← Option.some.inj h]) gdX7_add_127
  have j119 : ∀ (o : OO) (x2 : Int) (x5 : Int) (x6 : Int) (v : (OO × Int) ⊕ ((OO))), b_X7_add_119 o x2 x5 x6 = some v → (∀ (o : OO) (x6 : Int), v = .inl (o, x6) → Go X 56 (wC g ad o) [(0, .ref (ad 28)), (1, .ref (ad 4)), (2, iv x2), (5, iv x5), (6, iv x6)] []) → (∀ (o : OO), v = .inr (o) → Go X 125 (wC g ad o) [(5, iv x5)] []) → Go X 119 (wC g ad o) [(0, .ref (ad 28)), (1, .ref (ad 4)), (2, iv x2), (5, iv x5), (6, iv x6)] [] := by
    intro o x2 x5 x6 v h k0 k1
    unfold b_X7_add_119 at h
    refine g_iinc E [(6, iv (x6 + 1)), (0, .ref (ad 28)), (1, .ref (ad 4)), (2, iv x2), (5, iv x5)] gdX7_add_119 4 rfl (by decide) rfl ?_
    refine g_goto E 56 gdX7_add_122 (by decide) ?_
    refine g_sub E [1, 2, 3, 4, 0] rfl ?_
    exact k0 o (x6 + 1) (Option.some.inj h).symm
  have l56 : ∀ (x2 : Int) (x5 : Int) (r : (OO)) (s0 : OO × Int), loopW (fun s => l_X7_add_56 x2 x5 s.1 s.2) s0 = some r → (∀ (o : OO), r = (o) → Go X 125 (wC g ad o) [(5, iv x5)] []) → Go X 56 (wC g ad s0.1) [(0, .ref (ad 28)), (1, .ref (ad 4)), (2, iv x2), (5, iv x5), (6, iv s0.2)] [] := by
    intro x2 x5 r s0 h k1
    refine loop_rule (Head := fun s0 => Go X 56 (wC g ad s0.1) [(0, .ref (ad 28)), (1, .ref (ad 4)), (2, iv x2), (5, iv x5), (6, iv s0.2)] []) h ?_
    intro s v h kk kx
    obtain ⟨o, x6⟩ := s
    have h : l_X7_add_56 x2 x5 o x6 = some v := h
    have k0 : ∀ (o : OO) (x6 : Int), v = .inl (o, x6) → Go X 56 (wC g ad o) [(0, .ref (ad 28)), (1, .ref (ad 4)), (2, iv x2), (5, iv x5), (6, iv x6)] [] := fun o x6 e => kk (o, x6) e
    have k1 : ∀ (o : OO), v = .inr (o) → Go X 125 (wC g ad o) [(5, iv x5)] [] := fun o e => k1 o (kx _ e).symm
    unfold l_X7_add_56 at h
    refine g_iload E gdX7_add_56 4 rfl ?_
    refine g_aload_n E gdX7_add_58 rfl 1 rfl ?_
    refine g_iload_n E gdX7_add_59 rfl 2 rfl ?_
    obtain ⟨r1, hc2, h⟩ := qB_of h
    refine g_Vi (r := r1) (As := [iv x2]) (rest := [iv x6]) (w := wC g ad o) E (c_X8_sizeOf__4 l g ad o x2 r1 hc2) okm_X8_sizeOf okw_X8_sizeOf w_593 rfl (wC_4 g ad o) rfl rfl (Nat.le_of_ble_eq_true rfl) ⟨Nat.le_of_ble_eq_true rfl, Nat.le_of_ble_eq_true rfl⟩ gdX7_add_60 ?_
    refine g_icmp_ge E 125 gdX7_add_63 (by decide) h (fun h => ?_) (fun h => ?_)
    ·
      refine g_sub E [3] rfl ?_
      exact k1 o (Option.some.inj h).symm
    ·
      refine g_aload_n E gdX7_add_66 rfl 1 rfl ?_
      refine g_iload_n E gdX7_add_67 rfl 2 rfl ?_
      refine g_iload E gdX7_add_68 4 rfl ?_
      obtain ⟨r3, hc4, h⟩ := qB_of h
      refine g_Vi (r := r3) (As := [iv x2, iv x6]) (rest := []) (w := wC g ad o) E (c_X8_at__4 l g ad o x2 x6 r3 hc4) okm_X8_at okw_X8_at w_597 rfl (wC_4 g ad o) rfl rfl (Nat.le_of_ble_eq_true rfl) ⟨Nat.le_of_ble_eq_true rfl, Nat.le_of_ble_eq_true rfl⟩ gdX7_add_70 ?_
      obtain ⟨r5, hc6, h⟩ := qB_of h
      refine g_Si (r := r5) (As := [iv r3]) (rest := []) (w := wC g ad o) E (c_X7_letterOf l g (wC g ad o) r3 r5 hc6) okm_X7_letterOf w_602 w_601 rfl rfl (Nat.le_of_ble_eq_true rfl) ⟨Nat.le_of_ble_eq_true rfl, Nat.le_of_ble_eq_true rfl⟩ gdX7_add_73 ?_
      refine g_istore E [(7, iv r5), (0, .ref (ad 28)), (1, .ref (ad 4)), (2, iv x2), (5, iv x5), (6, iv x6)] gdX7_add_76 (by decide) rfl ?_
      refine g_iload E gdX7_add_78 0 rfl ?_
      refine g_bipush E gdX7_add_80 (by decide) ?_
      refine g_icmp_ne E 88 gdX7_add_82 (by decide) h (fun h => ?_) (fun h => ?_)
      ·
        refine g_aload_n E gdX7_add_88 rfl 1 rfl ?_
        refine g_get (T := TX7) E fw_X7 28 (wC_28 g ad o) rfl 2 (by decide) w_234 rfl rfl gdX7_add_89 ?_
        refine g_iload E gdX7_add_92 4 rfl ?_
        refine g_bipush E gdX7_add_94 (by decide) ?_
        refine g_imul E gdX7_add_96 ?_
        refine g_iload E gdX7_add_97 0 rfl ?_
        refine g_iadd E gdX7_add_99 ?_
        refine g_aload_n E gdX7_add_100 rfl 2 rfl ?_
        refine g_iload_n E gdX7_add_101 rfl 3 rfl ?_
        refine g_iload E gdX7_add_102 5 rfl ?_
        refine g_iconst E gdX7_add_104 ?_
        refine g_iadd E gdX7_add_105 ?_
        refine g_aload_n E gdX7_add_106 rfl 2 rfl ?_
        refine g_iload_n E gdX7_add_107 rfl 3 rfl ?_
        refine g_iload E gdX7_add_108 5 rfl ?_
        refine g_iconst E gdX7_add_110 ?_
        refine g_iadd E gdX7_add_111 ?_
        obtain ⟨r7, hc8, h⟩ := qB_of h
        refine g_Si (r := r7) (As := [.ref (ad 4), iv x2, iv (x6 + 1)]) (rest := [iv (x6 + 1), iv x2, .ref (ad 4), iv ((x5 * 8) + r5), .ref (ad 31)]) (w := wC g ad o) E (c_X7_digitsAt l g ad o x2 (x6 + 1) r7 hc8) okm_X7_digitsAt w_607 w_606 rfl rfl (Nat.le_of_ble_eq_true rfl) ⟨Nat.le_of_ble_eq_true rfl, Nat.le_of_ble_eq_true rfl⟩ gdX7_add_112 ?_
        obtain ⟨r9, hc10, h⟩ := qB_of h
        refine g_Si (r := r9) (As := [.ref (ad 4), iv x2, iv (x6 + 1), iv r7]) (rest := [iv ((x5 * 8) + r5), .ref (ad 31)]) (w := wC g ad o) E (c_X7_numberAt l g ad o x2 (x6 + 1) r7 r9 hc10) okm_X7_numberAt w_762 w_761 rfl rfl (Nat.le_of_ble_eq_true rfl) ⟨Nat.le_of_ble_eq_true rfl, Nat.le_of_ble_eq_true rfl⟩ gdX7_add_115 ?_
        obtain ⟨hi11, h⟩ := qIn_of h
        obtain ⟨o12, e_o12, h⟩ := qNm_of h
        refine g_iast (ws' := wC g ad o12) E 31 (wC_31 g ad o) (by decide) hi11 (by rw [e_o12]; exact wC_s31 g ad o _ _) gdX7_add_118 ?_
        refine g_sub E [1, 2, 3, 4, 5] rfl ?_
        exact j119 o12 x2 x5 x6 v h k0 k1
      ·
        refine g_goto E 119 gdX7_add_85 (by decide) ?_
        refine g_sub E [1, 2, 3, 4, 5] rfl ?_
        exact j119 o x2 x5 x6 v h k0 k1
  have j56 : ∀ (o : OO) (x2 : Int) (x5 : Int) (x6 : Int), e_X7_add_56 o x2 x5 x6 = some v → Go X 56 (wC g ad o) [(0, .ref (ad 28)), (1, .ref (ad 4)), (2, iv x2), (5, iv x5), (6, iv x6)] [] := by
    intro o x2 x5 x6 h
    unfold e_X7_add_56 at h
    obtain ⟨r, hr, h⟩ := qB_of h
    refine l56 x2 x5 r _ hr ?_
    ·
      intro u0 e
      have e := e.symm
      subst e
      have h : b_X7_add_125 u0 x5 = some v := h
      exact j125 u0 x5 h
  unfold s_X7_add at h
  refine g_aload_n E gdX7_add_0 rfl 0 rfl ?_
  refine g_get (T := TX7) E fw_X7 28 (wC_28 g ad o) rfl 3 (by decide) w_235 rfl rfl gdX7_add_1 ?_
  refine g_istore E [(5, iv (o.1 28 3)), (0, .ref (ad 28)), (1, .ref (ad 4)), (2, iv x2), (3, iv x3), (4, iv x4)] gdX7_add_4 (by decide) rfl ?_
  refine g_aload_n E gdX7_add_6 rfl 1 rfl ?_
  refine g_dup E gdX7_add_7 rfl ?_
  refine g_get (T := TX7) E fw_X7 28 (wC_28 g ad o) rfl 3 (by decide) w_235 rfl rfl gdX7_add_8 ?_
  refine g_iconst E gdX7_add_11 ?_
  refine g_iadd E gdX7_add_12 ?_
  obtain ⟨o13, e_o13, h⟩ := qNm_of h
  refine g_puti (T := TX7) (ws' := wC g ad o13) E fw_X7 tyX7 tyX7_ok nmX7 28 (wC_28 g ad o) rfl 3 (by decide) w_235 rfl rfl (by decide +kernel) (Nat.le_of_ble_eq_true rfl) (by rw [e_o13]; exact wC_p28_3 g ad o _) gdX7_add_13 ?_
  refine g_aload_n E gdX7_add_16 rfl 1 rfl ?_
  refine g_get (T := TX7) E fw_X7 28 (wC_28 g ad o13) rfl 0 (by decide) w_232 rfl rfl gdX7_add_17 ?_
  refine g_iload E gdX7_add_20 0 rfl ?_
  refine g_iload_n E gdX7_add_22 rfl 4 rfl ?_
  obtain ⟨hi14, h⟩ := qIn_of h
  obtain ⟨o15, e_o15, h⟩ := qNm_of h
  refine g_iast (ws' := wC g ad o15) E 29 (wC_29 g ad o13) (by decide) hi14 (by rw [e_o15]; exact wC_s29 g ad o13 _ _) gdX7_add_23 ?_
  refine g_aload_n E gdX7_add_24 rfl 1 rfl ?_
  refine g_get (T := TX7) E fw_X7 28 (wC_28 g ad o15) rfl 1 (by decide) w_233 rfl rfl gdX7_add_25 ?_
  refine g_iload E gdX7_add_28 0 rfl ?_
  refine g_iload E gdX7_add_30 5 rfl ?_
  obtain ⟨hi16, h⟩ := qIn_of h
  obtain ⟨o17, e_o17, h⟩ := qNm_of h
  refine g_iast (ws' := wC g ad o17) E 30 (wC_30 g ad o15) (by decide) hi16 (by rw [e_o17]; exact wC_s30 g ad o15 _ _) gdX7_add_32 ?_
  refine g_aload_n E gdX7_add_33 rfl 1 rfl ?_
  refine g_get (T := TX7) E fw_X7 28 (wC_28 g ad o17) rfl 2 (by decide) w_234 rfl rfl gdX7_add_34 ?_
  refine g_iload E gdX7_add_37 0 rfl ?_
  refine g_bipush E gdX7_add_39 (by decide) ?_
  refine g_imul E gdX7_add_41 ?_
  refine g_iload E gdX7_add_42 0 rfl ?_
  refine g_iconst E gdX7_add_44 ?_
  refine g_iadd E gdX7_add_45 ?_
  refine g_bipush E gdX7_add_46 (by decide) ?_
  refine g_imul E gdX7_add_48 ?_
  refine g_iconst E gdX7_add_49 ?_
  obtain ⟨o20, hc19, h⟩ := qB_of h
  refine g_Sv (As := [.ref (ad 31), iv ((o.1 28 3) * 8), iv (((o.1 28 3) + 1) * 8), iv (-1)]) (rest := []) (w := wC g ad o20) E (c_J7_fill_fda19__31 l g ad o17 ((o.1 28 3) * 8) (((o.1 28 3) + 1) * 8) (-1) o20 hc19) okm_J7_fill_fda19 w_530 w_760 rfl rfl (Nat.le_of_ble_eq_true rfl) ⟨Nat.le_of_ble_eq_true rfl, Nat.le_of_ble_eq_true rfl⟩ gdX7_add_50 ?_
  refine g_iconst E gdX7_add_53 ?_
  refine g_istore E [(6, iv 0), (5, iv (o.1 28 3)), (0, .ref (ad 28)), (1, .ref (ad 4)), (2, iv x2), (3, iv x3), (4, iv x4)] gdX7_add_54 (by decide) rfl ?_
  refine g_sub E [2, 3, 4, 1, 0] rfl ?_
  exact j56 o20 x2 (o.1 28 3) 0 h
set_option maxHeartbeats 4000000 in
set_option maxRecDepth 100000 in
theorem c_X11_rule (l : Launch) (g : GG) (ad : Nat → Nat) (o : OO) (x1 : Int) (x2 : Int) (v : Int × OO) (h : s_X11_rule o x1 x2 = some v) : CI l g yX11_rule cX11_rule 3 (some .int) 3 74 (wC g ad o) [.ref (ad 0), iv x1, iv x2] v.1 (wC g ad v.2) := by
  refine met_I (by decide) (Nat.le_of_ble_eq_true rfl) ?_
  intro X E hQ
  show Go X 0 (wC g ad o) [(0, .ref (ad 0)), (1, iv x1), (2, iv x2)] []
  have j18 : ∀ (o : OO), b_X11_rule_18 o = some v → Go X 18 (wC g ad o) [] [] := by
    intro o h
    unfold b_X11_rule_18 at h
    refine g_iconst E gdX11_rule_18 ?_
    exact g_iret E hQ (by rw [← Option.some.inj h]) (by rw [← Option.some.inj h]) gdX11_rule_19
  unfold s_X11_rule at h
  refine g_aload_n E gdX11_rule_0 rfl 0 rfl ?_
  refine g_get (T := TX11) E fw_X11 0 (wC_0 g ad o) rfl 1 (by decide) w_459 rfl rfl gdX11_rule_1 ?_
  refine g_iload_n E gdX11_rule_4 rfl 1 rfl ?_
  obtain ⟨r1, hc2, h⟩ := qB_of h
  refine g_Vi (r := r1) (As := [iv x1]) (rest := []) (w := wC g ad o) E (c_X8_exists__4 l g ad o x1 r1 hc2) okm_X8_exists okw_X8_exists w_517 rfl (wC_4 g ad o) rfl rfl (Nat.le_of_ble_eq_true rfl) ⟨Nat.le_of_ble_eq_true rfl, Nat.le_of_ble_eq_true rfl⟩ gdX11_rule_5 ?_
  refine g_if_eq E 18 gdX11_rule_8 (by decide) h (fun h => ?_) (fun h => ?_)
  ·
    refine g_sub E [] rfl ?_
    exact j18 o h
  ·
    refine g_iload_n E gdX11_rule_11 rfl 2 rfl ?_
    obtain ⟨r3, hc4, h⟩ := qB_of h
    refine g_Si (r := r3) (As := [iv x2]) (rest := []) (w := wC g ad o) E (c_X11_isDay l g (wC g ad o) x2 r3 hc4) okm_X11_isDay w_685 w_684 rfl rfl (Nat.le_of_ble_eq_true rfl) ⟨Nat.le_of_ble_eq_true rfl, Nat.le_of_ble_eq_true rfl⟩ gdX11_rule_12 ?_
    refine g_if_ne E 20 gdX11_rule_15 (by decide) h (fun h => ?_) (fun h => ?_)
    ·
      refine g_aload_n E gdX11_rule_20 rfl 0 rfl ?_
      refine g_get (T := TX11) E fw_X11 0 (wC_0 g ad o) rfl 5 (by decide) w_463 rfl rfl gdX11_rule_21 ?_
      obtain ⟨r5, hc6, h⟩ := qB_of h
      refine g_Vi (r := r5) (As := []) (rest := []) (w := wC g ad o) E (c_X7_number l g ad o r5 hc6) okm_X7_number okw_X7_number w_752 rfl (wC_28 g ad o) rfl rfl (Nat.le_of_ble_eq_true rfl) ⟨Nat.le_of_ble_eq_true rfl, Nat.le_of_ble_eq_true rfl⟩ gdX11_rule_24 ?_
      refine g_bipush E gdX11_rule_27 (by decide) ?_
      refine g_icmp_lt E 35 gdX11_rule_29 (by decide) h (fun h => ?_) (fun h => ?_)
      ·
        refine g_aload_n E gdX11_rule_35 rfl 0 rfl ?_
        refine g_get (T := TX11) E fw_X11 0 (wC_0 g ad o) rfl 1 (by decide) w_459 rfl rfl gdX11_rule_36 ?_
        refine g_iload_n E gdX11_rule_39 rfl 1 rfl ?_
        obtain ⟨r7, hc8, h⟩ := qB_of h
        refine g_Vi (r := r7) (As := [iv x1]) (rest := []) (w := wC g ad o) E (c_X8_isThere__4 l g ad o x1 r7 hc8) okm_X8_isThere okw_X8_isThere w_539 rfl (wC_4 g ad o) rfl rfl (Nat.le_of_ble_eq_true rfl) ⟨Nat.le_of_ble_eq_true rfl, Nat.le_of_ble_eq_true rfl⟩ gdX11_rule_40 ?_
        refine g_if_ne E 52 gdX11_rule_43 (by decide) h (fun h => ?_) (fun h => ?_)
        ·
          refine g_aload_n E gdX11_rule_52 rfl 0 rfl ?_
          refine g_get (T := TX11) E fw_X11 0 (wC_0 g ad o) rfl 1 (by decide) w_459 rfl rfl gdX11_rule_53 ?_
          refine g_iload_n E gdX11_rule_56 rfl 1 rfl ?_
          obtain ⟨r9, hc10, h⟩ := qB_of h
          refine g_Si (r := r9) (As := [.ref (ad 4), iv x1]) (rest := []) (w := wC g ad o) E (c_X7_firstFault l g ad o x1 r9 hc10) okm_X7_firstFault w_591 w_590 rfl rfl (Nat.le_of_ble_eq_true rfl) ⟨Nat.le_of_ble_eq_true rfl, Nat.le_of_ble_eq_true rfl⟩ gdX11_rule_57 ?_
          refine g_bipush E gdX11_rule_60 (by decide) ?_
          refine g_icmp_eq E 68 gdX11_rule_62 (by decide) h (fun h => ?_) (fun h => ?_)
          ·
            refine g_aload_n E gdX11_rule_68 rfl 0 rfl ?_
            refine g_get (T := TX11) E fw_X11 0 (wC_0 g ad o) rfl 5 (by decide) w_463 rfl rfl gdX11_rule_69 ?_
            refine g_aload_n E gdX11_rule_72 rfl 0 rfl ?_
            refine g_get (T := TX11) E fw_X11 0 (wC_0 g ad o) rfl 1 (by decide) w_459 rfl rfl gdX11_rule_73 ?_
            refine g_iload_n E gdX11_rule_76 rfl 1 rfl ?_
            refine g_aload_n E gdX11_rule_77 rfl 0 rfl ?_
            refine g_get (T := TX11) E fw_X11 0 (wC_0 g ad o) rfl 13 (by decide) w_471 rfl rfl gdX11_rule_78 ?_
            refine g_iload_n E gdX11_rule_81 rfl 2 rfl ?_
            obtain ⟨r11, o13, hc12, h⟩ := qB2_of h
            refine g_Vi (r := r11) (As := [.ref (ad 4), iv x1, iv (o.1 0 13), iv x2]) (rest := []) (w := wC g ad o13) E (c_X7_add l g ad o x1 (o.1 0 13) x2 (r11, o13) hc12) okm_X7_add okw_X7_add w_756 rfl (wC_28 g ad o) rfl rfl (Nat.le_of_ble_eq_true rfl) ⟨Nat.le_of_ble_eq_true rfl, Nat.le_of_ble_eq_true rfl⟩ gdX11_rule_82 ?_
            exact g_iret E hQ (by rw [← Option.some.inj h]) (by rw [← Option.some.inj h]) gdX11_rule_85
          ·
            refine g_bipush E gdX11_rule_65 (by decide) ?_
            exact g_iret E hQ (by rw [← Option.some.inj h]) (by rw [← Option.some.inj h]) gdX11_rule_67
        ·
          refine g_aload_n E gdX11_rule_46 rfl 0 rfl ?_
          refine g_iconst E gdX11_rule_47 ?_
          obtain ⟨r14, o16, hc15, h⟩ := qB2_of h
          refine g_Vi (r := r14) (As := [iv 1]) (rest := []) (w := wC g ad o16) E (c_X11_found l g ad o 1 (r14, o16) hc15) okm_X11_found okw_X11_found w_521 rfl (wC_0 g ad o) rfl rfl (Nat.le_of_ble_eq_true rfl) ⟨Nat.le_of_ble_eq_true rfl, Nat.le_of_ble_eq_true rfl⟩ gdX11_rule_48 ?_
          exact g_iret E hQ (by rw [← Option.some.inj h]) (by rw [← Option.some.inj h]) gdX11_rule_51
      ·
        refine g_bipush E gdX11_rule_32 (by decide) ?_
        exact g_iret E hQ (by rw [← Option.some.inj h]) (by rw [← Option.some.inj h]) gdX11_rule_34
    ·
      refine g_sub E [] rfl ?_
      exact j18 o h
set_option maxHeartbeats 4000000 in
set_option maxRecDepth 100000 in
theorem c_X11_set (l : Launch) (g : GG) (ad : Nat → Nat) (o : OO) (v : Int64) (h : s_X11_set o = some v) : CL l g yX11_set cX11_set 1 (some .long) 0 0 (wC g ad o) [.ref (ad 0)] v (wC g ad o) := by
  refine met_L (by decide) (Nat.le_of_ble_eq_true rfl) ?_
  intro X E hQ
  show Go X 0 (wC g ad o) [(0, .ref (ad 0))] []
  unfold s_X11_set at h
  refine g_aload_n E gdX11_set_0 rfl 0 rfl ?_
  refine g_get (T := TX11) E fw_X11 0 (wC_0 g ad o) rfl 16 (by decide) w_474 rfl rfl gdX11_set_1 ?_
  exact g_lret E hQ (Option.some.inj h) rfl gdX11_set_4
set_option maxHeartbeats 4000000 in
set_option maxRecDepth 100000 in
theorem c_X3_around (l : Launch) (g : GG) (ws : va_W) (z0 : Int64) (v : Int64) (h : s_X3_around z0 = some v) : CL l g yX3_around cX3_around 4 (some .long) 1 21 ws [.long z0] v ws := by
  refine met_L (by decide) (Nat.le_of_ble_eq_true rfl) ?_
  intro X E hQ
  show Go X 0 ws [(0, .long z0)] []
  unfold s_X3_around at h
  refine g_lload_n E gdX3_around_0 rfl 0 rfl ?_
  obtain ⟨p1, hc2, h⟩ := qB_of h
  refine g_Sl (r := p1) (As := [.long z0]) (rest := []) (w := ws) E (c_X3_spreadAside l g ws z0 p1 hc2) okm_X3_spreadAside w_898 w_897 rfl rfl (Nat.le_of_ble_eq_true rfl) ⟨Nat.le_of_ble_eq_true rfl, Nat.le_of_ble_eq_true rfl⟩ gdX3_around_1 ?_
  obtain ⟨p3, hc4, h⟩ := qB_of h
  refine g_Sl (r := p3) (As := [.long p1]) (rest := []) (w := ws) E (c_X3_spreadAside l g ws p1 p3 hc4) okm_X3_spreadAside w_898 w_897 rfl rfl (Nat.le_of_ble_eq_true rfl) ⟨Nat.le_of_ble_eq_true rfl, Nat.le_of_ble_eq_true rfl⟩ gdX3_around_4 ?_
  refine g_lstore_n E [(2, .long p3), (0, .long z0)] gdX3_around_7 rfl (by decide) rfl ?_
  refine g_lload_n E gdX3_around_8 rfl 0 rfl ?_
  refine g_lload_n E gdX3_around_9 rfl 0 rfl ?_
  refine g_bipush E gdX3_around_10 (by decide) ?_
  refine g_lushr E gdX3_around_12 ?_
  refine g_lor E gdX3_around_13 ?_
  refine g_lload_n E gdX3_around_14 rfl 0 rfl ?_
  refine g_bipush E gdX3_around_15 (by decide) ?_
  refine g_lushr E gdX3_around_17 ?_
  refine g_lor E gdX3_around_18 ?_
  refine g_lload_n E gdX3_around_19 rfl 0 rfl ?_
  refine g_bipush E gdX3_around_20 (by decide) ?_
  refine g_lshl E gdX3_around_22 ?_
  refine g_lor E gdX3_around_23 ?_
  refine g_lload_n E gdX3_around_24 rfl 0 rfl ?_
  refine g_bipush E gdX3_around_25 (by decide) ?_
  refine g_lshl E gdX3_around_27 ?_
  refine g_lor E gdX3_around_28 ?_
  exact g_lret E hQ (Option.some.inj h) rfl gdX3_around_29
set_option maxHeartbeats 4000000 in
set_option maxRecDepth 100000 in
theorem c_X11_lowered (l : Launch) (g : GG) (ws : va_W) (x0 : Int) (x1 : Int) (v : Int) (h : s_X11_lowered x0 x1 = some v) : CI l g yX11_lowered cX11_lowered 2 (some .int) 1 21 ws [iv x0, iv x1] v ws := by
  refine met_I (by decide) (Nat.le_of_ble_eq_true rfl) ?_
  intro X E hQ
  show Go X 0 ws [(0, iv x0), (1, iv x1)] []
  unfold s_X11_lowered at h
  refine g_iconst E gdX11_lowered_0 ?_
  refine g_iload_n E gdX11_lowered_1 rfl 0 rfl ?_
  refine g_bipush E gdX11_lowered_2 (by decide) ?_
  refine g_iload_n E gdX11_lowered_4 rfl 1 rfl ?_
  refine g_isub E gdX11_lowered_5 ?_
  refine g_imul E gdX11_lowered_6 ?_
  refine g_bipush E gdX11_lowered_7 (by decide) ?_
  obtain ⟨hd1, h⟩ := qDv_of h
  refine g_idiv E hd1 gdX11_lowered_9 ?_
  obtain ⟨ha2, h⟩ := qR_of h
  obtain ⟨ha3, h⟩ := qR_of h
  refine g_mmax E ha2 ha3 w_948 w_949 w_91 w_950 (Nat.le_of_ble_eq_true rfl) (Nat.le_of_ble_eq_true rfl) gdX11_lowered_10 ?_
  exact g_iret E hQ (Option.some.inj h) rfl gdX11_lowered_13
set_option maxHeartbeats 4000000 in
set_option maxRecDepth 100000 in
theorem c_X4_showOn (l : Launch) (g : GG) (ad : Nat → Nat) (o : OO) (x1 : Int) (x2 : Int) (v : OO) (h : s_X4_showOn o x1 x2 = some v) : CV l g yX4_showOn cX4_showOn 3 0 0 (wC g ad o) [.ref (ad 32), iv x1, iv x2] (wC g ad v) := by
  refine met_V (by decide) (Nat.le_of_ble_eq_true rfl) ?_
  intro X E hQ
  show Go X 0 (wC g ad o) [(0, .ref (ad 32)), (1, iv x1), (2, iv x2)] []
  unfold s_X4_showOn at h
  refine g_aload_n E gdX4_showOn_0 rfl 0 rfl ?_
  refine g_get (T := TX4) E fw_X4 32 (wC_32 g ad o) rfl 7 (by decide) w_258 rfl rfl gdX4_showOn_1 ?_
  refine g_iload_n E gdX4_showOn_4 rfl 1 rfl ?_
  refine g_iload_n E gdX4_showOn_5 rfl 2 rfl ?_
  obtain ⟨hi1, h⟩ := qIn_of h
  obtain ⟨o2, e_o2, h⟩ := qNm_of h
  refine g_iast (ws' := wC g ad o2) E 40 (wC_40 g ad o) (by decide) hi1 (by rw [e_o2]; exact wC_s40 g ad o _ _) gdX4_showOn_6 ?_
  exact g_vret E hQ (by rw [← Option.some.inj h]) gdX4_showOn_7
set_option maxHeartbeats 4000000 in
set_option maxRecDepth 100000 in
theorem c_X11_show (l : Launch) (g : GG) (ad : Nat → Nat) (o : OO) (x1 : Int) (v : Int × OO) (h : s_X11_show o x1 = some v) : CI l g yX11_show cX11_show 7 (some .int) 3 70 (wC g ad o) [.ref (ad 0), iv x1] v.1 (wC g ad v.2) := by
  refine met_I (by decide) (Nat.le_of_ble_eq_true rfl) ?_
  intro X E hQ
  show Go X 0 (wC g ad o) [(0, .ref (ad 0)), (1, iv x1)] []
  have j170 : ∀ (o : OO) (x1 : Int) (x4 : Int), b_X11_show_170 o x1 x4 = some v → Go X 170 (wC g ad o) [(0, .ref (ad 0)), (1, iv x1), (4, iv x4)] [] := by
    intro o x1 x4 h
    unfold b_X11_show_170 at h
    refine g_aload_n E gdX11_show_170 rfl 0 rfl ?_
    refine g_get (T := TX11) E fw_X11 0 (wC_0 g ad o) rfl 6 (by decide) w_464 rfl rfl gdX11_show_171 ?_
    refine g_iload_n E gdX11_show_174 rfl 1 rfl ?_
    refine g_aload_n E gdX11_show_175 rfl 0 rfl ?_
    refine g_get (T := TX11) E fw_X11 0 (wC_0 g ad o) rfl 13 (by decide) w_471 rfl rfl gdX11_show_176 ?_
    obtain ⟨o3, hc2, h⟩ := qB_of h
    refine g_Vv (As := [iv x1, iv (o.1 0 13)]) (rest := []) (w := wC g ad o3) E (c_X4_showOn l g ad o x1 (o.1 0 13) o3 hc2) okm_X4_showOn okw_X4_showOn w_951 rfl (wC_32 g ad o) rfl rfl (Nat.le_of_ble_eq_true rfl) ⟨Nat.le_of_ble_eq_true rfl, Nat.le_of_ble_eq_true rfl⟩ gdX11_show_179 ?_
    refine g_iload E gdX11_show_182 2 rfl ?_
    exact g_iret E hQ (by rw [← Option.some.inj h]) (by rw [← Option.some.inj h]) gdX11_show_184
  have j164 : ∀ (o : OO) (x1 : Int) (z2 : Int64) (x4 : Int) (x5 : Int) (x6 : Int) (v : (OO × Int) ⊕ ((OO))), b_X11_show_164 o x1 z2 x4 x5 x6 = some v → (∀ (o : OO) (x6 : Int), v = .inl (o, x6) → Go X 94 (wC g ad o) [(0, .ref (ad 0)), (1, iv x1), (2, .long z2), (4, iv x4), (5, iv x5), (6, iv x6)] []) → (∀ (o : OO), v = .inr (o) → Go X 170 (wC g ad o) [(0, .ref (ad 0)), (1, iv x1), (4, iv x4)] []) → Go X 164 (wC g ad o) [(0, .ref (ad 0)), (1, iv x1), (2, .long z2), (4, iv x4), (5, iv x5), (6, iv x6)] [] := by
    intro o x1 z2 x4 x5 x6 v h k0 k1
    unfold b_X11_show_164 at h
    refine g_iinc E [(6, iv (x6 + 1)), (0, .ref (ad 0)), (1, iv x1), (2, .long z2), (4, iv x4), (5, iv x5)] gdX11_show_164 5 rfl (by decide) rfl ?_
    refine g_goto E 94 gdX11_show_167 (by decide) ?_
    refine g_sub E [1, 2, 3, 4, 5, 0] rfl ?_
    exact k0 o (x6 + 1) (Option.some.inj h).symm
  have l94 : ∀ (x1 : Int) (z2 : Int64) (x4 : Int) (x5 : Int) (r : (OO)) (s0 : OO × Int), loopW (fun s => l_X11_show_94 x1 z2 x4 x5 s.1 s.2) s0 = some r → (∀ (o : OO), r = (o) → Go X 170 (wC g ad o) [(0, .ref (ad 0)), (1, iv x1), (4, iv x4)] []) → Go X 94 (wC g ad s0.1) [(0, .ref (ad 0)), (1, iv x1), (2, .long z2), (4, iv x4), (5, iv x5), (6, iv s0.2)] [] := by
    intro x1 z2 x4 x5 r s0 h k1
    refine loop_rule (Head := fun s0 => Go X 94 (wC g ad s0.1) [(0, .ref (ad 0)), (1, iv x1), (2, .long z2), (4, iv x4), (5, iv x5), (6, iv s0.2)] []) h ?_
    intro s v h kk kx
    obtain ⟨o, x6⟩ := s
    have h : l_X11_show_94 x1 z2 x4 x5 o x6 = some v := h
    have k0 : ∀ (o : OO) (x6 : Int), v = .inl (o, x6) → Go X 94 (wC g ad o) [(0, .ref (ad 0)), (1, iv x1), (2, .long z2), (4, iv x4), (5, iv x5), (6, iv x6)] [] := fun o x6 e => kk (o, x6) e
    have k1 : ∀ (o : OO), v = .inr (o) → Go X 170 (wC g ad o) [(0, .ref (ad 0)), (1, iv x1), (4, iv x4)] [] := fun o e => k1 o (kx _ e).symm
    unfold l_X11_show_94 at h
    refine g_iload E gdX11_show_94 5 rfl ?_
    refine g_aload_n E gdX11_show_96 rfl 0 rfl ?_
    refine g_get (T := TX11) E fw_X11 0 (wC_0 g ad o) rfl 3 (by decide) w_461 rfl rfl gdX11_show_97 ?_
    obtain ⟨r4, hc5, h⟩ := qB_of h
    refine g_Vi (r := r4) (As := []) (rest := [iv x6]) (w := wC g ad o) E (c_X1_number l g ad o r4 hc5) okm_X1_number okw_X1_number w_643 rfl (wC_10 g ad o) rfl rfl (Nat.le_of_ble_eq_true rfl) ⟨Nat.le_of_ble_eq_true rfl, Nat.le_of_ble_eq_true rfl⟩ gdX11_show_100 ?_
    refine g_icmp_ge E 170 gdX11_show_103 (by decide) h (fun h => ?_) (fun h => ?_)
    ·
      refine g_sub E [0, 1, 3] rfl ?_
      exact k1 o (Option.some.inj h).symm
    ·
      refine g_aload_n E gdX11_show_106 rfl 0 rfl ?_
      refine g_get (T := TX11) E fw_X11 0 (wC_0 g ad o) rfl 3 (by decide) w_461 rfl rfl gdX11_show_107 ?_
      refine g_iload E gdX11_show_110 5 rfl ?_
      obtain ⟨r6, hc7, h⟩ := qB_of h
      refine g_Vi (r := r6) (As := [iv x6]) (rest := []) (w := wC g ad o) E (c_X1_isTaken l g ad o x6 r6 hc7) okm_X1_isTaken okw_X1_isTaken w_671 rfl (wC_10 g ad o) rfl rfl (Nat.le_of_ble_eq_true rfl) ⟨Nat.le_of_ble_eq_true rfl, Nat.le_of_ble_eq_true rfl⟩ gdX11_show_112 ?_
      refine g_if_ne E 164 gdX11_show_115 (by decide) h (fun h => ?_) (fun h => ?_)
      ·
        exact j164 o x1 z2 x4 x5 x6 v h k0 k1
      ·
        refine g_lload_n E gdX11_show_118 rfl 2 rfl ?_
        refine g_aload_n E gdX11_show_119 rfl 0 rfl ?_
        refine g_get (T := TX11) E fw_X11 0 (wC_0 g ad o) rfl 3 (by decide) w_461 rfl rfl gdX11_show_120 ?_
        refine g_iload E gdX11_show_123 5 rfl ?_
        obtain ⟨r8, hc9, h⟩ := qB_of h
        refine g_Vi (r := r8) (As := [iv x6]) (rest := [.long z2]) (w := wC g ad o) E (c_X1_cellOfOne l g ad o x6 r8 hc9) okm_X1_cellOfOne okw_X1_cellOfOne w_941 rfl (wC_10 g ad o) rfl rfl (Nat.le_of_ble_eq_true rfl) ⟨Nat.le_of_ble_eq_true rfl, Nat.le_of_ble_eq_true rfl⟩ gdX11_show_125 ?_
        obtain ⟨r10, hc11, h⟩ := qB_of h
        refine g_Si (r := r10) (As := [.long z2, iv r8]) (rest := []) (w := wC g ad o) E (c_X3_has l g (wC g ad o) z2 r8 r10 hc11) okm_X3_has w_839 w_902 rfl rfl (Nat.le_of_ble_eq_true rfl) ⟨Nat.le_of_ble_eq_true rfl, Nat.le_of_ble_eq_true rfl⟩ gdX11_show_128 ?_
        refine g_if_ne E 137 gdX11_show_131 (by decide) h (fun h => ?_) (fun h => ?_)
        ·
          refine g_aload_n E gdX11_show_137 rfl 0 rfl ?_
          refine g_get (T := TX11) E fw_X11 0 (wC_0 g ad o) rfl 3 (by decide) w_461 rfl rfl gdX11_show_138 ?_
          refine g_iload E gdX11_show_141 5 rfl ?_
          refine g_aload_n E gdX11_show_143 rfl 0 rfl ?_
          refine g_get (T := TX11) E fw_X11 0 (wC_0 g ad o) rfl 3 (by decide) w_461 rfl rfl gdX11_show_144 ?_
          refine g_iload E gdX11_show_147 5 rfl ?_
          obtain ⟨r12, hc13, h⟩ := qB_of h
          refine g_Vi (r := r12) (As := [iv x6]) (rest := [iv x6, .ref (ad 10)]) (w := wC g ad o) E (c_X1_latestWorth l g ad o x6 r12 hc13) okm_X1_latestWorth okw_X1_latestWorth w_675 rfl (wC_10 g ad o) rfl rfl (Nat.le_of_ble_eq_true rfl) ⟨Nat.le_of_ble_eq_true rfl, Nat.le_of_ble_eq_true rfl⟩ gdX11_show_149 ?_
          refine g_iload E gdX11_show_152 4 rfl ?_
          obtain ⟨r14, hc15, h⟩ := qB_of h
          refine g_Si (r := r14) (As := [iv r12, iv x5]) (rest := [iv x6, .ref (ad 10)]) (w := wC g ad o) E (c_X11_lowered l g (wC g ad o) r12 x5 r14 hc15) okm_X11_lowered w_946 w_945 rfl rfl (Nat.le_of_ble_eq_true rfl) ⟨Nat.le_of_ble_eq_true rfl, Nat.le_of_ble_eq_true rfl⟩ gdX11_show_154 ?_
          refine g_aload_n E gdX11_show_157 rfl 0 rfl ?_
          refine g_get (T := TX11) E fw_X11 0 (wC_0 g ad o) rfl 13 (by decide) w_471 rfl rfl gdX11_show_158 ?_
          obtain ⟨o18, hc17, h⟩ := qB_of h
          refine g_Vv (As := [iv x6, iv r14, iv (o.1 0 13)]) (rest := []) (w := wC g ad o18) E (c_X1_assess l g ad o x6 r14 (o.1 0 13) o18 hc17) okm_X1_assess okw_X1_assess w_679 rfl (wC_10 g ad o) rfl rfl (Nat.le_of_ble_eq_true rfl) ⟨Nat.le_of_ble_eq_true rfl, Nat.le_of_ble_eq_true rfl⟩ gdX11_show_161 ?_
          exact j164 o18 x1 z2 x4 x5 x6 v h k0 k1
        ·
          refine g_goto E 164 gdX11_show_134 (by decide) ?_
          exact j164 o x1 z2 x4 x5 x6 v h k0 k1
  have j94 : ∀ (o : OO) (x1 : Int) (z2 : Int64) (x4 : Int) (x5 : Int) (x6 : Int), e_X11_show_94 o x1 z2 x4 x5 x6 = some v → Go X 94 (wC g ad o) [(0, .ref (ad 0)), (1, iv x1), (2, .long z2), (4, iv x4), (5, iv x5), (6, iv x6)] [] := by
    intro o x1 z2 x4 x5 x6 h
    unfold e_X11_show_94 at h
    obtain ⟨r, hr, h⟩ := qB_of h
    refine l94 x1 z2 x4 x5 r _ hr ?_
    ·
      intro u0 e
      have e := e.symm
      subst e
      have h : b_X11_show_170 u0 x1 x4 = some v := h
      exact j170 u0 x1 x4 h
  unfold s_X11_show at h
  refine g_aload_n E gdX11_show_0 rfl 0 rfl ?_
  refine g_get (T := TX11) E fw_X11 0 (wC_0 g ad o) rfl 6 (by decide) w_464 rfl rfl gdX11_show_1 ?_
  refine g_iload_n E gdX11_show_4 rfl 1 rfl ?_
  obtain ⟨r19, hc20, h⟩ := qB_of h
  refine g_Vi (r := r19) (As := [iv x1]) (rest := []) (w := wC g ad o) E (c_X4_exists l g ad o x1 r19 hc20) okm_X4_exists okw_X4_exists w_882 rfl (wC_32 g ad o) rfl rfl (Nat.le_of_ble_eq_true rfl) ⟨Nat.le_of_ble_eq_true rfl, Nat.le_of_ble_eq_true rfl⟩ gdX11_show_5 ?_
  refine g_if_ne E 13 gdX11_show_8 (by decide) h (fun h => ?_) (fun h => ?_)
  ·
    refine g_aload_n E gdX11_show_13 rfl 0 rfl ?_
    refine g_get (T := TX11) E fw_X11 0 (wC_0 g ad o) rfl 6 (by decide) w_464 rfl rfl gdX11_show_14 ?_
    refine g_iload_n E gdX11_show_17 rfl 1 rfl ?_
    refine g_iconst E gdX11_show_18 ?_
    obtain ⟨r21, hc22, h⟩ := qB_of h
    refine g_Vi (r := r21) (As := [iv x1, iv 1]) (rest := []) (w := wC g ad o) E (c_X4_isOf l g ad o x1 1 r21 hc22) okm_X4_isOf okw_X4_isOf w_886 rfl (wC_32 g ad o) rfl rfl (Nat.le_of_ble_eq_true rfl) ⟨Nat.le_of_ble_eq_true rfl, Nat.le_of_ble_eq_true rfl⟩ gdX11_show_19 ?_
    refine g_if_ne E 31 gdX11_show_22 (by decide) h (fun h => ?_) (fun h => ?_)
    ·
      refine g_aload_n E gdX11_show_31 rfl 0 rfl ?_
      refine g_get (T := TX11) E fw_X11 0 (wC_0 g ad o) rfl 6 (by decide) w_464 rfl rfl gdX11_show_32 ?_
      refine g_iload_n E gdX11_show_35 rfl 1 rfl ?_
      obtain ⟨r23, hc24, h⟩ := qB_of h
      refine g_Vi (r := r23) (As := [iv x1]) (rest := []) (w := wC g ad o) E (c_X4_shownOn l g ad o x1 r23 hc24) okm_X4_shownOn okw_X4_shownOn w_919 rfl (wC_32 g ad o) rfl rfl (Nat.le_of_ble_eq_true rfl) ⟨Nat.le_of_ble_eq_true rfl, Nat.le_of_ble_eq_true rfl⟩ gdX11_show_36 ?_
      refine g_bipush E gdX11_show_39 (by decide) ?_
      refine g_icmp_eq E 47 gdX11_show_41 (by decide) h (fun h => ?_) (fun h => ?_)
      ·
        refine g_aload_n E gdX11_show_47 rfl 0 rfl ?_
        refine g_get (T := TX11) E fw_X11 0 (wC_0 g ad o) rfl 6 (by decide) w_464 rfl rfl gdX11_show_48 ?_
        refine g_iload_n E gdX11_show_51 rfl 1 rfl ?_
        obtain ⟨p25, hc26, h⟩ := qB_of h
        refine g_Vl (r := p25) (As := [iv x1]) (rest := []) (w := wC g ad o) E (c_X4_cells l g ad o x1 p25 hc26) okm_X4_cells okw_X4_cells w_890 rfl (wC_32 g ad o) rfl rfl (Nat.le_of_ble_eq_true rfl) ⟨Nat.le_of_ble_eq_true rfl, Nat.le_of_ble_eq_true rfl⟩ gdX11_show_52 ?_
        obtain ⟨p27, hc28, h⟩ := qB_of h
        refine g_Sl (r := p27) (As := [.long p25]) (rest := []) (w := wC g ad o) E (c_X3_around l g (wC g ad o) p25 p27 hc28) okm_X3_around w_924 w_923 rfl rfl (Nat.le_of_ble_eq_true rfl) ⟨Nat.le_of_ble_eq_true rfl, Nat.le_of_ble_eq_true rfl⟩ gdX11_show_55 ?_
        refine g_lstore_n E [(2, .long p27), (0, .ref (ad 0)), (1, iv x1)] gdX11_show_58 rfl (by decide) rfl ?_
        refine g_aload_n E gdX11_show_59 rfl 1 rfl ?_
        refine g_get (T := TX11) E fw_X11 0 (wC_0 g ad o) rfl 3 (by decide) w_461 rfl rfl gdX11_show_60 ?_
        refine g_lload_n E gdX11_show_63 rfl 0 rfl ?_
        obtain ⟨r29, hc30, h⟩ := qB_of h
        refine g_Vi (r := r29) (As := [.long p27]) (rest := []) (w := wC g ad o) E (c_X1_standingIn l g ad o p27 r29 hc30) okm_X1_standingIn okw_X1_standingIn w_926 rfl (wC_10 g ad o) rfl rfl (Nat.le_of_ble_eq_true rfl) ⟨Nat.le_of_ble_eq_true rfl, Nat.le_of_ble_eq_true rfl⟩ gdX11_show_64 ?_
        refine g_istore E [(4, iv r29), (2, .long p27), (0, .ref (ad 0)), (1, iv x1)] gdX11_show_67 (by decide) rfl ?_
        refine g_iload E gdX11_show_69 0 rfl ?_
        refine g_aload_n E gdX11_show_71 rfl 2 rfl ?_
        refine g_get (T := TX11) E fw_X11 0 (wC_0 g ad o) rfl 3 (by decide) w_461 rfl rfl gdX11_show_72 ?_
        obtain ⟨r31, hc32, h⟩ := qB_of h
        refine g_Vi (r := r31) (As := []) (rest := [iv r29]) (w := wC g ad o) E (c_X1_tellingsLeft l g ad o r31 hc32) okm_X1_tellingsLeft okw_X1_tellingsLeft w_647 rfl (wC_10 g ad o) rfl rfl (Nat.le_of_ble_eq_true rfl) ⟨Nat.le_of_ble_eq_true rfl, Nat.le_of_ble_eq_true rfl⟩ gdX11_show_75 ?_
        refine g_icmp_le E 84 gdX11_show_78 (by decide) h (fun h => ?_) (fun h => ?_)
        ·
          refine g_aload_n E gdX11_show_84 rfl 2 rfl ?_
          refine g_iconst E gdX11_show_85 ?_
          obtain ⟨r33, hc34, h⟩ := qB_of h
          refine g_Vi (r := r33) (As := [iv 1]) (rest := []) (w := wC g ad o) E (c_X11_inForce l g ad o 1 r33 hc34) okm_X11_inForce okw_X11_inForce w_809 rfl (wC_0 g ad o) rfl rfl (Nat.le_of_ble_eq_true rfl) ⟨Nat.le_of_ble_eq_true rfl, Nat.le_of_ble_eq_true rfl⟩ gdX11_show_86 ?_
          refine g_istore E [(5, iv r33), (4, iv r29), (2, .long p27), (0, .ref (ad 0)), (1, iv x1)] gdX11_show_89 (by decide) rfl ?_
          refine g_iconst E gdX11_show_91 ?_
          refine g_istore E [(6, iv 0), (5, iv r33), (4, iv r29), (2, .long p27), (0, .ref (ad 0)), (1, iv x1)] gdX11_show_92 (by decide) rfl ?_
          refine g_sub E [4, 5, 3, 2, 1, 0] rfl ?_
          exact j94 o x1 p27 r29 r33 0 h
        ·
          refine g_bipush E gdX11_show_81 (by decide) ?_
          exact g_iret E hQ (by rw [← Option.some.inj h]) (by rw [← Option.some.inj h]) gdX11_show_83
      ·
        refine g_bipush E gdX11_show_44 (by decide) ?_
        exact g_iret E hQ (by rw [← Option.some.inj h]) (by rw [← Option.some.inj h]) gdX11_show_46
    ·
      refine g_aload_n E gdX11_show_25 rfl 0 rfl ?_
      refine g_iconst E gdX11_show_26 ?_
      obtain ⟨r35, o37, hc36, h⟩ := qB2_of h
      refine g_Vi (r := r35) (As := [iv 3]) (rest := []) (w := wC g ad o37) E (c_X11_found l g ad o 3 (r35, o37) hc36) okm_X11_found okw_X11_found w_521 rfl (wC_0 g ad o) rfl rfl (Nat.le_of_ble_eq_true rfl) ⟨Nat.le_of_ble_eq_true rfl, Nat.le_of_ble_eq_true rfl⟩ gdX11_show_27 ?_
      exact g_iret E hQ (by rw [← Option.some.inj h]) (by rw [← Option.some.inj h]) gdX11_show_30
  ·
    refine g_iconst E gdX11_show_11 ?_
    exact g_iret E hQ (by rw [← Option.some.inj h]) (by rw [← Option.some.inj h]) gdX11_show_12
