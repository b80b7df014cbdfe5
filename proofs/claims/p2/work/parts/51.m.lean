set_option maxRecDepth 200000 in
theorem w_829 : Cond.code yX3_beside cX3_beside 2 (some .int) ∈ tb := tb_mem 829 (by rfl) rfl
set_option maxRecDepth 200000 in
theorem w_828 : Cond.static yX3_beside ∈ tb := tb_mem 828 (by decide +kernel) rfl
set_option maxRecDepth 200000 in
theorem w_827 : Cond.methodLink "CityRoad$Ground" 32 yX3_beside ∈ tb := tb_mem 827 (by decide +kernel) rfl
set_option maxRecDepth 200000 in
theorem w_834 : Cond.code yX3_slope cX3_slope 3 (some .int) ∈ tb := tb_mem 834 (by rfl) rfl
set_option maxRecDepth 200000 in
theorem w_832 : Cond.instanceMethod yX3_slope ∈ tb := tb_mem 832 (by decide +kernel) rfl
set_option maxRecDepth 200000 in
theorem w_833 : Cond.selects "CityRoad$Ground" yX3_slope yX3_slope ∈ tb := tb_mem 833 (by decide +kernel) rfl
set_option maxRecDepth 200000 in
theorem w_831 : Cond.methodLink "CityRoad$Ground" 40 yX3_slope ∈ tb := tb_mem 831 (by decide +kernel) rfl
set_option maxRecDepth 200000 in
theorem w_826 : Cond.code yX3_onward cX3_onward 5 (some .int) ∈ tb := tb_mem 826 (by rfl) rfl
set_option maxRecDepth 200000 in
theorem w_824 : Cond.instanceMethod yX3_onward ∈ tb := tb_mem 824 (by decide +kernel) rfl
set_option maxRecDepth 200000 in
theorem w_825 : Cond.selects "CityRoad$Ground" yX3_onward yX3_onward ∈ tb := tb_mem 825 (by decide +kernel) rfl
set_option maxRecDepth 200000 in
theorem w_823 : Cond.methodLink "CityRoad$WaySearch" 76 yX3_onward ∈ tb := tb_mem 823 (by decide +kernel) rfl
set_option maxRecDepth 200000 in
theorem w_346 : Cond.fieldLink "CityRoad$WaySearch" 47 "CityRoad$WaySearch" "goal" "I" ∈ tb := tb_mem 346 (by decide +kernel) rfl
set_option maxRecDepth 200000 in
theorem w_343 : Cond.fieldLink "CityRoad$WaySearch" 43 "CityRoad$WaySearch" "waits" "J" ∈ tb := tb_mem 343 (by decide +kernel) rfl
set_option maxRecDepth 200000 in
theorem w_838 : Cond.methodLink "CityRoad$WaySearch" 80 yX3_has ∈ tb := tb_mem 838 (by decide +kernel) rfl
set_option maxRecDepth 200000 in
theorem w_342 : Cond.fieldLink "CityRoad$WaySearch" 26 "CityRoad$WaySearch" "queue" "[I" ∈ tb := tb_mem 342 (by decide +kernel) rfl
set_option maxRecDepth 200000 in
theorem w_344 : Cond.fieldLink "CityRoad$WaySearch" 36 "CityRoad$WaySearch" "first" "I" ∈ tb := tb_mem 344 (by decide +kernel) rfl
set_option maxRecDepth 200000 in
theorem w_345 : Cond.fieldLink "CityRoad$WaySearch" 40 "CityRoad$WaySearch" "waiting" "I" ∈ tb := tb_mem 345 (by decide +kernel) rfl
set_option maxRecDepth 200000 in
theorem w_841 : Cond.methodLink "CityRoad$WaySearch" 70 yX3_bit ∈ tb := tb_mem 841 (by decide +kernel) rfl
set_option maxRecDepth 200000 in
theorem w_849 : Cond.constantLong "CityRoad$WaySearch" 74 (-1) ∈ tb := tb_mem 849 (by decide +kernel) rfl
set_option maxRecDepth 200000 in
theorem w_340 : Cond.fieldLink "CityRoad$WaySearch" 20 "CityRoad$WaySearch" "byWay" "[I" ∈ tb := tb_mem 340 (by decide +kernel) rfl
set_option maxRecDepth 200000 in
theorem w_341 : Cond.fieldLink "CityRoad$WaySearch" 23 "CityRoad$WaySearch" "least" "[I" ∈ tb := tb_mem 341 (by decide +kernel) rfl
set_option maxRecDepth 200000 in
theorem w_858 : Cond.methodLink "CityRoad$WaySearch" 84 Lib.Math.min.name ∈ tb := tb_mem 858 (by decide +kernel) rfl
set_option maxRecDepth 200000 in
theorem w_857 : Cond.code yX10_rest cX10_rest 3 (some .int) ∈ tb := tb_mem 857 (by rfl) rfl
set_option maxRecDepth 200000 in
theorem w_99 : Cond.initialized "CityRoad$WaySearch" ∈ tb := tb_mem 99 (by decide +kernel) rfl
set_option maxRecDepth 200000 in
theorem w_856 : Cond.instanceMethod yX10_rest ∈ tb := tb_mem 856 (by decide +kernel) rfl
set_option maxRecDepth 200000 in
theorem w_8 : Cond.selects "CityRoad$WaySearch" yX10_rest yX10_rest ∈ tb := tb_mem 8 (by decide +kernel) rfl
set_option maxRecDepth 200000 in
theorem w_854 : Cond.methodLink "CityRoad$WaySearch" 90 yX10_rest ∈ tb := tb_mem 854 (by decide +kernel) rfl
set_option maxRecDepth 200000 in
theorem w_817 : Cond.constant "CityRoad$WaySearch" 29 (1000000000) ∈ tb := tb_mem 817 (by decide +kernel) rfl
set_option maxRecDepth 200000 in
theorem w_332 : Cond.fieldLink "CityRoad$WaySearch" 11 "CityRoad$WaySearch" "prices" "[I" ∈ tb := tb_mem 332 (by decide +kernel) rfl
set_option maxRecDepth 200000 in
theorem w_859 : Cond.methodLink "CityRoad$WaySearch" 93 yX3_slope ∈ tb := tb_mem 859 (by decide +kernel) rfl
set_option maxRecDepth 200000 in
theorem w_336 : Cond.fieldLink "CityRoad$WaySearch" 96 "CityRoad$WaySearch" "length" "I" ∈ tb := tb_mem 336 (by decide +kernel) rfl
set_option maxRecDepth 200000 in
theorem w_867 : Cond.code yX10_firstOfLeast cX10_firstOfLeast 6 (some .int) ∈ tb := tb_mem 867 (by rfl) rfl
set_option maxRecDepth 200000 in
theorem w_866 : Cond.instanceMethod yX10_firstOfLeast ∈ tb := tb_mem 866 (by decide +kernel) rfl
set_option maxRecDepth 200000 in
theorem w_10 : Cond.selects "CityRoad$WaySearch" yX10_firstOfLeast yX10_firstOfLeast ∈ tb := tb_mem 10 (by decide +kernel) rfl
set_option maxRecDepth 200000 in
theorem w_864 : Cond.methodLink "CityRoad$WaySearch" 99 yX10_firstOfLeast ∈ tb := tb_mem 864 (by decide +kernel) rfl
set_option maxRecDepth 200000 in
theorem w_868 : Cond.methodLink "CityRoad$WaySearch" 102 yX3_beside ∈ tb := tb_mem 868 (by decide +kernel) rfl
set_option maxRecDepth 200000 in
theorem w_334 : Cond.fieldLink "CityRoad$WaySearch" 17 "CityRoad$WaySearch" "path" "[I" ∈ tb := tb_mem 334 (by decide +kernel) rfl
set_option maxRecDepth 200000 in
theorem w_338 : Cond.fieldLink "CityRoad$WaySearch" 63 "CityRoad$WaySearch" "total" "I" ∈ tb := tb_mem 338 (by decide +kernel) rfl
set_option maxRecDepth 200000 in
theorem w_863 : Cond.code yX10_trace cX10_trace 4 none ∈ tb := tb_mem 863 (by rfl) rfl
set_option maxRecDepth 200000 in
theorem w_862 : Cond.instanceMethod yX10_trace ∈ tb := tb_mem 862 (by decide +kernel) rfl
set_option maxRecDepth 200000 in
theorem w_9 : Cond.selects "CityRoad$WaySearch" yX10_trace yX10_trace ∈ tb := tb_mem 9 (by decide +kernel) rfl
set_option maxRecDepth 200000 in
theorem w_860 : Cond.methodLink "CityRoad$WaySearch" 66 yX10_trace ∈ tb := tb_mem 860 (by decide +kernel) rfl
set_option maxRecDepth 200000 in
theorem w_844 : Cond.constant "CityRoad$WaySearch" 54 (1000000) ∈ tb := tb_mem 844 (by decide +kernel) rfl
set_option maxRecDepth 200000 in
theorem w_848 : Cond.code yX10_next cX10_next 2 (some .int) ∈ tb := tb_mem 848 (by rfl) rfl
set_option maxRecDepth 200000 in
theorem w_847 : Cond.instanceMethod yX10_next ∈ tb := tb_mem 847 (by decide +kernel) rfl
set_option maxRecDepth 200000 in
theorem w_6 : Cond.selects "CityRoad$WaySearch" yX10_next yX10_next ∈ tb := tb_mem 6 (by decide +kernel) rfl
set_option maxRecDepth 200000 in
theorem w_845 : Cond.methodLink "CityRoad$WaySearch" 55 yX10_next ∈ tb := tb_mem 845 (by decide +kernel) rfl
set_option maxRecDepth 200000 in
theorem w_853 : Cond.code yX10_improve cX10_improve 8 (some .boolean) ∈ tb := tb_mem 853 (by rfl) rfl
set_option maxRecDepth 200000 in
theorem w_852 : Cond.instanceMethod yX10_improve ∈ tb := tb_mem 852 (by decide +kernel) rfl
set_option maxRecDepth 200000 in
theorem w_7 : Cond.selects "CityRoad$WaySearch" yX10_improve yX10_improve ∈ tb := tb_mem 7 (by decide +kernel) rfl
set_option maxRecDepth 200000 in
theorem w_850 : Cond.methodLink "CityRoad$WaySearch" 59 yX10_improve ∈ tb := tb_mem 850 (by decide +kernel) rfl
set_option maxRecDepth 200000 in
theorem w_822 : Cond.code yX10_rouseBeside cX10_rouseBeside 6 none ∈ tb := tb_mem 822 (by rfl) rfl
set_option maxRecDepth 200000 in
theorem w_821 : Cond.instanceMethod yX10_rouseBeside ∈ tb := tb_mem 821 (by decide +kernel) rfl
set_option maxRecDepth 200000 in
theorem w_5 : Cond.selects "CityRoad$WaySearch" yX10_rouseBeside yX10_rouseBeside ∈ tb := tb_mem 5 (by decide +kernel) rfl
set_option maxRecDepth 200000 in
theorem w_819 : Cond.methodLink "CityRoad$WaySearch" 50 yX10_rouseBeside ∈ tb := tb_mem 819 (by decide +kernel) rfl
set_option maxRecDepth 200000 in
theorem w_818 : Cond.methodLink "CityRoad$WaySearch" 30 yJ7_fill_53178 ∈ tb := tb_mem 818 (by decide +kernel) rfl
set_option maxRecDepth 200000 in
theorem w_877 : Cond.methodLink "CityRoad$Marks" 58 yX3_bit ∈ tb := tb_mem 877 (by decide +kernel) rfl
set_option maxRecDepth 200000 in
theorem w_803 : Cond.code yX11_setPrices cX11_setPrices 5 none ∈ tb := tb_mem 803 (by rfl) rfl
set_option maxRecDepth 200000 in
theorem w_802 : Cond.instanceMethod yX11_setPrices ∈ tb := tb_mem 802 (by decide +kernel) rfl
set_option maxRecDepth 200000 in
theorem w_3 : Cond.selects "CityRoad" yX11_setPrices yX11_setPrices ∈ tb := tb_mem 3 (by decide +kernel) rfl
set_option maxRecDepth 200000 in
theorem w_800 : Cond.methodLink "CityRoad" 225 yX11_setPrices ∈ tb := tb_mem 800 (by decide +kernel) rfl
set_option maxRecDepth 200000 in
theorem w_816 : Cond.code yX10_find cX10_find 7 (some .boolean) ∈ tb := tb_mem 816 (by rfl) rfl
set_option maxRecDepth 200000 in
theorem w_814 : Cond.instanceMethod yX10_find ∈ tb := tb_mem 814 (by decide +kernel) rfl
set_option maxRecDepth 200000 in
theorem w_815 : Cond.selects "CityRoad$WaySearch" yX10_find yX10_find ∈ tb := tb_mem 815 (by decide +kernel) rfl
set_option maxRecDepth 200000 in
theorem w_813 : Cond.methodLink "CityRoad" 231 yX10_find ∈ tb := tb_mem 813 (by decide +kernel) rfl
set_option maxRecDepth 200000 in
theorem w_335 : Cond.fieldLink "CityRoad" 237 "CityRoad$WaySearch" "path" "[I" ∈ tb := tb_mem 335 (by decide +kernel) rfl
set_option maxRecDepth 200000 in
theorem w_337 : Cond.fieldLink "CityRoad" 240 "CityRoad$WaySearch" "length" "I" ∈ tb := tb_mem 337 (by decide +kernel) rfl
set_option maxRecDepth 200000 in
theorem w_339 : Cond.fieldLink "CityRoad" 243 "CityRoad$WaySearch" "total" "I" ∈ tb := tb_mem 339 (by decide +kernel) rfl
set_option maxRecDepth 200000 in
theorem w_876 : Cond.code yX4_route cX4_route 6 none ∈ tb := tb_mem 876 (by rfl) rfl
set_option maxRecDepth 200000 in
theorem w_874 : Cond.instanceMethod yX4_route ∈ tb := tb_mem 874 (by decide +kernel) rfl
set_option maxRecDepth 200000 in
theorem w_875 : Cond.selects "CityRoad$Marks" yX4_route yX4_route ∈ tb := tb_mem 875 (by decide +kernel) rfl
set_option maxRecDepth 200000 in
theorem w_873 : Cond.methodLink "CityRoad" 246 yX4_route ∈ tb := tb_mem 873 (by decide +kernel) rfl
set_option maxRecDepth 200000 in
theorem w_1026 : Cond.code yX4_lengthOf cX4_lengthOf 2 (some .int) ∈ tb := tb_mem 1026 (by rfl) rfl
set_option maxRecDepth 200000 in
theorem w_1024 : Cond.instanceMethod yX4_lengthOf ∈ tb := tb_mem 1024 (by decide +kernel) rfl
set_option maxRecDepth 200000 in
theorem w_1025 : Cond.selects "CityRoad$Marks" yX4_lengthOf yX4_lengthOf ∈ tb := tb_mem 1025 (by decide +kernel) rfl
set_option maxRecDepth 200000 in
theorem w_1023 : Cond.methodLink "CityRoad" 322 yX4_lengthOf ∈ tb := tb_mem 1023 (by decide +kernel) rfl
set_option maxRecDepth 200000 in
theorem w_747 : Cond.methodLink "CityRoad" 202 yX1_stands ∈ tb := tb_mem 747 (by decide +kernel) rfl
set_option maxRecDepth 200000 in
theorem w_263 : Cond.fieldLink "CityRoad$Marks" 51 "CityRoad$Marks" "turnedOut" "[J" ∈ tb := tb_mem 263 (by decide +kernel) rfl
set_option maxRecDepth 200000 in
theorem w_726 : Cond.code yX5_setHome cX5_setHome 3 none ∈ tb := tb_mem 726 (by rfl) rfl
set_option maxRecDepth 200000 in
theorem w_724 : Cond.instanceMethod yX5_setHome ∈ tb := tb_mem 724 (by decide +kernel) rfl
set_option maxRecDepth 200000 in
theorem w_725 : Cond.selects "CityRoad$Persons" yX5_setHome yX5_setHome ∈ tb := tb_mem 725 (by decide +kernel) rfl
set_option maxRecDepth 200000 in
theorem w_723 : Cond.methodLink "CityRoad" 495 yX5_setHome ∈ tb := tb_mem 723 (by decide +kernel) rfl
set_option maxRecDepth 200000 in
theorem w_730 : Cond.code yX1_enter cX1_enter 2 none ∈ tb := tb_mem 730 (by rfl) rfl
set_option maxRecDepth 200000 in
theorem w_728 : Cond.instanceMethod yX1_enter ∈ tb := tb_mem 728 (by decide +kernel) rfl
set_option maxRecDepth 200000 in
theorem w_729 : Cond.selects "CityRoad$Buildings" yX1_enter yX1_enter ∈ tb := tb_mem 729 (by decide +kernel) rfl
set_option maxRecDepth 200000 in
theorem w_727 : Cond.methodLink "CityRoad" 498 yX1_enter ∈ tb := tb_mem 727 (by decide +kernel) rfl
set_option maxRecDepth 200000 in
theorem w_986 : Cond.code yX4_livedThere cX4_livedThere 3 (some .boolean) ∈ tb := tb_mem 986 (by rfl) rfl
set_option maxRecDepth 200000 in
theorem w_984 : Cond.instanceMethod yX4_livedThere ∈ tb := tb_mem 984 (by decide +kernel) rfl
set_option maxRecDepth 200000 in
theorem w_985 : Cond.selects "CityRoad$Marks" yX4_livedThere yX4_livedThere ∈ tb := tb_mem 985 (by decide +kernel) rfl
set_option maxRecDepth 200000 in
theorem w_983 : Cond.methodLink "CityRoad" 305 yX4_livedThere ∈ tb := tb_mem 983 (by decide +kernel) rfl
set_option maxRecDepth 200000 in
theorem w_710 : Cond.code yX1_roomsLeft cX1_roomsLeft 2 (some .int) ∈ tb := tb_mem 710 (by rfl) rfl
set_option maxRecDepth 200000 in
theorem w_708 : Cond.instanceMethod yX1_roomsLeft ∈ tb := tb_mem 708 (by decide +kernel) rfl
set_option maxRecDepth 200000 in
theorem w_709 : Cond.selects "CityRoad$Buildings" yX1_roomsLeft yX1_roomsLeft ∈ tb := tb_mem 709 (by decide +kernel) rfl
set_option maxRecDepth 200000 in
theorem w_707 : Cond.methodLink "CityRoad" 191 yX1_roomsLeft ∈ tb := tb_mem 707 (by decide +kernel) rfl
set_option maxRecDepth 200000 in
theorem w_994 : Cond.code yX4_setMoved cX4_setMoved 4 none ∈ tb := tb_mem 994 (by rfl) rfl
set_option maxRecDepth 200000 in
theorem w_992 : Cond.instanceMethod yX4_setMoved ∈ tb := tb_mem 992 (by decide +kernel) rfl
set_option maxRecDepth 200000 in
theorem w_993 : Cond.selects "CityRoad$Marks" yX4_setMoved yX4_setMoved ∈ tb := tb_mem 993 (by decide +kernel) rfl
set_option maxRecDepth 200000 in
theorem w_991 : Cond.methodLink "CityRoad" 311 yX4_setMoved ∈ tb := tb_mem 991 (by decide +kernel) rfl
set_option maxRecDepth 200000 in
theorem w_722 : Cond.code yX11_settle cX11_settle 3 none ∈ tb := tb_mem 722 (by rfl) rfl
set_option maxRecDepth 200000 in
theorem w_721 : Cond.instanceMethod yX11_settle ∈ tb := tb_mem 721 (by decide +kernel) rfl
set_option maxRecDepth 200000 in
theorem w_2 : Cond.selects "CityRoad" yX11_settle yX11_settle ∈ tb := tb_mem 2 (by decide +kernel) rfl
set_option maxRecDepth 200000 in
theorem w_719 : Cond.methodLink "CityRoad" 197 yX11_settle ∈ tb := tb_mem 719 (by decide +kernel) rfl
theorem gdX3_beside_43 : decode cX3_beside 43 = .ok (.ireturn, 1) := by decide +kernel
theorem gdX3_beside_59 : decode cX3_beside 59 = .ok (.ireturn, 1) := by decide +kernel
theorem gdX3_beside_77 : decode cX3_beside 77 = .ok (.ireturn, 1) := by decide +kernel
theorem gdX3_beside_93 : decode cX3_beside 93 = .ok (.ireturn, 1) := by decide +kernel
theorem gdX3_beside_0 : decode cX3_beside 0 = .ok (.iload_n 1, 1) := by decide +kernel
theorem gdX3_beside_1 : decode cX3_beside 1 = .ok (.tableswitch 77 0 2 #[27, 43, 59], 27) := by decide +kernel
theorem gdX3_beside_28 : decode cX3_beside 28 = .ok (.iload_n 0, 1) := by decide +kernel
theorem gdX3_beside_29 : decode cX3_beside 29 = .ok (.bipush 8, 2) := by decide +kernel
theorem gdX3_beside_31 : decode cX3_beside 31 = .ok (.if_icmp .lt 10, 3) := by decide +kernel
theorem gdX3_beside_41 : decode cX3_beside 41 = .ok (.bipush (-9), 2) := by decide +kernel
theorem gdX3_beside_34 : decode cX3_beside 34 = .ok (.iload_n 0, 1) := by decide +kernel
theorem gdX3_beside_35 : decode cX3_beside 35 = .ok (.bipush 8, 2) := by decide +kernel
theorem gdX3_beside_37 : decode cX3_beside 37 = .ok (.isub, 1) := by decide +kernel
theorem gdX3_beside_38 : decode cX3_beside 38 = .ok (.goto 5, 3) := by decide +kernel
theorem gdX3_beside_44 : decode cX3_beside 44 = .ok (.iload_n 0, 1) := by decide +kernel
theorem gdX3_beside_45 : decode cX3_beside 45 = .ok (.bipush 8, 2) := by decide +kernel
theorem gdX3_beside_47 : decode cX3_beside 47 = .ok (.irem, 1) := by decide +kernel
theorem gdX3_beside_48 : decode cX3_beside 48 = .ok (.ifCond .le 9, 3) := by decide +kernel
theorem gdX3_beside_57 : decode cX3_beside 57 = .ok (.bipush (-9), 2) := by decide +kernel
theorem gdX3_beside_51 : decode cX3_beside 51 = .ok (.iload_n 0, 1) := by decide +kernel
theorem gdX3_beside_52 : decode cX3_beside 52 = .ok (.iconst 1, 1) := by decide +kernel
theorem gdX3_beside_53 : decode cX3_beside 53 = .ok (.isub, 1) := by decide +kernel
theorem gdX3_beside_54 : decode cX3_beside 54 = .ok (.goto 5, 3) := by decide +kernel
theorem gdX3_beside_60 : decode cX3_beside 60 = .ok (.iload_n 0, 1) := by decide +kernel
theorem gdX3_beside_61 : decode cX3_beside 61 = .ok (.bipush 8, 2) := by decide +kernel
theorem gdX3_beside_63 : decode cX3_beside 63 = .ok (.irem, 1) := by decide +kernel
theorem gdX3_beside_64 : decode cX3_beside 64 = .ok (.bipush 7, 2) := by decide +kernel
theorem gdX3_beside_66 : decode cX3_beside 66 = .ok (.if_icmp .ge 9, 3) := by decide +kernel
theorem gdX3_beside_75 : decode cX3_beside 75 = .ok (.bipush (-9), 2) := by decide +kernel
theorem gdX3_beside_69 : decode cX3_beside 69 = .ok (.iload_n 0, 1) := by decide +kernel
theorem gdX3_beside_70 : decode cX3_beside 70 = .ok (.iconst 1, 1) := by decide +kernel
theorem gdX3_beside_71 : decode cX3_beside 71 = .ok (.iadd, 1) := by decide +kernel
theorem gdX3_beside_72 : decode cX3_beside 72 = .ok (.goto 5, 3) := by decide +kernel
theorem gdX3_beside_78 : decode cX3_beside 78 = .ok (.iload_n 0, 1) := by decide +kernel
theorem gdX3_beside_79 : decode cX3_beside 79 = .ok (.bipush 56, 2) := by decide +kernel
theorem gdX3_beside_81 : decode cX3_beside 81 = .ok (.if_icmp .ge 10, 3) := by decide +kernel
theorem gdX3_beside_91 : decode cX3_beside 91 = .ok (.bipush (-9), 2) := by decide +kernel
theorem gdX3_beside_84 : decode cX3_beside 84 = .ok (.iload_n 0, 1) := by decide +kernel
theorem gdX3_beside_85 : decode cX3_beside 85 = .ok (.bipush 8, 2) := by decide +kernel
theorem gdX3_beside_87 : decode cX3_beside 87 = .ok (.iadd, 1) := by decide +kernel
theorem gdX3_beside_88 : decode cX3_beside 88 = .ok (.goto 5, 3) := by decide +kernel
theorem gdX3_slope_0 : decode cX3_slope 0 = .ok (.aload_n 0, 1) := by decide +kernel
theorem gdX3_slope_1 : decode cX3_slope 1 = .ok (.getfield 15, 3) := by decide +kernel
theorem gdX3_slope_4 : decode cX3_slope 4 = .ok (.iload_n 1, 1) := by decide +kernel
theorem gdX3_slope_5 : decode cX3_slope 5 = .ok (.iaload, 1) := by decide +kernel
theorem gdX3_slope_6 : decode cX3_slope 6 = .ok (.aload_n 0, 1) := by decide +kernel
theorem gdX3_slope_7 : decode cX3_slope 7 = .ok (.getfield 15, 3) := by decide +kernel
theorem gdX3_slope_10 : decode cX3_slope 10 = .ok (.iload_n 2, 1) := by decide +kernel
theorem gdX3_slope_11 : decode cX3_slope 11 = .ok (.iaload, 1) := by decide +kernel
theorem gdX3_slope_12 : decode cX3_slope 12 = .ok (.isub, 1) := by decide +kernel
theorem gdX3_slope_13 : decode cX3_slope 13 = .ok (.invokestatic 18, 3) := by decide +kernel
theorem gdX3_slope_16 : decode cX3_slope 16 = .ok (.ireturn, 1) := by decide +kernel
theorem gdX3_onward_34 : decode cX3_onward 34 = .ok (.bipush (-9), 2) := by decide +kernel
theorem gdX3_onward_36 : decode cX3_onward 36 = .ok (.ireturn, 1) := by decide +kernel
theorem gdX3_onward_0 : decode cX3_onward 0 = .ok (.iload_n 1, 1) := by decide +kernel
theorem gdX3_onward_1 : decode cX3_onward 1 = .ok (.iload_n 2, 1) := by decide +kernel
theorem gdX3_onward_2 : decode cX3_onward 2 = .ok (.invokestatic 32, 3) := by decide +kernel
theorem gdX3_onward_5 : decode cX3_onward 5 = .ok (.istore 4, 2) := by decide +kernel
theorem gdX3_onward_7 : decode cX3_onward 7 = .ok (.iload 4, 2) := by decide +kernel
theorem gdX3_onward_9 : decode cX3_onward 9 = .ok (.bipush (-9), 2) := by decide +kernel
theorem gdX3_onward_11 : decode cX3_onward 11 = .ok (.if_icmp .eq 23, 3) := by decide +kernel
theorem gdX3_onward_14 : decode cX3_onward 14 = .ok (.aload_n 0, 1) := by decide +kernel
theorem gdX3_onward_15 : decode cX3_onward 15 = .ok (.iload 4, 2) := by decide +kernel
theorem gdX3_onward_17 : decode cX3_onward 17 = .ok (.invokevirtual 36, 3) := by decide +kernel
theorem gdX3_onward_20 : decode cX3_onward 20 = .ok (.ifCond .ne 14, 3) := by decide +kernel
theorem gdX3_onward_23 : decode cX3_onward 23 = .ok (.aload_n 0, 1) := by decide +kernel
theorem gdX3_onward_24 : decode cX3_onward 24 = .ok (.iload_n 1, 1) := by decide +kernel
theorem gdX3_onward_25 : decode cX3_onward 25 = .ok (.iload 4, 2) := by decide +kernel
theorem gdX3_onward_27 : decode cX3_onward 27 = .ok (.invokevirtual 40, 3) := by decide +kernel
theorem gdX3_onward_30 : decode cX3_onward 30 = .ok (.iload_n 3, 1) := by decide +kernel
theorem gdX3_onward_31 : decode cX3_onward 31 = .ok (.if_icmp .le 6, 3) := by decide +kernel
theorem gdX3_onward_37 : decode cX3_onward 37 = .ok (.iload 4, 2) := by decide +kernel
theorem gdX3_onward_39 : decode cX3_onward 39 = .ok (.ireturn, 1) := by decide +kernel
theorem gdX10_rouseBeside_99 : decode cX10_rouseBeside 99 = .ok (.return_, 1) := by decide +kernel
theorem gdX10_rouseBeside_93 : decode cX10_rouseBeside 93 = .ok (.iinc 4 1, 3) := by decide +kernel
theorem gdX10_rouseBeside_96 : decode cX10_rouseBeside 96 = .ok (.goto (-93), 3) := by decide +kernel
theorem gdX10_rouseBeside_3 : decode cX10_rouseBeside 3 = .ok (.iload 4, 2) := by decide +kernel
theorem gdX10_rouseBeside_5 : decode cX10_rouseBeside 5 = .ok (.iconst 4, 1) := by decide +kernel
theorem gdX10_rouseBeside_6 : decode cX10_rouseBeside 6 = .ok (.if_icmp .ge 93, 3) := by decide +kernel
theorem gdX10_rouseBeside_9 : decode cX10_rouseBeside 9 = .ok (.aload_n 1, 1) := by decide +kernel
theorem gdX10_rouseBeside_10 : decode cX10_rouseBeside 10 = .ok (.iload_n 3, 1) := by decide +kernel
theorem gdX10_rouseBeside_11 : decode cX10_rouseBeside 11 = .ok (.iload 4, 2) := by decide +kernel
theorem gdX10_rouseBeside_13 : decode cX10_rouseBeside 13 = .ok (.iload_n 2, 1) := by decide +kernel
theorem gdX10_rouseBeside_14 : decode cX10_rouseBeside 14 = .ok (.invokevirtual 76, 3) := by decide +kernel
theorem gdX10_rouseBeside_17 : decode cX10_rouseBeside 17 = .ok (.istore 5, 2) := by decide +kernel
theorem gdX10_rouseBeside_19 : decode cX10_rouseBeside 19 = .ok (.iload 5, 2) := by decide +kernel
theorem gdX10_rouseBeside_21 : decode cX10_rouseBeside 21 = .ok (.bipush (-9), 2) := by decide +kernel
theorem gdX10_rouseBeside_23 : decode cX10_rouseBeside 23 = .ok (.if_icmp .eq 70, 3) := by decide +kernel
theorem gdX10_rouseBeside_26 : decode cX10_rouseBeside 26 = .ok (.iload 5, 2) := by decide +kernel
theorem gdX10_rouseBeside_28 : decode cX10_rouseBeside 28 = .ok (.aload_n 0, 1) := by decide +kernel
theorem gdX10_rouseBeside_29 : decode cX10_rouseBeside 29 = .ok (.getfield 47, 3) := by decide +kernel
theorem gdX10_rouseBeside_32 : decode cX10_rouseBeside 32 = .ok (.if_icmp .eq 61, 3) := by decide +kernel
theorem gdX10_rouseBeside_35 : decode cX10_rouseBeside 35 = .ok (.aload_n 0, 1) := by decide +kernel
theorem gdX10_rouseBeside_36 : decode cX10_rouseBeside 36 = .ok (.getfield 43, 3) := by decide +kernel
theorem gdX10_rouseBeside_39 : decode cX10_rouseBeside 39 = .ok (.iload 5, 2) := by decide +kernel
theorem gdX10_rouseBeside_41 : decode cX10_rouseBeside 41 = .ok (.invokestatic 80, 3) := by decide +kernel
theorem gdX10_rouseBeside_44 : decode cX10_rouseBeside 44 = .ok (.ifCond .eq 6, 3) := by decide +kernel
theorem gdX10_rouseBeside_50 : decode cX10_rouseBeside 50 = .ok (.aload_n 0, 1) := by decide +kernel
theorem gdX10_rouseBeside_51 : decode cX10_rouseBeside 51 = .ok (.getfield 26, 3) := by decide +kernel
theorem gdX10_rouseBeside_54 : decode cX10_rouseBeside 54 = .ok (.aload_n 0, 1) := by decide +kernel
theorem gdX10_rouseBeside_55 : decode cX10_rouseBeside 55 = .ok (.getfield 36, 3) := by decide +kernel
theorem gdX10_rouseBeside_58 : decode cX10_rouseBeside 58 = .ok (.aload_n 0, 1) := by decide +kernel
theorem gdX10_rouseBeside_59 : decode cX10_rouseBeside 59 = .ok (.getfield 40, 3) := by decide +kernel
theorem gdX10_rouseBeside_62 : decode cX10_rouseBeside 62 = .ok (.iadd, 1) := by decide +kernel
theorem gdX10_rouseBeside_63 : decode cX10_rouseBeside 63 = .ok (.bipush 64, 2) := by decide +kernel
theorem gdX10_rouseBeside_65 : decode cX10_rouseBeside 65 = .ok (.irem, 1) := by decide +kernel
theorem gdX10_rouseBeside_66 : decode cX10_rouseBeside 66 = .ok (.iload 5, 2) := by decide +kernel
theorem gdX10_rouseBeside_68 : decode cX10_rouseBeside 68 = .ok (.iastore, 1) := by decide +kernel
theorem gdX10_rouseBeside_69 : decode cX10_rouseBeside 69 = .ok (.aload_n 0, 1) := by decide +kernel
theorem gdX10_rouseBeside_70 : decode cX10_rouseBeside 70 = .ok (.dup, 1) := by decide +kernel
theorem gdX10_rouseBeside_71 : decode cX10_rouseBeside 71 = .ok (.getfield 40, 3) := by decide +kernel
theorem gdX10_rouseBeside_74 : decode cX10_rouseBeside 74 = .ok (.iconst 1, 1) := by decide +kernel
theorem gdX10_rouseBeside_75 : decode cX10_rouseBeside 75 = .ok (.iadd, 1) := by decide +kernel
theorem gdX10_rouseBeside_76 : decode cX10_rouseBeside 76 = .ok (.putfield 40, 3) := by decide +kernel
theorem gdX10_rouseBeside_79 : decode cX10_rouseBeside 79 = .ok (.aload_n 0, 1) := by decide +kernel
theorem gdX10_rouseBeside_80 : decode cX10_rouseBeside 80 = .ok (.dup, 1) := by decide +kernel
theorem gdX10_rouseBeside_81 : decode cX10_rouseBeside 81 = .ok (.getfield 43, 3) := by decide +kernel
theorem gdX10_rouseBeside_84 : decode cX10_rouseBeside 84 = .ok (.iload 5, 2) := by decide +kernel
theorem gdX10_rouseBeside_86 : decode cX10_rouseBeside 86 = .ok (.invokestatic 70, 3) := by decide +kernel
theorem gdX10_rouseBeside_89 : decode cX10_rouseBeside 89 = .ok (.lor, 1) := by decide +kernel
theorem gdX10_rouseBeside_90 : decode cX10_rouseBeside 90 = .ok (.putfield 43, 3) := by decide +kernel
theorem gdX10_rouseBeside_47 : decode cX10_rouseBeside 47 = .ok (.goto 46, 3) := by decide +kernel
theorem gdX10_rouseBeside_0 : decode cX10_rouseBeside 0 = .ok (.iconst 0, 1) := by decide +kernel
theorem gdX10_rouseBeside_1 : decode cX10_rouseBeside 1 = .ok (.istore 4, 2) := by decide +kernel
theorem gdX10_next_0 : decode cX10_next 0 = .ok (.aload_n 0, 1) := by decide +kernel
theorem gdX10_next_1 : decode cX10_next 1 = .ok (.getfield 26, 3) := by decide +kernel
theorem gdX10_next_4 : decode cX10_next 4 = .ok (.aload_n 0, 1) := by decide +kernel
theorem gdX10_next_5 : decode cX10_next 5 = .ok (.getfield 36, 3) := by decide +kernel
theorem gdX10_next_8 : decode cX10_next 8 = .ok (.iaload, 1) := by decide +kernel
theorem gdX10_next_9 : decode cX10_next 9 = .ok (.istore_n 1, 1) := by decide +kernel
theorem gdX10_next_10 : decode cX10_next 10 = .ok (.aload_n 0, 1) := by decide +kernel
theorem gdX10_next_11 : decode cX10_next 11 = .ok (.aload_n 0, 1) := by decide +kernel
theorem gdX10_next_12 : decode cX10_next 12 = .ok (.getfield 36, 3) := by decide +kernel
theorem gdX10_next_15 : decode cX10_next 15 = .ok (.iconst 1, 1) := by decide +kernel
theorem gdX10_next_16 : decode cX10_next 16 = .ok (.iadd, 1) := by decide +kernel
theorem gdX10_next_17 : decode cX10_next 17 = .ok (.bipush 64, 2) := by decide +kernel
theorem gdX10_next_19 : decode cX10_next 19 = .ok (.irem, 1) := by decide +kernel
theorem gdX10_next_20 : decode cX10_next 20 = .ok (.putfield 36, 3) := by decide +kernel
theorem gdX10_next_23 : decode cX10_next 23 = .ok (.aload_n 0, 1) := by decide +kernel
theorem gdX10_next_24 : decode cX10_next 24 = .ok (.dup, 1) := by decide +kernel
theorem gdX10_next_25 : decode cX10_next 25 = .ok (.getfield 40, 3) := by decide +kernel
theorem gdX10_next_28 : decode cX10_next 28 = .ok (.iconst 1, 1) := by decide +kernel
theorem gdX10_next_29 : decode cX10_next 29 = .ok (.isub, 1) := by decide +kernel
theorem gdX10_next_30 : decode cX10_next 30 = .ok (.putfield 40, 3) := by decide +kernel
theorem gdX10_next_33 : decode cX10_next 33 = .ok (.aload_n 0, 1) := by decide +kernel
theorem gdX10_next_34 : decode cX10_next 34 = .ok (.dup, 1) := by decide +kernel
theorem gdX10_next_35 : decode cX10_next 35 = .ok (.getfield 43, 3) := by decide +kernel
theorem gdX10_next_38 : decode cX10_next 38 = .ok (.iload_n 1, 1) := by decide +kernel
theorem gdX10_next_39 : decode cX10_next 39 = .ok (.invokestatic 70, 3) := by decide +kernel
theorem gdX10_next_42 : decode cX10_next 42 = .ok (.ldc2_w 74, 3) := by decide +kernel
theorem gdX10_next_45 : decode cX10_next 45 = .ok (.lxor, 1) := by decide +kernel
theorem gdX10_next_46 : decode cX10_next 46 = .ok (.land, 1) := by decide +kernel
theorem gdX10_next_47 : decode cX10_next 47 = .ok (.putfield 43, 3) := by decide +kernel
theorem gdX10_next_50 : decode cX10_next 50 = .ok (.iload_n 1, 1) := by decide +kernel
theorem gdX10_next_51 : decode cX10_next 51 = .ok (.ireturn, 1) := by decide +kernel
theorem gdX10_rest_33 : decode cX10_rest 33 = .ok (.ireturn, 1) := by decide +kernel
theorem gdX10_rest_0 : decode cX10_rest 0 = .ok (.iload_n 1, 1) := by decide +kernel
theorem gdX10_rest_1 : decode cX10_rest 1 = .ok (.aload_n 0, 1) := by decide +kernel
theorem gdX10_rest_2 : decode cX10_rest 2 = .ok (.getfield 47, 3) := by decide +kernel
theorem gdX10_rest_5 : decode cX10_rest 5 = .ok (.if_icmp .ne 7, 3) := by decide +kernel
theorem gdX10_rest_12 : decode cX10_rest 12 = .ok (.aload_n 0, 1) := by decide +kernel
theorem gdX10_rest_13 : decode cX10_rest 13 = .ok (.getfield 20, 3) := by decide +kernel
theorem gdX10_rest_16 : decode cX10_rest 16 = .ok (.iload_n 1, 1) := by decide +kernel
theorem gdX10_rest_17 : decode cX10_rest 17 = .ok (.iconst 4, 1) := by decide +kernel
theorem gdX10_rest_18 : decode cX10_rest 18 = .ok (.imul, 1) := by decide +kernel
theorem gdX10_rest_19 : decode cX10_rest 19 = .ok (.iload_n 2, 1) := by decide +kernel
theorem gdX10_rest_20 : decode cX10_rest 20 = .ok (.iadd, 1) := by decide +kernel
theorem gdX10_rest_21 : decode cX10_rest 21 = .ok (.iaload, 1) := by decide +kernel
theorem gdX10_rest_22 : decode cX10_rest 22 = .ok (.aload_n 0, 1) := by decide +kernel
theorem gdX10_rest_23 : decode cX10_rest 23 = .ok (.getfield 23, 3) := by decide +kernel
theorem gdX10_rest_26 : decode cX10_rest 26 = .ok (.iload_n 1, 1) := by decide +kernel
theorem gdX10_rest_27 : decode cX10_rest 27 = .ok (.iaload, 1) := by decide +kernel
theorem gdX10_rest_28 : decode cX10_rest 28 = .ok (.iconst 5, 1) := by decide +kernel
theorem gdX10_rest_29 : decode cX10_rest 29 = .ok (.iadd, 1) := by decide +kernel
theorem gdX10_rest_30 : decode cX10_rest 30 = .ok (.invokestatic 84, 3) := by decide +kernel
theorem gdX10_rest_8 : decode cX10_rest 8 = .ok (.iconst 0, 1) := by decide +kernel
theorem gdX10_rest_9 : decode cX10_rest 9 = .ok (.goto 24, 3) := by decide +kernel
theorem gdX10_improve_132 : decode cX10_improve 132 = .ok (.iload 4, 2) := by decide +kernel
theorem gdX10_improve_134 : decode cX10_improve 134 = .ok (.ireturn, 1) := by decide +kernel
theorem gdX10_improve_126 : decode cX10_improve 126 = .ok (.iinc 5 1, 3) := by decide +kernel
theorem gdX10_improve_129 : decode cX10_improve 129 = .ok (.goto (-123), 3) := by decide +kernel
theorem gdX10_improve_6 : decode cX10_improve 6 = .ok (.iload 5, 2) := by decide +kernel
theorem gdX10_improve_8 : decode cX10_improve 8 = .ok (.iconst 4, 1) := by decide +kernel
theorem gdX10_improve_9 : decode cX10_improve 9 = .ok (.if_icmp .ge 123, 3) := by decide +kernel
theorem gdX10_improve_12 : decode cX10_improve 12 = .ok (.aload_n 1, 1) := by decide +kernel
theorem gdX10_improve_13 : decode cX10_improve 13 = .ok (.iload_n 3, 1) := by decide +kernel
theorem gdX10_improve_14 : decode cX10_improve 14 = .ok (.iload 5, 2) := by decide +kernel
theorem gdX10_improve_16 : decode cX10_improve 16 = .ok (.iload_n 2, 1) := by decide +kernel
theorem gdX10_improve_17 : decode cX10_improve 17 = .ok (.invokevirtual 76, 3) := by decide +kernel
theorem gdX10_improve_20 : decode cX10_improve 20 = .ok (.istore 6, 2) := by decide +kernel
theorem gdX10_improve_22 : decode cX10_improve 22 = .ok (.iload 6, 2) := by decide +kernel
theorem gdX10_improve_24 : decode cX10_improve 24 = .ok (.bipush (-9), 2) := by decide +kernel
theorem gdX10_improve_26 : decode cX10_improve 26 = .ok (.if_icmp .eq 100, 3) := by decide +kernel
theorem gdX10_improve_29 : decode cX10_improve 29 = .ok (.aload_n 0, 1) := by decide +kernel
theorem gdX10_improve_30 : decode cX10_improve 30 = .ok (.iload 6, 2) := by decide +kernel
theorem gdX10_improve_32 : decode cX10_improve 32 = .ok (.iload 5, 2) := by decide +kernel
theorem gdX10_improve_34 : decode cX10_improve 34 = .ok (.invokevirtual 90, 3) := by decide +kernel
theorem gdX10_improve_37 : decode cX10_improve 37 = .ok (.ldc 29, 2) := by decide +kernel
theorem gdX10_improve_39 : decode cX10_improve 39 = .ok (.if_icmp .lt 6, 3) := by decide +kernel
theorem gdX10_improve_45 : decode cX10_improve 45 = .ok (.aload_n 0, 1) := by decide +kernel
theorem gdX10_improve_46 : decode cX10_improve 46 = .ok (.getfield 11, 3) := by decide +kernel
theorem gdX10_improve_49 : decode cX10_improve 49 = .ok (.iload 6, 2) := by decide +kernel
theorem gdX10_improve_51 : decode cX10_improve 51 = .ok (.iaload, 1) := by decide +kernel
theorem gdX10_improve_52 : decode cX10_improve 52 = .ok (.bipush 10, 2) := by decide +kernel
theorem gdX10_improve_54 : decode cX10_improve 54 = .ok (.aload_n 1, 1) := by decide +kernel
theorem gdX10_improve_55 : decode cX10_improve 55 = .ok (.iload_n 3, 1) := by decide +kernel
theorem gdX10_improve_56 : decode cX10_improve 56 = .ok (.iload 6, 2) := by decide +kernel
theorem gdX10_improve_58 : decode cX10_improve 58 = .ok (.invokevirtual 93, 3) := by decide +kernel
theorem gdX10_improve_61 : decode cX10_improve 61 = .ok (.imul, 1) := by decide +kernel
theorem gdX10_improve_62 : decode cX10_improve 62 = .ok (.iadd, 1) := by decide +kernel
theorem gdX10_improve_63 : decode cX10_improve 63 = .ok (.aload_n 0, 1) := by decide +kernel
theorem gdX10_improve_64 : decode cX10_improve 64 = .ok (.iload 6, 2) := by decide +kernel
theorem gdX10_improve_66 : decode cX10_improve 66 = .ok (.iload 5, 2) := by decide +kernel
theorem gdX10_improve_68 : decode cX10_improve 68 = .ok (.invokevirtual 90, 3) := by decide +kernel
theorem gdX10_improve_71 : decode cX10_improve 71 = .ok (.iadd, 1) := by decide +kernel
theorem gdX10_improve_72 : decode cX10_improve 72 = .ok (.istore 7, 2) := by decide +kernel
theorem gdX10_improve_74 : decode cX10_improve 74 = .ok (.iload 7, 2) := by decide +kernel
theorem gdX10_improve_76 : decode cX10_improve 76 = .ok (.aload_n 0, 1) := by decide +kernel
theorem gdX10_improve_77 : decode cX10_improve 77 = .ok (.getfield 20, 3) := by decide +kernel
theorem gdX10_improve_80 : decode cX10_improve 80 = .ok (.iload_n 3, 1) := by decide +kernel
theorem gdX10_improve_81 : decode cX10_improve 81 = .ok (.iconst 4, 1) := by decide +kernel
theorem gdX10_improve_82 : decode cX10_improve 82 = .ok (.imul, 1) := by decide +kernel
theorem gdX10_improve_83 : decode cX10_improve 83 = .ok (.iload 5, 2) := by decide +kernel
theorem gdX10_improve_85 : decode cX10_improve 85 = .ok (.iadd, 1) := by decide +kernel
theorem gdX10_improve_86 : decode cX10_improve 86 = .ok (.iaload, 1) := by decide +kernel
theorem gdX10_improve_87 : decode cX10_improve 87 = .ok (.if_icmp .lt 6, 3) := by decide +kernel
theorem gdX10_improve_93 : decode cX10_improve 93 = .ok (.aload_n 0, 1) := by decide +kernel
theorem gdX10_improve_94 : decode cX10_improve 94 = .ok (.getfield 20, 3) := by decide +kernel
theorem gdX10_improve_97 : decode cX10_improve 97 = .ok (.iload_n 3, 1) := by decide +kernel
theorem gdX10_improve_98 : decode cX10_improve 98 = .ok (.iconst 4, 1) := by decide +kernel
theorem gdX10_improve_99 : decode cX10_improve 99 = .ok (.imul, 1) := by decide +kernel
theorem gdX10_improve_100 : decode cX10_improve 100 = .ok (.iload 5, 2) := by decide +kernel
theorem gdX10_improve_102 : decode cX10_improve 102 = .ok (.iadd, 1) := by decide +kernel
theorem gdX10_improve_103 : decode cX10_improve 103 = .ok (.iload 7, 2) := by decide +kernel
theorem gdX10_improve_105 : decode cX10_improve 105 = .ok (.iastore, 1) := by decide +kernel
theorem gdX10_improve_106 : decode cX10_improve 106 = .ok (.aload_n 0, 1) := by decide +kernel
theorem gdX10_improve_107 : decode cX10_improve 107 = .ok (.getfield 23, 3) := by decide +kernel
theorem gdX10_improve_110 : decode cX10_improve 110 = .ok (.iload_n 3, 1) := by decide +kernel
theorem gdX10_improve_111 : decode cX10_improve 111 = .ok (.aload_n 0, 1) := by decide +kernel
theorem gdX10_improve_112 : decode cX10_improve 112 = .ok (.getfield 23, 3) := by decide +kernel
theorem gdX10_improve_115 : decode cX10_improve 115 = .ok (.iload_n 3, 1) := by decide +kernel
theorem gdX10_improve_116 : decode cX10_improve 116 = .ok (.iaload, 1) := by decide +kernel
theorem gdX10_improve_117 : decode cX10_improve 117 = .ok (.iload 7, 2) := by decide +kernel
theorem gdX10_improve_119 : decode cX10_improve 119 = .ok (.invokestatic 84, 3) := by decide +kernel
theorem gdX10_improve_122 : decode cX10_improve 122 = .ok (.iastore, 1) := by decide +kernel
theorem gdX10_improve_123 : decode cX10_improve 123 = .ok (.iconst 1, 1) := by decide +kernel
theorem gdX10_improve_124 : decode cX10_improve 124 = .ok (.istore 4, 2) := by decide +kernel
theorem gdX10_improve_90 : decode cX10_improve 90 = .ok (.goto 36, 3) := by decide +kernel
theorem gdX10_improve_42 : decode cX10_improve 42 = .ok (.goto 84, 3) := by decide +kernel
theorem gdX10_improve_0 : decode cX10_improve 0 = .ok (.iconst 0, 1) := by decide +kernel
theorem gdX10_improve_1 : decode cX10_improve 1 = .ok (.istore 4, 2) := by decide +kernel
theorem gdX10_improve_3 : decode cX10_improve 3 = .ok (.iconst 0, 1) := by decide +kernel
theorem gdX10_improve_4 : decode cX10_improve 4 = .ok (.istore 5, 2) := by decide +kernel
theorem gdX10_firstOfLeast_68 : decode cX10_firstOfLeast 68 = .ok (.iload 4, 2) := by decide +kernel
theorem gdX10_firstOfLeast_70 : decode cX10_firstOfLeast 70 = .ok (.ireturn, 1) := by decide +kernel
theorem gdX10_firstOfLeast_77 : decode cX10_firstOfLeast 77 = .ok (.bipush (-9), 2) := by decide +kernel
theorem gdX10_firstOfLeast_79 : decode cX10_firstOfLeast 79 = .ok (.ireturn, 1) := by decide +kernel
theorem gdX10_firstOfLeast_48 : decode cX10_firstOfLeast 48 = .ok (.istore 5, 2) := by decide +kernel
theorem gdX10_firstOfLeast_50 : decode cX10_firstOfLeast 50 = .ok (.aload_n 0, 1) := by decide +kernel
theorem gdX10_firstOfLeast_51 : decode cX10_firstOfLeast 51 = .ok (.getfield 20, 3) := by decide +kernel
theorem gdX10_firstOfLeast_54 : decode cX10_firstOfLeast 54 = .ok (.iload_n 1, 1) := by decide +kernel
theorem gdX10_firstOfLeast_55 : decode cX10_firstOfLeast 55 = .ok (.iconst 4, 1) := by decide +kernel
theorem gdX10_firstOfLeast_56 : decode cX10_firstOfLeast 56 = .ok (.imul, 1) := by decide +kernel
theorem gdX10_firstOfLeast_57 : decode cX10_firstOfLeast 57 = .ok (.iload 4, 2) := by decide +kernel
theorem gdX10_firstOfLeast_59 : decode cX10_firstOfLeast 59 = .ok (.iadd, 1) := by decide +kernel
theorem gdX10_firstOfLeast_60 : decode cX10_firstOfLeast 60 = .ok (.iaload, 1) := by decide +kernel
theorem gdX10_firstOfLeast_61 : decode cX10_firstOfLeast 61 = .ok (.iload 5, 2) := by decide +kernel
theorem gdX10_firstOfLeast_63 : decode cX10_firstOfLeast 63 = .ok (.iadd, 1) := by decide +kernel
theorem gdX10_firstOfLeast_64 : decode cX10_firstOfLeast 64 = .ok (.iload_n 3, 1) := by decide +kernel
theorem gdX10_firstOfLeast_65 : decode cX10_firstOfLeast 65 = .ok (.if_icmp .ne 6, 3) := by decide +kernel
theorem gdX10_firstOfLeast_71 : decode cX10_firstOfLeast 71 = .ok (.iinc 4 1, 3) := by decide +kernel
theorem gdX10_firstOfLeast_74 : decode cX10_firstOfLeast 74 = .ok (.goto (-49), 3) := by decide +kernel
theorem gdX10_firstOfLeast_43 : decode cX10_firstOfLeast 43 = .ok (.iconst 0, 1) := by decide +kernel
theorem gdX10_firstOfLeast_44 : decode cX10_firstOfLeast 44 = .ok (.goto 4, 3) := by decide +kernel
theorem gdX10_firstOfLeast_25 : decode cX10_firstOfLeast 25 = .ok (.iload 4, 2) := by decide +kernel
theorem gdX10_firstOfLeast_27 : decode cX10_firstOfLeast 27 = .ok (.iconst 4, 1) := by decide +kernel
theorem gdX10_firstOfLeast_28 : decode cX10_firstOfLeast 28 = .ok (.if_icmp .ge 49, 3) := by decide +kernel
theorem gdX10_firstOfLeast_31 : decode cX10_firstOfLeast 31 = .ok (.iload_n 2, 1) := by decide +kernel
theorem gdX10_firstOfLeast_32 : decode cX10_firstOfLeast 32 = .ok (.bipush (-9), 2) := by decide +kernel
theorem gdX10_firstOfLeast_34 : decode cX10_firstOfLeast 34 = .ok (.if_icmp .eq 9, 3) := by decide +kernel
theorem gdX10_firstOfLeast_37 : decode cX10_firstOfLeast 37 = .ok (.iload_n 2, 1) := by decide +kernel
theorem gdX10_firstOfLeast_38 : decode cX10_firstOfLeast 38 = .ok (.iload 4, 2) := by decide +kernel
theorem gdX10_firstOfLeast_40 : decode cX10_firstOfLeast 40 = .ok (.if_icmp .ne 7, 3) := by decide +kernel
theorem gdX10_firstOfLeast_47 : decode cX10_firstOfLeast 47 = .ok (.iconst 5, 1) := by decide +kernel
theorem gdX10_firstOfLeast_21 : decode cX10_firstOfLeast 21 = .ok (.istore_n 3, 1) := by decide +kernel
theorem gdX10_firstOfLeast_22 : decode cX10_firstOfLeast 22 = .ok (.iconst 0, 1) := by decide +kernel
theorem gdX10_firstOfLeast_23 : decode cX10_firstOfLeast 23 = .ok (.istore 4, 2) := by decide +kernel
theorem gdX10_firstOfLeast_0 : decode cX10_firstOfLeast 0 = .ok (.iload_n 2, 1) := by decide +kernel
theorem gdX10_firstOfLeast_1 : decode cX10_firstOfLeast 1 = .ok (.bipush (-9), 2) := by decide +kernel
theorem gdX10_firstOfLeast_3 : decode cX10_firstOfLeast 3 = .ok (.if_icmp .ne 12, 3) := by decide +kernel
theorem gdX10_firstOfLeast_15 : decode cX10_firstOfLeast 15 = .ok (.aload_n 0, 1) := by decide +kernel
theorem gdX10_firstOfLeast_16 : decode cX10_firstOfLeast 16 = .ok (.iload_n 1, 1) := by decide +kernel
theorem gdX10_firstOfLeast_17 : decode cX10_firstOfLeast 17 = .ok (.iload_n 2, 1) := by decide +kernel
theorem gdX10_firstOfLeast_18 : decode cX10_firstOfLeast 18 = .ok (.invokevirtual 90, 3) := by decide +kernel
theorem gdX10_firstOfLeast_6 : decode cX10_firstOfLeast 6 = .ok (.aload_n 0, 1) := by decide +kernel
theorem gdX10_firstOfLeast_7 : decode cX10_firstOfLeast 7 = .ok (.getfield 23, 3) := by decide +kernel
theorem gdX10_firstOfLeast_10 : decode cX10_firstOfLeast 10 = .ok (.iload_n 1, 1) := by decide +kernel
theorem gdX10_firstOfLeast_11 : decode cX10_firstOfLeast 11 = .ok (.iaload, 1) := by decide +kernel
theorem gdX10_firstOfLeast_12 : decode cX10_firstOfLeast 12 = .ok (.goto 9, 3) := by decide +kernel
theorem gdX10_trace_57 : decode cX10_trace 57 = .ok (.return_, 1) := by decide +kernel
theorem gdX10_trace_87 : decode cX10_trace 87 = .ok (.return_, 1) := by decide +kernel
theorem gdX10_trace_17 : decode cX10_trace 17 = .ok (.iload_n 2, 1) := by decide +kernel
theorem gdX10_trace_18 : decode cX10_trace 18 = .ok (.aload_n 0, 1) := by decide +kernel
theorem gdX10_trace_19 : decode cX10_trace 19 = .ok (.getfield 47, 3) := by decide +kernel
theorem gdX10_trace_22 : decode cX10_trace 22 = .ok (.if_icmp .eq 65, 3) := by decide +kernel
theorem gdX10_trace_25 : decode cX10_trace 25 = .ok (.aload_n 0, 1) := by decide +kernel
theorem gdX10_trace_26 : decode cX10_trace 26 = .ok (.getfield 96, 3) := by decide +kernel
theorem gdX10_trace_29 : decode cX10_trace 29 = .ok (.bipush 64, 2) := by decide +kernel
theorem gdX10_trace_31 : decode cX10_trace 31 = .ok (.if_icmp .ge 56, 3) := by decide +kernel
theorem gdX10_trace_34 : decode cX10_trace 34 = .ok (.aload_n 0, 1) := by decide +kernel
theorem gdX10_trace_35 : decode cX10_trace 35 = .ok (.iload_n 2, 1) := by decide +kernel
theorem gdX10_trace_36 : decode cX10_trace 36 = .ok (.iload_n 3, 1) := by decide +kernel
theorem gdX10_trace_37 : decode cX10_trace 37 = .ok (.invokevirtual 99, 3) := by decide +kernel
theorem gdX10_trace_40 : decode cX10_trace 40 = .ok (.istore_n 3, 1) := by decide +kernel
theorem gdX10_trace_41 : decode cX10_trace 41 = .ok (.iload_n 3, 1) := by decide +kernel
theorem gdX10_trace_42 : decode cX10_trace 42 = .ok (.bipush (-9), 2) := by decide +kernel
theorem gdX10_trace_44 : decode cX10_trace 44 = .ok (.if_icmp .eq 13, 3) := by decide +kernel
theorem gdX10_trace_47 : decode cX10_trace 47 = .ok (.iload_n 2, 1) := by decide +kernel
theorem gdX10_trace_48 : decode cX10_trace 48 = .ok (.iload_n 3, 1) := by decide +kernel
theorem gdX10_trace_49 : decode cX10_trace 49 = .ok (.invokestatic 102, 3) := by decide +kernel
theorem gdX10_trace_52 : decode cX10_trace 52 = .ok (.bipush (-9), 2) := by decide +kernel
theorem gdX10_trace_54 : decode cX10_trace 54 = .ok (.if_icmp .ne 4, 3) := by decide +kernel
theorem gdX10_trace_58 : decode cX10_trace 58 = .ok (.iload_n 2, 1) := by decide +kernel
theorem gdX10_trace_59 : decode cX10_trace 59 = .ok (.iload_n 3, 1) := by decide +kernel
theorem gdX10_trace_60 : decode cX10_trace 60 = .ok (.invokestatic 102, 3) := by decide +kernel
theorem gdX10_trace_63 : decode cX10_trace 63 = .ok (.istore_n 2, 1) := by decide +kernel
theorem gdX10_trace_64 : decode cX10_trace 64 = .ok (.aload_n 0, 1) := by decide +kernel
theorem gdX10_trace_65 : decode cX10_trace 65 = .ok (.getfield 17, 3) := by decide +kernel
theorem gdX10_trace_68 : decode cX10_trace 68 = .ok (.aload_n 0, 1) := by decide +kernel
theorem gdX10_trace_69 : decode cX10_trace 69 = .ok (.getfield 96, 3) := by decide +kernel
theorem gdX10_trace_72 : decode cX10_trace 72 = .ok (.iload_n 2, 1) := by decide +kernel
theorem gdX10_trace_73 : decode cX10_trace 73 = .ok (.iastore, 1) := by decide +kernel
theorem gdX10_trace_74 : decode cX10_trace 74 = .ok (.aload_n 0, 1) := by decide +kernel
theorem gdX10_trace_75 : decode cX10_trace 75 = .ok (.dup, 1) := by decide +kernel
theorem gdX10_trace_76 : decode cX10_trace 76 = .ok (.getfield 96, 3) := by decide +kernel
theorem gdX10_trace_79 : decode cX10_trace 79 = .ok (.iconst 1, 1) := by decide +kernel
theorem gdX10_trace_80 : decode cX10_trace 80 = .ok (.iadd, 1) := by decide +kernel
theorem gdX10_trace_81 : decode cX10_trace 81 = .ok (.putfield 96, 3) := by decide +kernel
theorem gdX10_trace_84 : decode cX10_trace 84 = .ok (.goto (-67), 3) := by decide +kernel
theorem gdX10_trace_0 : decode cX10_trace 0 = .ok (.iload_n 1, 1) := by decide +kernel
theorem gdX10_trace_1 : decode cX10_trace 1 = .ok (.istore_n 2, 1) := by decide +kernel
theorem gdX10_trace_2 : decode cX10_trace 2 = .ok (.bipush (-9), 2) := by decide +kernel
theorem gdX10_trace_4 : decode cX10_trace 4 = .ok (.istore_n 3, 1) := by decide +kernel
theorem gdX10_trace_5 : decode cX10_trace 5 = .ok (.aload_n 0, 1) := by decide +kernel
theorem gdX10_trace_6 : decode cX10_trace 6 = .ok (.getfield 17, 3) := by decide +kernel
theorem gdX10_trace_9 : decode cX10_trace 9 = .ok (.iconst 0, 1) := by decide +kernel
theorem gdX10_trace_10 : decode cX10_trace 10 = .ok (.iload_n 1, 1) := by decide +kernel
theorem gdX10_trace_11 : decode cX10_trace 11 = .ok (.iastore, 1) := by decide +kernel
theorem gdX10_trace_12 : decode cX10_trace 12 = .ok (.aload_n 0, 1) := by decide +kernel
theorem gdX10_trace_13 : decode cX10_trace 13 = .ok (.iconst 1, 1) := by decide +kernel
theorem gdX10_trace_14 : decode cX10_trace 14 = .ok (.putfield 96, 3) := by decide +kernel
theorem gdX10_find_95 : decode cX10_find 95 = .ok (.aload_n 0, 1) := by decide +kernel
theorem gdX10_find_96 : decode cX10_find 96 = .ok (.getfield 23, 3) := by decide +kernel
theorem gdX10_find_99 : decode cX10_find 99 = .ok (.iload_n 3, 1) := by decide +kernel
theorem gdX10_find_100 : decode cX10_find 100 = .ok (.iaload, 1) := by decide +kernel
theorem gdX10_find_101 : decode cX10_find 101 = .ok (.ldc 29, 2) := by decide +kernel
theorem gdX10_find_103 : decode cX10_find 103 = .ok (.if_icmp .lt 5, 3) := by decide +kernel
theorem gdX10_find_108 : decode cX10_find 108 = .ok (.aload_n 0, 1) := by decide +kernel
theorem gdX10_find_109 : decode cX10_find 109 = .ok (.aload_n 0, 1) := by decide +kernel
theorem gdX10_find_110 : decode cX10_find 110 = .ok (.getfield 11, 3) := by decide +kernel
theorem gdX10_find_113 : decode cX10_find 113 = .ok (.iload_n 3, 1) := by decide +kernel
theorem gdX10_find_114 : decode cX10_find 114 = .ok (.iaload, 1) := by decide +kernel
theorem gdX10_find_115 : decode cX10_find 115 = .ok (.aload_n 0, 1) := by decide +kernel
theorem gdX10_find_116 : decode cX10_find 116 = .ok (.getfield 23, 3) := by decide +kernel
theorem gdX10_find_119 : decode cX10_find 119 = .ok (.iload_n 3, 1) := by decide +kernel
theorem gdX10_find_120 : decode cX10_find 120 = .ok (.iaload, 1) := by decide +kernel
theorem gdX10_find_121 : decode cX10_find 121 = .ok (.iadd, 1) := by decide +kernel
theorem gdX10_find_122 : decode cX10_find 122 = .ok (.putfield 63, 3) := by decide +kernel
theorem gdX10_find_125 : decode cX10_find 125 = .ok (.aload_n 0, 1) := by decide +kernel
theorem gdX10_find_126 : decode cX10_find 126 = .ok (.iload_n 3, 1) := by decide +kernel
theorem gdX10_find_127 : decode cX10_find 127 = .ok (.invokevirtual 66, 3) := by decide +kernel
theorem gdX10_find_130 : decode cX10_find 130 = .ok (.iconst 1, 1) := by decide +kernel
theorem gdX10_find_131 : decode cX10_find 131 = .ok (.ireturn, 1) := by decide +kernel
theorem gdX10_find_106 : decode cX10_find 106 = .ok (.iconst 0, 1) := by decide +kernel
theorem gdX10_find_107 : decode cX10_find 107 = .ok (.ireturn, 1) := by decide +kernel
theorem gdX10_find_89 : decode cX10_find 89 = .ok (.iinc 5 1, 3) := by decide +kernel
theorem gdX10_find_92 : decode cX10_find 92 = .ok (.goto (-42), 3) := by decide +kernel
theorem gdX10_find_50 : decode cX10_find 50 = .ok (.iload 5, 2) := by decide +kernel
theorem gdX10_find_52 : decode cX10_find 52 = .ok (.ldc 54, 2) := by decide +kernel
theorem gdX10_find_54 : decode cX10_find 54 = .ok (.if_icmp .ge 41, 3) := by decide +kernel
theorem gdX10_find_57 : decode cX10_find 57 = .ok (.aload_n 0, 1) := by decide +kernel
theorem gdX10_find_58 : decode cX10_find 58 = .ok (.getfield 40, 3) := by decide +kernel
theorem gdX10_find_61 : decode cX10_find 61 = .ok (.ifCond .le 34, 3) := by decide +kernel
theorem gdX10_find_64 : decode cX10_find 64 = .ok (.aload_n 0, 1) := by decide +kernel
theorem gdX10_find_65 : decode cX10_find 65 = .ok (.invokevirtual 55, 3) := by decide +kernel
theorem gdX10_find_68 : decode cX10_find 68 = .ok (.istore 6, 2) := by decide +kernel
theorem gdX10_find_70 : decode cX10_find 70 = .ok (.aload_n 0, 1) := by decide +kernel
theorem gdX10_find_71 : decode cX10_find 71 = .ok (.aload_n 1, 1) := by decide +kernel
theorem gdX10_find_72 : decode cX10_find 72 = .ok (.iload_n 2, 1) := by decide +kernel
theorem gdX10_find_73 : decode cX10_find 73 = .ok (.iload 6, 2) := by decide +kernel
theorem gdX10_find_75 : decode cX10_find 75 = .ok (.invokevirtual 59, 3) := by decide +kernel
theorem gdX10_find_78 : decode cX10_find 78 = .ok (.ifCond .eq 11, 3) := by decide +kernel
theorem gdX10_find_81 : decode cX10_find 81 = .ok (.aload_n 0, 1) := by decide +kernel
theorem gdX10_find_82 : decode cX10_find 82 = .ok (.aload_n 1, 1) := by decide +kernel
theorem gdX10_find_83 : decode cX10_find 83 = .ok (.iload_n 2, 1) := by decide +kernel
theorem gdX10_find_84 : decode cX10_find 84 = .ok (.iload 6, 2) := by decide +kernel
theorem gdX10_find_86 : decode cX10_find 86 = .ok (.invokevirtual 50, 3) := by decide +kernel
theorem gdX10_find_0 : decode cX10_find 0 = .ok (.aload_n 0, 1) := by decide +kernel
theorem gdX10_find_1 : decode cX10_find 1 = .ok (.getfield 20, 3) := by decide +kernel
theorem gdX10_find_4 : decode cX10_find 4 = .ok (.ldc 29, 2) := by decide +kernel
theorem gdX10_find_6 : decode cX10_find 6 = .ok (.invokestatic 30, 3) := by decide +kernel
theorem gdX10_find_9 : decode cX10_find 9 = .ok (.aload_n 0, 1) := by decide +kernel
theorem gdX10_find_10 : decode cX10_find 10 = .ok (.getfield 23, 3) := by decide +kernel
theorem gdX10_find_13 : decode cX10_find 13 = .ok (.ldc 29, 2) := by decide +kernel
theorem gdX10_find_15 : decode cX10_find 15 = .ok (.invokestatic 30, 3) := by decide +kernel
theorem gdX10_find_18 : decode cX10_find 18 = .ok (.aload_n 0, 1) := by decide +kernel
theorem gdX10_find_19 : decode cX10_find 19 = .ok (.iconst 0, 1) := by decide +kernel
theorem gdX10_find_20 : decode cX10_find 20 = .ok (.putfield 36, 3) := by decide +kernel
theorem gdX10_find_23 : decode cX10_find 23 = .ok (.aload_n 0, 1) := by decide +kernel
theorem gdX10_find_24 : decode cX10_find 24 = .ok (.iconst 0, 1) := by decide +kernel
theorem gdX10_find_25 : decode cX10_find 25 = .ok (.putfield 40, 3) := by decide +kernel
theorem gdX10_find_28 : decode cX10_find 28 = .ok (.aload_n 0, 1) := by decide +kernel
theorem gdX10_find_29 : decode cX10_find 29 = .ok (.lconst 0, 1) := by decide +kernel
theorem gdX10_find_30 : decode cX10_find 30 = .ok (.putfield 43, 3) := by decide +kernel
theorem gdX10_find_33 : decode cX10_find 33 = .ok (.aload_n 0, 1) := by decide +kernel
theorem gdX10_find_34 : decode cX10_find 34 = .ok (.iload 4, 2) := by decide +kernel
theorem gdX10_find_36 : decode cX10_find 36 = .ok (.putfield 47, 3) := by decide +kernel
theorem gdX10_find_39 : decode cX10_find 39 = .ok (.aload_n 0, 1) := by decide +kernel
theorem gdX10_find_40 : decode cX10_find 40 = .ok (.aload_n 1, 1) := by decide +kernel
theorem gdX10_find_41 : decode cX10_find 41 = .ok (.iload_n 2, 1) := by decide +kernel
theorem gdX10_find_42 : decode cX10_find 42 = .ok (.iload 4, 2) := by decide +kernel
theorem gdX10_find_44 : decode cX10_find 44 = .ok (.invokevirtual 50, 3) := by decide +kernel
theorem gdX10_find_47 : decode cX10_find 47 = .ok (.iconst 0, 1) := by decide +kernel
theorem gdX10_find_48 : decode cX10_find 48 = .ok (.istore 5, 2) := by decide +kernel
theorem gdX4_route_62 : decode cX4_route 62 = .ok (.return_, 1) := by decide +kernel
theorem gdX4_route_18 : decode cX4_route 18 = .ok (.iload 5, 2) := by decide +kernel
theorem gdX4_route_20 : decode cX4_route 20 = .ok (.iload_n 3, 1) := by decide +kernel
theorem gdX4_route_21 : decode cX4_route 21 = .ok (.if_icmp .ge 41, 3) := by decide +kernel
theorem gdX4_route_24 : decode cX4_route 24 = .ok (.aload_n 0, 1) := by decide +kernel
theorem gdX4_route_25 : decode cX4_route 25 = .ok (.getfield 26, 3) := by decide +kernel
theorem gdX4_route_28 : decode cX4_route 28 = .ok (.iload_n 1, 1) := by decide +kernel
theorem gdX4_route_29 : decode cX4_route 29 = .ok (.bipush 64, 2) := by decide +kernel
theorem gdX4_route_31 : decode cX4_route 31 = .ok (.imul, 1) := by decide +kernel
theorem gdX4_route_32 : decode cX4_route 32 = .ok (.iload 5, 2) := by decide +kernel
theorem gdX4_route_34 : decode cX4_route 34 = .ok (.iadd, 1) := by decide +kernel
theorem gdX4_route_35 : decode cX4_route 35 = .ok (.aload_n 2, 1) := by decide +kernel
theorem gdX4_route_36 : decode cX4_route 36 = .ok (.iload 5, 2) := by decide +kernel
theorem gdX4_route_38 : decode cX4_route 38 = .ok (.iaload, 1) := by decide +kernel
theorem gdX4_route_39 : decode cX4_route 39 = .ok (.iastore, 1) := by decide +kernel
theorem gdX4_route_40 : decode cX4_route 40 = .ok (.aload_n 0, 1) := by decide +kernel
theorem gdX4_route_41 : decode cX4_route 41 = .ok (.getfield 29, 3) := by decide +kernel
theorem gdX4_route_44 : decode cX4_route 44 = .ok (.iload_n 1, 1) := by decide +kernel
theorem gdX4_route_45 : decode cX4_route 45 = .ok (.dup2, 1) := by decide +kernel
theorem gdX4_route_46 : decode cX4_route 46 = .ok (.laload, 1) := by decide +kernel
theorem gdX4_route_47 : decode cX4_route 47 = .ok (.aload_n 2, 1) := by decide +kernel
theorem gdX4_route_48 : decode cX4_route 48 = .ok (.iload 5, 2) := by decide +kernel
theorem gdX4_route_50 : decode cX4_route 50 = .ok (.iaload, 1) := by decide +kernel
theorem gdX4_route_51 : decode cX4_route 51 = .ok (.invokestatic 58, 3) := by decide +kernel
theorem gdX4_route_54 : decode cX4_route 54 = .ok (.lor, 1) := by decide +kernel
theorem gdX4_route_55 : decode cX4_route 55 = .ok (.lastore, 1) := by decide +kernel
theorem gdX4_route_56 : decode cX4_route 56 = .ok (.iinc 5 1, 3) := by decide +kernel
theorem gdX4_route_59 : decode cX4_route 59 = .ok (.goto (-41), 3) := by decide +kernel
theorem gdX4_route_0 : decode cX4_route 0 = .ok (.aload_n 0, 1) := by decide +kernel
theorem gdX4_route_1 : decode cX4_route 1 = .ok (.getfield 21, 3) := by decide +kernel
theorem gdX4_route_4 : decode cX4_route 4 = .ok (.iload_n 1, 1) := by decide +kernel
theorem gdX4_route_5 : decode cX4_route 5 = .ok (.iload_n 3, 1) := by decide +kernel
theorem gdX4_route_6 : decode cX4_route 6 = .ok (.iastore, 1) := by decide +kernel
theorem gdX4_route_7 : decode cX4_route 7 = .ok (.aload_n 0, 1) := by decide +kernel
theorem gdX4_route_8 : decode cX4_route 8 = .ok (.getfield 33, 3) := by decide +kernel
theorem gdX4_route_11 : decode cX4_route 11 = .ok (.iload_n 1, 1) := by decide +kernel
theorem gdX4_route_12 : decode cX4_route 12 = .ok (.iload 4, 2) := by decide +kernel
theorem gdX4_route_14 : decode cX4_route 14 = .ok (.iastore, 1) := by decide +kernel
theorem gdX4_route_15 : decode cX4_route 15 = .ok (.iconst 0, 1) := by decide +kernel
theorem gdX4_route_16 : decode cX4_route 16 = .ok (.istore 5, 2) := by decide +kernel
theorem gdX11_line_30 : decode cX11_line 30 = .ok (.iconst (-1), 1) := by decide +kernel
theorem gdX11_line_31 : decode cX11_line 31 = .ok (.ireturn, 1) := by decide +kernel
theorem gdX11_line_125 : decode cX11_line 125 = .ok (.bipush (-4), 2) := by decide +kernel
theorem gdX11_line_127 : decode cX11_line 127 = .ok (.ireturn, 1) := by decide +kernel
theorem gdX11_line_0 : decode cX11_line 0 = .ok (.iload_n 1, 1) := by decide +kernel
theorem gdX11_line_1 : decode cX11_line 1 = .ok (.invokestatic 140, 3) := by decide +kernel
theorem gdX11_line_4 : decode cX11_line 4 = .ok (.ifCond .eq 26, 3) := by decide +kernel
theorem gdX11_line_7 : decode cX11_line 7 = .ok (.iload_n 2, 1) := by decide +kernel
theorem gdX11_line_8 : decode cX11_line 8 = .ok (.invokestatic 140, 3) := by decide +kernel
theorem gdX11_line_11 : decode cX11_line 11 = .ok (.ifCond .eq 19, 3) := by decide +kernel
theorem gdX11_line_14 : decode cX11_line 14 = .ok (.iload_n 1, 1) := by decide +kernel
theorem gdX11_line_15 : decode cX11_line 15 = .ok (.iload_n 2, 1) := by decide +kernel
theorem gdX11_line_16 : decode cX11_line 16 = .ok (.if_icmp .eq 14, 3) := by decide +kernel
theorem gdX11_line_19 : decode cX11_line 19 = .ok (.aload_n 0, 1) := by decide +kernel
theorem gdX11_line_20 : decode cX11_line 20 = .ok (.getfield 12, 3) := by decide +kernel
theorem gdX11_line_23 : decode cX11_line 23 = .ok (.iload_n 3, 1) := by decide +kernel
theorem gdX11_line_24 : decode cX11_line 24 = .ok (.invokevirtual 95, 3) := by decide +kernel
theorem gdX11_line_27 : decode cX11_line 27 = .ok (.ifCond .ne 5, 3) := by decide +kernel
theorem gdX11_line_32 : decode cX11_line 32 = .ok (.aload_n 0, 1) := by decide +kernel
theorem gdX11_line_33 : decode cX11_line 33 = .ok (.getfield 52, 3) := by decide +kernel
theorem gdX11_line_36 : decode cX11_line 36 = .ok (.invokevirtual 218, 3) := by decide +kernel
theorem gdX11_line_39 : decode cX11_line 39 = .ok (.bipush 24, 2) := by decide +kernel
theorem gdX11_line_41 : decode cX11_line 41 = .ok (.if_icmp .lt 6, 3) := by decide +kernel
theorem gdX11_line_47 : decode cX11_line 47 = .ok (.aload_n 0, 1) := by decide +kernel
theorem gdX11_line_48 : decode cX11_line 48 = .ok (.getfield 12, 3) := by decide +kernel
theorem gdX11_line_51 : decode cX11_line 51 = .ok (.iload_n 3, 1) := by decide +kernel
theorem gdX11_line_52 : decode cX11_line 52 = .ok (.invokevirtual 106, 3) := by decide +kernel
theorem gdX11_line_55 : decode cX11_line 55 = .ok (.ifCond .ne 9, 3) := by decide +kernel
theorem gdX11_line_64 : decode cX11_line 64 = .ok (.aload_n 0, 1) := by decide +kernel
theorem gdX11_line_65 : decode cX11_line 65 = .ok (.getfield 12, 3) := by decide +kernel
theorem gdX11_line_68 : decode cX11_line 68 = .ok (.iload_n 3, 1) := by decide +kernel
theorem gdX11_line_69 : decode cX11_line 69 = .ok (.invokevirtual 219, 3) := by decide +kernel
theorem gdX11_line_72 : decode cX11_line 72 = .ok (.iconst 4, 1) := by decide +kernel
theorem gdX11_line_73 : decode cX11_line 73 = .ok (.if_icmp .eq 9, 3) := by decide +kernel
theorem gdX11_line_82 : decode cX11_line 82 = .ok (.aload_n 0, 1) := by decide +kernel
theorem gdX11_line_83 : decode cX11_line 83 = .ok (.getfield 12, 3) := by decide +kernel
theorem gdX11_line_86 : decode cX11_line 86 = .ok (.iload_n 3, 1) := by decide +kernel
theorem gdX11_line_87 : decode cX11_line 87 = .ok (.iconst 0, 1) := by decide +kernel
theorem gdX11_line_88 : decode cX11_line 88 = .ok (.sipush 1000, 3) := by decide +kernel
theorem gdX11_line_91 : decode cX11_line 91 = .ok (.invokevirtual 222, 3) := by decide +kernel
theorem gdX11_line_94 : decode cX11_line 94 = .ok (.ifCond .ne 9, 3) := by decide +kernel
theorem gdX11_line_103 : decode cX11_line 103 = .ok (.aload_n 0, 1) := by decide +kernel
theorem gdX11_line_104 : decode cX11_line 104 = .ok (.getfield 26, 3) := by decide +kernel
theorem gdX11_line_107 : decode cX11_line 107 = .ok (.iload_n 1, 1) := by decide +kernel
theorem gdX11_line_108 : decode cX11_line 108 = .ok (.invokevirtual 163, 3) := by decide +kernel
theorem gdX11_line_111 : decode cX11_line 111 = .ok (.ifCond .ne 14, 3) := by decide +kernel
theorem gdX11_line_114 : decode cX11_line 114 = .ok (.aload_n 0, 1) := by decide +kernel
theorem gdX11_line_115 : decode cX11_line 115 = .ok (.getfield 26, 3) := by decide +kernel
theorem gdX11_line_118 : decode cX11_line 118 = .ok (.iload_n 2, 1) := by decide +kernel
theorem gdX11_line_119 : decode cX11_line 119 = .ok (.invokevirtual 163, 3) := by decide +kernel
theorem gdX11_line_122 : decode cX11_line 122 = .ok (.ifCond .eq 6, 3) := by decide +kernel
theorem gdX11_line_128 : decode cX11_line 128 = .ok (.aload_n 0, 1) := by decide +kernel
theorem gdX11_line_129 : decode cX11_line 129 = .ok (.iload_n 3, 1) := by decide +kernel
theorem gdX11_line_130 : decode cX11_line 130 = .ok (.invokevirtual 225, 3) := by decide +kernel
theorem gdX11_line_133 : decode cX11_line 133 = .ok (.aload_n 0, 1) := by decide +kernel
theorem gdX11_line_134 : decode cX11_line 134 = .ok (.getfield 66, 3) := by decide +kernel
theorem gdX11_line_137 : decode cX11_line 137 = .ok (.aload_n 0, 1) := by decide +kernel
theorem gdX11_line_138 : decode cX11_line 138 = .ok (.getfield 26, 3) := by decide +kernel
theorem gdX11_line_141 : decode cX11_line 141 = .ok (.aload_n 0, 1) := by decide +kernel
theorem gdX11_line_142 : decode cX11_line 142 = .ok (.iconst 0, 1) := by decide +kernel
theorem gdX11_line_143 : decode cX11_line 143 = .ok (.invokevirtual 228, 3) := by decide +kernel
theorem gdX11_line_146 : decode cX11_line 146 = .ok (.iload_n 1, 1) := by decide +kernel
theorem gdX11_line_147 : decode cX11_line 147 = .ok (.iload_n 2, 1) := by decide +kernel
theorem gdX11_line_148 : decode cX11_line 148 = .ok (.invokevirtual 231, 3) := by decide +kernel
theorem gdX11_line_151 : decode cX11_line 151 = .ok (.ifCond .ne 9, 3) := by decide +kernel
theorem gdX11_line_160 : decode cX11_line 160 = .ok (.aload_n 0, 1) := by decide +kernel
theorem gdX11_line_161 : decode cX11_line 161 = .ok (.getfield 52, 3) := by decide +kernel
theorem gdX11_line_164 : decode cX11_line 164 = .ok (.iconst 1, 1) := by decide +kernel
theorem gdX11_line_165 : decode cX11_line 165 = .ok (.aload_n 0, 1) := by decide +kernel
theorem gdX11_line_166 : decode cX11_line 166 = .ok (.getfield 136, 3) := by decide +kernel
theorem gdX11_line_169 : decode cX11_line 169 = .ok (.bipush (-9), 2) := by decide +kernel
theorem gdX11_line_171 : decode cX11_line 171 = .ok (.invokevirtual 235, 3) := by decide +kernel
theorem gdX11_line_174 : decode cX11_line 174 = .ok (.istore 4, 2) := by decide +kernel
theorem gdX11_line_176 : decode cX11_line 176 = .ok (.aload_n 0, 1) := by decide +kernel
theorem gdX11_line_177 : decode cX11_line 177 = .ok (.getfield 52, 3) := by decide +kernel
theorem gdX11_line_180 : decode cX11_line 180 = .ok (.iload 4, 2) := by decide +kernel
theorem gdX11_line_182 : decode cX11_line 182 = .ok (.aload_n 0, 1) := by decide +kernel
theorem gdX11_line_183 : decode cX11_line 183 = .ok (.getfield 66, 3) := by decide +kernel
theorem gdX11_line_186 : decode cX11_line 186 = .ok (.getfield 237, 3) := by decide +kernel
theorem gdX11_line_189 : decode cX11_line 189 = .ok (.aload_n 0, 1) := by decide +kernel
theorem gdX11_line_190 : decode cX11_line 190 = .ok (.getfield 66, 3) := by decide +kernel
theorem gdX11_line_193 : decode cX11_line 193 = .ok (.getfield 240, 3) := by decide +kernel
theorem gdX11_line_196 : decode cX11_line 196 = .ok (.aload_n 0, 1) := by decide +kernel
theorem gdX11_line_197 : decode cX11_line 197 = .ok (.getfield 66, 3) := by decide +kernel
theorem gdX11_line_200 : decode cX11_line 200 = .ok (.getfield 243, 3) := by decide +kernel
theorem gdX11_line_203 : decode cX11_line 203 = .ok (.invokevirtual 246, 3) := by decide +kernel
theorem gdX11_line_206 : decode cX11_line 206 = .ok (.iload 4, 2) := by decide +kernel
theorem gdX11_line_208 : decode cX11_line 208 = .ok (.ireturn, 1) := by decide +kernel
theorem gdX11_line_154 : decode cX11_line 154 = .ok (.aload_n 0, 1) := by decide +kernel
theorem gdX11_line_155 : decode cX11_line 155 = .ok (.iconst 1, 1) := by decide +kernel
theorem gdX11_line_156 : decode cX11_line 156 = .ok (.invokevirtual 99, 3) := by decide +kernel
theorem gdX11_line_159 : decode cX11_line 159 = .ok (.ireturn, 1) := by decide +kernel
theorem gdX11_line_97 : decode cX11_line 97 = .ok (.aload_n 0, 1) := by decide +kernel
theorem gdX11_line_98 : decode cX11_line 98 = .ok (.iconst 3, 1) := by decide +kernel
theorem gdX11_line_99 : decode cX11_line 99 = .ok (.invokevirtual 99, 3) := by decide +kernel
theorem gdX11_line_102 : decode cX11_line 102 = .ok (.ireturn, 1) := by decide +kernel
theorem gdX11_line_76 : decode cX11_line 76 = .ok (.aload_n 0, 1) := by decide +kernel
theorem gdX11_line_77 : decode cX11_line 77 = .ok (.iconst 5, 1) := by decide +kernel
theorem gdX11_line_78 : decode cX11_line 78 = .ok (.invokevirtual 99, 3) := by decide +kernel
theorem gdX11_line_81 : decode cX11_line 81 = .ok (.ireturn, 1) := by decide +kernel
theorem gdX11_line_58 : decode cX11_line 58 = .ok (.aload_n 0, 1) := by decide +kernel
theorem gdX11_line_59 : decode cX11_line 59 = .ok (.iconst 1, 1) := by decide +kernel
theorem gdX11_line_60 : decode cX11_line 60 = .ok (.invokevirtual 99, 3) := by decide +kernel
theorem gdX11_line_63 : decode cX11_line 63 = .ok (.ireturn, 1) := by decide +kernel
theorem gdX11_line_44 : decode cX11_line 44 = .ok (.bipush (-2), 2) := by decide +kernel
theorem gdX11_line_46 : decode cX11_line 46 = .ok (.ireturn, 1) := by decide +kernel
theorem gdX4_lengthOf_0 : decode cX4_lengthOf 0 = .ok (.aload_n 0, 1) := by decide +kernel
theorem gdX4_lengthOf_1 : decode cX4_lengthOf 1 = .ok (.getfield 21, 3) := by decide +kernel
theorem gdX4_lengthOf_4 : decode cX4_lengthOf 4 = .ok (.iload_n 1, 1) := by decide +kernel
theorem gdX4_lengthOf_5 : decode cX4_lengthOf 5 = .ok (.iaload, 1) := by decide +kernel
theorem gdX4_lengthOf_6 : decode cX4_lengthOf 6 = .ok (.ireturn, 1) := by decide +kernel
theorem gdX11_mark_22 : decode cX11_mark 22 = .ok (.iconst (-1), 1) := by decide +kernel
theorem gdX11_mark_23 : decode cX11_mark 23 = .ok (.ireturn, 1) := by decide +kernel
theorem gdX11_mark_0 : decode cX11_mark 0 = .ok (.aload_n 0, 1) := by decide +kernel
theorem gdX11_mark_1 : decode cX11_mark 1 = .ok (.getfield 52, 3) := by decide +kernel
theorem gdX11_mark_4 : decode cX11_mark 4 = .ok (.iload_n 1, 1) := by decide +kernel
theorem gdX11_mark_5 : decode cX11_mark 5 = .ok (.invokevirtual 250, 3) := by decide +kernel
theorem gdX11_mark_8 : decode cX11_mark 8 = .ok (.ifCond .eq 14, 3) := by decide +kernel
theorem gdX11_mark_11 : decode cX11_mark 11 = .ok (.iload_n 2, 1) := by decide +kernel
theorem gdX11_mark_12 : decode cX11_mark 12 = .ok (.iconst 1, 1) := by decide +kernel
theorem gdX11_mark_13 : decode cX11_mark 13 = .ok (.if_icmp .lt 9, 3) := by decide +kernel
theorem gdX11_mark_16 : decode cX11_mark 16 = .ok (.iload_n 2, 1) := by decide +kernel
theorem gdX11_mark_17 : decode cX11_mark 17 = .ok (.bipush 6, 2) := by decide +kernel
theorem gdX11_mark_19 : decode cX11_mark 19 = .ok (.if_icmp .le 5, 3) := by decide +kernel
theorem gdX11_mark_24 : decode cX11_mark 24 = .ok (.aload_n 0, 1) := by decide +kernel
theorem gdX11_mark_25 : decode cX11_mark 25 = .ok (.getfield 52, 3) := by decide +kernel
theorem gdX11_mark_28 : decode cX11_mark 28 = .ok (.iload_n 1, 1) := by decide +kernel
theorem gdX11_mark_29 : decode cX11_mark 29 = .ok (.iload_n 2, 1) := by decide +kernel
theorem gdX11_mark_30 : decode cX11_mark 30 = .ok (.invokevirtual 251, 3) := by decide +kernel
theorem gdX11_mark_33 : decode cX11_mark 33 = .ok (.ifCond .ne 9, 3) := by decide +kernel
theorem gdX11_mark_42 : decode cX11_mark 42 = .ok (.iload_n 2, 1) := by decide +kernel
theorem gdX11_mark_43 : decode cX11_mark 43 = .ok (.tableswitch 71 1 6 #[37, 46, 71, 56, 71, 65], 37) := by decide +kernel
theorem gdX11_mark_80 : decode cX11_mark 80 = .ok (.aload_n 0, 1) := by decide +kernel
theorem gdX11_mark_81 : decode cX11_mark 81 = .ok (.getfield 52, 3) := by decide +kernel
theorem gdX11_mark_84 : decode cX11_mark 84 = .ok (.iload_n 1, 1) := by decide +kernel
theorem gdX11_mark_85 : decode cX11_mark 85 = .ok (.invokevirtual 322, 3) := by decide +kernel
theorem gdX11_mark_88 : decode cX11_mark 88 = .ok (.ireturn, 1) := by decide +kernel
theorem gdX11_mark_89 : decode cX11_mark 89 = .ok (.aload_n 0, 1) := by decide +kernel
theorem gdX11_mark_90 : decode cX11_mark 90 = .ok (.getfield 52, 3) := by decide +kernel
theorem gdX11_mark_93 : decode cX11_mark 93 = .ok (.iload_n 1, 1) := by decide +kernel
theorem gdX11_mark_94 : decode cX11_mark 94 = .ok (.iconst 0, 1) := by decide +kernel
theorem gdX11_mark_95 : decode cX11_mark 95 = .ok (.invokevirtual 269, 3) := by decide +kernel
theorem gdX11_mark_98 : decode cX11_mark 98 = .ok (.ireturn, 1) := by decide +kernel
theorem gdX11_mark_114 : decode cX11_mark 114 = .ok (.aload_n 0, 1) := by decide +kernel
theorem gdX11_mark_115 : decode cX11_mark 115 = .ok (.getfield 52, 3) := by decide +kernel
theorem gdX11_mark_118 : decode cX11_mark 118 = .ok (.iload_n 1, 1) := by decide +kernel
theorem gdX11_mark_119 : decode cX11_mark 119 = .ok (.invokevirtual 331, 3) := by decide +kernel
theorem gdX11_mark_122 : decode cX11_mark 122 = .ok (.ireturn, 1) := by decide +kernel
theorem gdX11_mark_99 : decode cX11_mark 99 = .ok (.aload_n 0, 1) := by decide +kernel
theorem gdX11_mark_100 : decode cX11_mark 100 = .ok (.getfield 52, 3) := by decide +kernel
theorem gdX11_mark_103 : decode cX11_mark 103 = .ok (.iload_n 1, 1) := by decide +kernel
theorem gdX11_mark_104 : decode cX11_mark 104 = .ok (.invokevirtual 325, 3) := by decide +kernel
theorem gdX11_mark_107 : decode cX11_mark 107 = .ok (.ireturn, 1) := by decide +kernel
theorem gdX11_mark_108 : decode cX11_mark 108 = .ok (.aload_n 0, 1) := by decide +kernel
theorem gdX11_mark_109 : decode cX11_mark 109 = .ok (.iload_n 1, 1) := by decide +kernel
theorem gdX11_mark_110 : decode cX11_mark 110 = .ok (.invokevirtual 328, 3) := by decide +kernel
theorem gdX11_mark_113 : decode cX11_mark 113 = .ok (.ireturn, 1) := by decide +kernel
theorem gdX11_mark_36 : decode cX11_mark 36 = .ok (.aload_n 0, 1) := by decide +kernel
theorem gdX11_mark_37 : decode cX11_mark 37 = .ok (.iconst 3, 1) := by decide +kernel
theorem gdX11_mark_38 : decode cX11_mark 38 = .ok (.invokevirtual 99, 3) := by decide +kernel
theorem gdX11_mark_41 : decode cX11_mark 41 = .ok (.ireturn, 1) := by decide +kernel
theorem gdX11_mean_65 : decode cX11_mean 65 = .ok (.iload_n 2, 1) := by decide +kernel
theorem gdX11_mean_66 : decode cX11_mean 66 = .ok (.ifCond .ne 9, 3) := by decide +kernel
theorem gdX11_mean_75 : decode cX11_mean 75 = .ok (.aload_n 0, 1) := by decide +kernel
theorem gdX11_mean_76 : decode cX11_mean 76 = .ok (.iload_n 3, 1) := by decide +kernel
theorem gdX11_mean_77 : decode cX11_mean 77 = .ok (.iload_n 2, 1) := by decide +kernel
theorem gdX11_mean_78 : decode cX11_mean 78 = .ok (.idiv, 1) := by decide +kernel
theorem gdX11_mean_79 : decode cX11_mean 79 = .ok (.invokevirtual 117, 3) := by decide +kernel
theorem gdX11_mean_82 : decode cX11_mean 82 = .ok (.ireturn, 1) := by decide +kernel
theorem gdX11_mean_69 : decode cX11_mean 69 = .ok (.aload_n 0, 1) := by decide +kernel
theorem gdX11_mean_70 : decode cX11_mean 70 = .ok (.iconst 4, 1) := by decide +kernel
theorem gdX11_mean_71 : decode cX11_mean 71 = .ok (.invokevirtual 99, 3) := by decide +kernel
theorem gdX11_mean_74 : decode cX11_mean 74 = .ok (.ireturn, 1) := by decide +kernel
theorem gdX11_mean_59 : decode cX11_mean 59 = .ok (.iinc 4 1, 3) := by decide +kernel
theorem gdX11_mean_62 : decode cX11_mean 62 = .ok (.goto (-46), 3) := by decide +kernel
theorem gdX11_mean_16 : decode cX11_mean 16 = .ok (.iload 4, 2) := by decide +kernel
theorem gdX11_mean_18 : decode cX11_mean 18 = .ok (.aload_n 0, 1) := by decide +kernel
theorem gdX11_mean_19 : decode cX11_mean 19 = .ok (.getfield 33, 3) := by decide +kernel
theorem gdX11_mean_22 : decode cX11_mean 22 = .ok (.invokevirtual 156, 3) := by decide +kernel
theorem gdX11_mean_25 : decode cX11_mean 25 = .ok (.if_icmp .ge 40, 3) := by decide +kernel
theorem gdX11_mean_28 : decode cX11_mean 28 = .ok (.aload_n 0, 1) := by decide +kernel
theorem gdX11_mean_29 : decode cX11_mean 29 = .ok (.getfield 33, 3) := by decide +kernel
theorem gdX11_mean_32 : decode cX11_mean 32 = .ok (.iload 4, 2) := by decide +kernel
theorem gdX11_mean_34 : decode cX11_mean 34 = .ok (.iload_n 1, 1) := by decide +kernel
theorem gdX11_mean_35 : decode cX11_mean 35 = .ok (.invokevirtual 202, 3) := by decide +kernel
theorem gdX11_mean_38 : decode cX11_mean 38 = .ok (.ifCond .ne 6, 3) := by decide +kernel
theorem gdX11_mean_44 : decode cX11_mean 44 = .ok (.iinc 2 1, 3) := by decide +kernel
theorem gdX11_mean_47 : decode cX11_mean 47 = .ok (.iload_n 3, 1) := by decide +kernel
theorem gdX11_mean_48 : decode cX11_mean 48 = .ok (.aload_n 0, 1) := by decide +kernel
theorem gdX11_mean_49 : decode cX11_mean 49 = .ok (.getfield 33, 3) := by decide +kernel
theorem gdX11_mean_52 : decode cX11_mean 52 = .ok (.iload 4, 2) := by decide +kernel
theorem gdX11_mean_54 : decode cX11_mean 54 = .ok (.invokevirtual 174, 3) := by decide +kernel
theorem gdX11_mean_57 : decode cX11_mean 57 = .ok (.iadd, 1) := by decide +kernel
theorem gdX11_mean_58 : decode cX11_mean 58 = .ok (.istore_n 3, 1) := by decide +kernel
theorem gdX11_mean_41 : decode cX11_mean 41 = .ok (.goto 18, 3) := by decide +kernel
theorem gdX11_mean_0 : decode cX11_mean 0 = .ok (.iload_n 1, 1) := by decide +kernel
theorem gdX11_mean_1 : decode cX11_mean 1 = .ok (.invokestatic 150, 3) := by decide +kernel
theorem gdX11_mean_4 : decode cX11_mean 4 = .ok (.ifCond .ne 5, 3) := by decide +kernel
theorem gdX11_mean_9 : decode cX11_mean 9 = .ok (.iconst 0, 1) := by decide +kernel
theorem gdX11_mean_10 : decode cX11_mean 10 = .ok (.istore_n 2, 1) := by decide +kernel
theorem gdX11_mean_11 : decode cX11_mean 11 = .ok (.iconst 0, 1) := by decide +kernel
theorem gdX11_mean_12 : decode cX11_mean 12 = .ok (.istore_n 3, 1) := by decide +kernel
theorem gdX11_mean_13 : decode cX11_mean 13 = .ok (.iconst 0, 1) := by decide +kernel
theorem gdX11_mean_14 : decode cX11_mean 14 = .ok (.istore 4, 2) := by decide +kernel
theorem gdX11_mean_7 : decode cX11_mean 7 = .ok (.iconst (-1), 1) := by decide +kernel
theorem gdX11_mean_8 : decode cX11_mean 8 = .ok (.ireturn, 1) := by decide +kernel
theorem gdX4_livedThere_20 : decode cX4_livedThere 20 = .ok (.ireturn, 1) := by decide +kernel
theorem gdX4_livedThere_0 : decode cX4_livedThere 0 = .ok (.aload_n 0, 1) := by decide +kernel
theorem gdX4_livedThere_1 : decode cX4_livedThere 1 = .ok (.getfield 51, 3) := by decide +kernel
theorem gdX4_livedThere_4 : decode cX4_livedThere 4 = .ok (.iload_n 1, 1) := by decide +kernel
theorem gdX4_livedThere_5 : decode cX4_livedThere 5 = .ok (.laload, 1) := by decide +kernel
theorem gdX4_livedThere_6 : decode cX4_livedThere 6 = .ok (.iload_n 2, 1) := by decide +kernel
theorem gdX4_livedThere_7 : decode cX4_livedThere 7 = .ok (.lushr, 1) := by decide +kernel
theorem gdX4_livedThere_8 : decode cX4_livedThere 8 = .ok (.lconst 1, 1) := by decide +kernel
theorem gdX4_livedThere_9 : decode cX4_livedThere 9 = .ok (.land, 1) := by decide +kernel
theorem gdX4_livedThere_10 : decode cX4_livedThere 10 = .ok (.lconst 1, 1) := by decide +kernel
theorem gdX4_livedThere_11 : decode cX4_livedThere 11 = .ok (.lcmp, 1) := by decide +kernel
theorem gdX4_livedThere_12 : decode cX4_livedThere 12 = .ok (.ifCond .ne 7, 3) := by decide +kernel
theorem gdX4_livedThere_19 : decode cX4_livedThere 19 = .ok (.iconst 0, 1) := by decide +kernel
theorem gdX4_livedThere_15 : decode cX4_livedThere 15 = .ok (.iconst 1, 1) := by decide +kernel
theorem gdX4_livedThere_16 : decode cX4_livedThere 16 = .ok (.goto 4, 3) := by decide +kernel
theorem gdX1_roomsLeft_26 : decode cX1_roomsLeft 26 = .ok (.ireturn, 1) := by decide +kernel
theorem gdX1_roomsLeft_0 : decode cX1_roomsLeft 0 = .ok (.aload_n 0, 1) := by decide +kernel
theorem gdX1_roomsLeft_1 : decode cX1_roomsLeft 1 = .ok (.iload_n 1, 1) := by decide +kernel
theorem gdX1_roomsLeft_2 : decode cX1_roomsLeft 2 = .ok (.iconst 0, 1) := by decide +kernel
theorem gdX1_roomsLeft_3 : decode cX1_roomsLeft 3 = .ok (.invokevirtual 69, 3) := by decide +kernel
theorem gdX1_roomsLeft_6 : decode cX1_roomsLeft 6 = .ok (.ifCond .eq 19, 3) := by decide +kernel
theorem gdX1_roomsLeft_25 : decode cX1_roomsLeft 25 = .ok (.iconst 0, 1) := by decide +kernel
theorem gdX1_roomsLeft_9 : decode cX1_roomsLeft 9 = .ok (.aload_n 0, 1) := by decide +kernel
theorem gdX1_roomsLeft_10 : decode cX1_roomsLeft 10 = .ok (.getfield 18, 3) := by decide +kernel
theorem gdX1_roomsLeft_13 : decode cX1_roomsLeft 13 = .ok (.iload_n 1, 1) := by decide +kernel
theorem gdX1_roomsLeft_14 : decode cX1_roomsLeft 14 = .ok (.iaload, 1) := by decide +kernel
theorem gdX1_roomsLeft_15 : decode cX1_roomsLeft 15 = .ok (.aload_n 0, 1) := by decide +kernel
theorem gdX1_roomsLeft_16 : decode cX1_roomsLeft 16 = .ok (.getfield 21, 3) := by decide +kernel
theorem gdX1_roomsLeft_19 : decode cX1_roomsLeft 19 = .ok (.iload_n 1, 1) := by decide +kernel
theorem gdX1_roomsLeft_20 : decode cX1_roomsLeft 20 = .ok (.iaload, 1) := by decide +kernel
theorem gdX1_roomsLeft_21 : decode cX1_roomsLeft 21 = .ok (.isub, 1) := by decide +kernel
theorem gdX1_roomsLeft_22 : decode cX1_roomsLeft 22 = .ok (.goto 4, 3) := by decide +kernel
theorem gdX4_setMoved_0 : decode cX4_setMoved 0 = .ok (.aload_n 0, 1) := by decide +kernel
theorem gdX4_setMoved_1 : decode cX4_setMoved 1 = .ok (.getfield 39, 3) := by decide +kernel
theorem gdX4_setMoved_4 : decode cX4_setMoved 4 = .ok (.iload_n 1, 1) := by decide +kernel
theorem gdX4_setMoved_5 : decode cX4_setMoved 5 = .ok (.iload_n 2, 1) := by decide +kernel
theorem gdX4_setMoved_6 : decode cX4_setMoved 6 = .ok (.iastore, 1) := by decide +kernel
theorem gdX4_setMoved_7 : decode cX4_setMoved 7 = .ok (.aload_n 0, 1) := by decide +kernel
theorem gdX4_setMoved_8 : decode cX4_setMoved 8 = .ok (.getfield 42, 3) := by decide +kernel
theorem gdX4_setMoved_11 : decode cX4_setMoved 11 = .ok (.iload_n 1, 1) := by decide +kernel
theorem gdX4_setMoved_12 : decode cX4_setMoved 12 = .ok (.iload_n 3, 1) := by decide +kernel
theorem gdX4_setMoved_13 : decode cX4_setMoved 13 = .ok (.iastore, 1) := by decide +kernel
theorem gdX4_setMoved_14 : decode cX4_setMoved 14 = .ok (.return_, 1) := by decide +kernel
theorem gdX5_setHome_0 : decode cX5_setHome 0 = .ok (.aload_n 0, 1) := by decide +kernel
theorem gdX5_setHome_1 : decode cX5_setHome 1 = .ok (.getfield 11, 3) := by decide +kernel
theorem gdX5_setHome_4 : decode cX5_setHome 4 = .ok (.iload_n 1, 1) := by decide +kernel
theorem gdX5_setHome_5 : decode cX5_setHome 5 = .ok (.iload_n 2, 1) := by decide +kernel
theorem gdX5_setHome_6 : decode cX5_setHome 6 = .ok (.iastore, 1) := by decide +kernel
theorem gdX5_setHome_7 : decode cX5_setHome 7 = .ok (.return_, 1) := by decide +kernel
theorem gdX1_enter_0 : decode cX1_enter 0 = .ok (.aload_n 0, 1) := by decide +kernel
theorem gdX1_enter_1 : decode cX1_enter 1 = .ok (.getfield 21, 3) := by decide +kernel
theorem gdX1_enter_4 : decode cX1_enter 4 = .ok (.iload_n 1, 1) := by decide +kernel
theorem gdX1_enter_5 : decode cX1_enter 5 = .ok (.dup2, 1) := by decide +kernel
theorem gdX1_enter_6 : decode cX1_enter 6 = .ok (.iaload, 1) := by decide +kernel
theorem gdX1_enter_7 : decode cX1_enter 7 = .ok (.iconst 1, 1) := by decide +kernel
theorem gdX1_enter_8 : decode cX1_enter 8 = .ok (.iadd, 1) := by decide +kernel
theorem gdX1_enter_9 : decode cX1_enter 9 = .ok (.iastore, 1) := by decide +kernel
theorem gdX1_enter_10 : decode cX1_enter 10 = .ok (.return_, 1) := by decide +kernel
theorem gdX11_settle_0 : decode cX11_settle 0 = .ok (.aload_n 0, 1) := by decide +kernel
theorem gdX11_settle_1 : decode cX11_settle 1 = .ok (.getfield 40, 3) := by decide +kernel
theorem gdX11_settle_4 : decode cX11_settle 4 = .ok (.iload_n 1, 1) := by decide +kernel
theorem gdX11_settle_5 : decode cX11_settle 5 = .ok (.iload_n 2, 1) := by decide +kernel
theorem gdX11_settle_6 : decode cX11_settle 6 = .ok (.invokevirtual 495, 3) := by decide +kernel
theorem gdX11_settle_9 : decode cX11_settle 9 = .ok (.aload_n 0, 1) := by decide +kernel
theorem gdX11_settle_10 : decode cX11_settle 10 = .ok (.getfield 33, 3) := by decide +kernel
theorem gdX11_settle_13 : decode cX11_settle 13 = .ok (.iload_n 2, 1) := by decide +kernel
theorem gdX11_settle_14 : decode cX11_settle 14 = .ok (.invokevirtual 498, 3) := by decide +kernel
theorem gdX11_settle_17 : decode cX11_settle 17 = .ok (.return_, 1) := by decide +kernel
theorem gdX11_moved_33 : decode cX11_moved 33 = .ok (.iconst (-1), 1) := by decide +kernel
theorem gdX11_moved_34 : decode cX11_moved 34 = .ok (.ireturn, 1) := by decide +kernel
theorem gdX11_moved_105 : decode cX11_moved 105 = .ok (.bipush (-4), 2) := by decide +kernel
theorem gdX11_moved_107 : decode cX11_moved 107 = .ok (.ireturn, 1) := by decide +kernel
theorem gdX11_moved_0 : decode cX11_moved 0 = .ok (.aload_n 0, 1) := by decide +kernel
theorem gdX11_moved_1 : decode cX11_moved 1 = .ok (.getfield 52, 3) := by decide +kernel
theorem gdX11_moved_4 : decode cX11_moved 4 = .ok (.iload_n 1, 1) := by decide +kernel
theorem gdX11_moved_5 : decode cX11_moved 5 = .ok (.invokevirtual 250, 3) := by decide +kernel
theorem gdX11_moved_8 : decode cX11_moved 8 = .ok (.ifCond .eq 25, 3) := by decide +kernel
theorem gdX11_moved_11 : decode cX11_moved 11 = .ok (.aload_n 0, 1) := by decide +kernel
theorem gdX11_moved_12 : decode cX11_moved 12 = .ok (.getfield 40, 3) := by decide +kernel
theorem gdX11_moved_15 : decode cX11_moved 15 = .ok (.iload_n 2, 1) := by decide +kernel
theorem gdX11_moved_16 : decode cX11_moved 16 = .ok (.invokevirtual 200, 3) := by decide +kernel
theorem gdX11_moved_19 : decode cX11_moved 19 = .ok (.ifCond .eq 14, 3) := by decide +kernel
theorem gdX11_moved_22 : decode cX11_moved 22 = .ok (.aload_n 0, 1) := by decide +kernel
theorem gdX11_moved_23 : decode cX11_moved 23 = .ok (.getfield 33, 3) := by decide +kernel
theorem gdX11_moved_26 : decode cX11_moved 26 = .ok (.iload_n 3, 1) := by decide +kernel
theorem gdX11_moved_27 : decode cX11_moved 27 = .ok (.invokevirtual 170, 3) := by decide +kernel
theorem gdX11_moved_30 : decode cX11_moved 30 = .ok (.ifCond .ne 5, 3) := by decide +kernel
theorem gdX11_moved_35 : decode cX11_moved 35 = .ok (.aload_n 0, 1) := by decide +kernel
theorem gdX11_moved_36 : decode cX11_moved 36 = .ok (.getfield 52, 3) := by decide +kernel
theorem gdX11_moved_39 : decode cX11_moved 39 = .ok (.invokevirtual 218, 3) := by decide +kernel
theorem gdX11_moved_42 : decode cX11_moved 42 = .ok (.bipush 24, 2) := by decide +kernel
theorem gdX11_moved_44 : decode cX11_moved 44 = .ok (.if_icmp .lt 6, 3) := by decide +kernel
theorem gdX11_moved_50 : decode cX11_moved 50 = .ok (.aload_n 0, 1) := by decide +kernel
theorem gdX11_moved_51 : decode cX11_moved 51 = .ok (.getfield 52, 3) := by decide +kernel
theorem gdX11_moved_54 : decode cX11_moved 54 = .ok (.iload_n 1, 1) := by decide +kernel
theorem gdX11_moved_55 : decode cX11_moved 55 = .ok (.invokevirtual 302, 3) := by decide +kernel
theorem gdX11_moved_58 : decode cX11_moved 58 = .ok (.iconst 3, 1) := by decide +kernel
theorem gdX11_moved_59 : decode cX11_moved 59 = .ok (.if_icmp .eq 9, 3) := by decide +kernel
theorem gdX11_moved_68 : decode cX11_moved 68 = .ok (.aload_n 0, 1) := by decide +kernel
theorem gdX11_moved_69 : decode cX11_moved 69 = .ok (.getfield 52, 3) := by decide +kernel
theorem gdX11_moved_72 : decode cX11_moved 72 = .ok (.iload_n 1, 1) := by decide +kernel
theorem gdX11_moved_73 : decode cX11_moved 73 = .ok (.iload_n 2, 1) := by decide +kernel
theorem gdX11_moved_74 : decode cX11_moved 74 = .ok (.invokevirtual 305, 3) := by decide +kernel
theorem gdX11_moved_77 : decode cX11_moved 77 = .ok (.ifCond .eq 28, 3) := by decide +kernel
theorem gdX11_moved_80 : decode cX11_moved 80 = .ok (.aload_n 0, 1) := by decide +kernel
theorem gdX11_moved_81 : decode cX11_moved 81 = .ok (.getfield 40, 3) := by decide +kernel
theorem gdX11_moved_84 : decode cX11_moved 84 = .ok (.iload_n 2, 1) := by decide +kernel
theorem gdX11_moved_85 : decode cX11_moved 85 = .ok (.invokevirtual 308, 3) := by decide +kernel
theorem gdX11_moved_88 : decode cX11_moved 88 = .ok (.bipush (-9), 2) := by decide +kernel
theorem gdX11_moved_90 : decode cX11_moved 90 = .ok (.if_icmp .ne 15, 3) := by decide +kernel
theorem gdX11_moved_93 : decode cX11_moved 93 = .ok (.aload_n 0, 1) := by decide +kernel
theorem gdX11_moved_94 : decode cX11_moved 94 = .ok (.getfield 33, 3) := by decide +kernel
theorem gdX11_moved_97 : decode cX11_moved 97 = .ok (.iload_n 3, 1) := by decide +kernel
theorem gdX11_moved_98 : decode cX11_moved 98 = .ok (.invokevirtual 191, 3) := by decide +kernel
theorem gdX11_moved_101 : decode cX11_moved 101 = .ok (.iconst 1, 1) := by decide +kernel
theorem gdX11_moved_102 : decode cX11_moved 102 = .ok (.if_icmp .ge 6, 3) := by decide +kernel
theorem gdX11_moved_108 : decode cX11_moved 108 = .ok (.aload_n 0, 1) := by decide +kernel
theorem gdX11_moved_109 : decode cX11_moved 109 = .ok (.iconst 3, 1) := by decide +kernel
theorem gdX11_moved_110 : decode cX11_moved 110 = .ok (.invokevirtual 228, 3) := by decide +kernel
theorem gdX11_moved_113 : decode cX11_moved 113 = .ok (.istore 4, 2) := by decide +kernel
theorem gdX11_moved_115 : decode cX11_moved 115 = .ok (.aload_n 0, 1) := by decide +kernel
theorem gdX11_moved_116 : decode cX11_moved 116 = .ok (.getfield 52, 3) := by decide +kernel
theorem gdX11_moved_119 : decode cX11_moved 119 = .ok (.iconst 4, 1) := by decide +kernel
theorem gdX11_moved_120 : decode cX11_moved 120 = .ok (.aload_n 0, 1) := by decide +kernel
theorem gdX11_moved_121 : decode cX11_moved 121 = .ok (.getfield 136, 3) := by decide +kernel
theorem gdX11_moved_124 : decode cX11_moved 124 = .ok (.iload_n 1, 1) := by decide +kernel
theorem gdX11_moved_125 : decode cX11_moved 125 = .ok (.invokevirtual 235, 3) := by decide +kernel
theorem gdX11_moved_128 : decode cX11_moved 128 = .ok (.istore 5, 2) := by decide +kernel
theorem gdX11_moved_130 : decode cX11_moved 130 = .ok (.aload_n 0, 1) := by decide +kernel
theorem gdX11_moved_131 : decode cX11_moved 131 = .ok (.getfield 52, 3) := by decide +kernel
theorem gdX11_moved_134 : decode cX11_moved 134 = .ok (.iload 5, 2) := by decide +kernel
theorem gdX11_moved_136 : decode cX11_moved 136 = .ok (.iload 4, 2) := by decide +kernel
theorem gdX11_moved_138 : decode cX11_moved 138 = .ok (.iload_n 2, 1) := by decide +kernel
theorem gdX11_moved_139 : decode cX11_moved 139 = .ok (.invokevirtual 311, 3) := by decide +kernel
theorem gdX11_moved_142 : decode cX11_moved 142 = .ok (.aload_n 0, 1) := by decide +kernel
theorem gdX11_moved_143 : decode cX11_moved 143 = .ok (.iload_n 2, 1) := by decide +kernel
theorem gdX11_moved_144 : decode cX11_moved 144 = .ok (.iload_n 3, 1) := by decide +kernel
theorem gdX11_moved_145 : decode cX11_moved 145 = .ok (.invokevirtual 197, 3) := by decide +kernel
theorem gdX11_moved_148 : decode cX11_moved 148 = .ok (.aload_n 0, 1) := by decide +kernel
theorem gdX11_moved_149 : decode cX11_moved 149 = .ok (.iload 4, 2) := by decide +kernel
theorem gdX11_moved_151 : decode cX11_moved 151 = .ok (.invokevirtual 117, 3) := by decide +kernel
theorem gdX11_moved_154 : decode cX11_moved 154 = .ok (.pop, 1) := by decide +kernel
theorem gdX11_moved_155 : decode cX11_moved 155 = .ok (.iload 5, 2) := by decide +kernel
theorem gdX11_moved_157 : decode cX11_moved 157 = .ok (.ireturn, 1) := by decide +kernel
theorem gdX11_moved_62 : decode cX11_moved 62 = .ok (.aload_n 0, 1) := by decide +kernel
theorem gdX11_moved_63 : decode cX11_moved 63 = .ok (.iconst 3, 1) := by decide +kernel
theorem gdX11_moved_64 : decode cX11_moved 64 = .ok (.invokevirtual 99, 3) := by decide +kernel
theorem gdX11_moved_67 : decode cX11_moved 67 = .ok (.ireturn, 1) := by decide +kernel
theorem gdX11_moved_47 : decode cX11_moved 47 = .ok (.bipush (-2), 2) := by decide +kernel
theorem gdX11_moved_49 : decode cX11_moved 49 = .ok (.ireturn, 1) := by decide +kernel
theorem gdX11_noise_22 : decode cX11_noise 22 = .ok (.iconst (-1), 1) := by decide +kernel
theorem gdX11_noise_23 : decode cX11_noise 23 = .ok (.ireturn, 1) := by decide +kernel
theorem gdX11_noise_0 : decode cX11_noise 0 = .ok (.aload_n 0, 1) := by decide +kernel
theorem gdX11_noise_1 : decode cX11_noise 1 = .ok (.getfield 52, 3) := by decide +kernel
theorem gdX11_noise_4 : decode cX11_noise 4 = .ok (.iload_n 1, 1) := by decide +kernel
theorem gdX11_noise_5 : decode cX11_noise 5 = .ok (.invokevirtual 250, 3) := by decide +kernel
theorem gdX11_noise_8 : decode cX11_noise 8 = .ok (.ifCond .eq 14, 3) := by decide +kernel
theorem gdX11_noise_11 : decode cX11_noise 11 = .ok (.aload_n 0, 1) := by decide +kernel
theorem gdX11_noise_12 : decode cX11_noise 12 = .ok (.getfield 12, 3) := by decide +kernel
theorem gdX11_noise_15 : decode cX11_noise 15 = .ok (.iload_n 2, 1) := by decide +kernel
theorem gdX11_noise_16 : decode cX11_noise 16 = .ok (.invokevirtual 95, 3) := by decide +kernel
theorem gdX11_noise_19 : decode cX11_noise 19 = .ok (.ifCond .ne 5, 3) := by decide +kernel
theorem gdX11_noise_24 : decode cX11_noise 24 = .ok (.aload_n 0, 1) := by decide +kernel
theorem gdX11_noise_25 : decode cX11_noise 25 = .ok (.getfield 52, 3) := by decide +kernel
theorem gdX11_noise_28 : decode cX11_noise 28 = .ok (.iload_n 1, 1) := by decide +kernel
theorem gdX11_noise_29 : decode cX11_noise 29 = .ok (.iconst 1, 1) := by decide +kernel
theorem gdX11_noise_30 : decode cX11_noise 30 = .ok (.invokevirtual 251, 3) := by decide +kernel
theorem gdX11_noise_33 : decode cX11_noise 33 = .ok (.ifCond .ne 9, 3) := by decide +kernel
theorem gdX11_noise_42 : decode cX11_noise 42 = .ok (.aload_n 0, 1) := by decide +kernel
theorem gdX11_noise_43 : decode cX11_noise 43 = .ok (.getfield 12, 3) := by decide +kernel
theorem gdX11_noise_46 : decode cX11_noise 46 = .ok (.iload_n 2, 1) := by decide +kernel
theorem gdX11_noise_47 : decode cX11_noise 47 = .ok (.invokevirtual 106, 3) := by decide +kernel
theorem gdX11_noise_50 : decode cX11_noise 50 = .ok (.ifCond .ne 9, 3) := by decide +kernel
theorem gdX11_noise_59 : decode cX11_noise 59 = .ok (.aload_n 0, 1) := by decide +kernel
theorem gdX11_noise_60 : decode cX11_noise 60 = .ok (.iload_n 1, 1) := by decide +kernel
theorem gdX11_noise_61 : decode cX11_noise 61 = .ok (.iload_n 2, 1) := by decide +kernel
theorem gdX11_noise_62 : decode cX11_noise 62 = .ok (.invokevirtual 398, 3) := by decide +kernel
theorem gdX11_noise_65 : decode cX11_noise 65 = .ok (.lstore_n 3, 1) := by decide +kernel
theorem gdX11_noise_66 : decode cX11_noise 66 = .ok (.aload_n 0, 1) := by decide +kernel
theorem gdX11_noise_67 : decode cX11_noise 67 = .ok (.aload_n 0, 1) := by decide +kernel
theorem gdX11_noise_68 : decode cX11_noise 68 = .ok (.getfield 33, 3) := by decide +kernel
theorem gdX11_noise_71 : decode cX11_noise 71 = .ok (.lload_n 3, 1) := by decide +kernel
theorem gdX11_noise_72 : decode cX11_noise 72 = .ok (.invokevirtual 402, 3) := by decide +kernel
theorem gdX11_noise_75 : decode cX11_noise 75 = .ok (.invokevirtual 117, 3) := by decide +kernel
theorem gdX11_noise_78 : decode cX11_noise 78 = .ok (.pop, 1) := by decide +kernel
theorem gdX11_noise_79 : decode cX11_noise 79 = .ok (.aload_n 0, 1) := by decide +kernel
theorem gdX11_noise_80 : decode cX11_noise 80 = .ok (.getfield 33, 3) := by decide +kernel
theorem gdX11_noise_83 : decode cX11_noise 83 = .ok (.lload_n 3, 1) := by decide +kernel
theorem gdX11_noise_84 : decode cX11_noise 84 = .ok (.invokevirtual 405, 3) := by decide +kernel
theorem gdX11_noise_87 : decode cX11_noise 87 = .ok (.ireturn, 1) := by decide +kernel
theorem gdX11_noise_53 : decode cX11_noise 53 = .ok (.aload_n 0, 1) := by decide +kernel
theorem gdX11_noise_54 : decode cX11_noise 54 = .ok (.iconst 1, 1) := by decide +kernel
theorem gdX11_noise_55 : decode cX11_noise 55 = .ok (.invokevirtual 99, 3) := by decide +kernel
theorem gdX11_noise_58 : decode cX11_noise 58 = .ok (.ireturn, 1) := by decide +kernel
theorem gdX11_noise_36 : decode cX11_noise 36 = .ok (.aload_n 0, 1) := by decide +kernel
theorem gdX11_noise_37 : decode cX11_noise 37 = .ok (.iconst 3, 1) := by decide +kernel
theorem gdX11_noise_38 : decode cX11_noise 38 = .ok (.invokevirtual 99, 3) := by decide +kernel
theorem gdX11_noise_41 : decode cX11_noise 41 = .ok (.ireturn, 1) := by decide +kernel
theorem okm_X3_beside : okM yX3_beside cX3_beside 2 (some .int) 2 := ⟨w_829, w_93, by decide +kernel, by decide +kernel, by decide +kernel⟩
theorem okm_X3_slope : okM yX3_slope cX3_slope 3 (some .int) 2 := ⟨w_834, w_93, by decide +kernel, by decide +kernel, by decide +kernel⟩
theorem okw_X3_slope : okV yX3_slope := ⟨w_832, w_833⟩
theorem okm_X3_onward : okM yX3_onward cX3_onward 5 (some .int) 3 := ⟨w_826, w_93, by decide +kernel, by decide +kernel, by decide +kernel⟩
theorem okw_X3_onward : okV yX3_onward := ⟨w_824, w_825⟩
theorem okm_X10_rest : okM yX10_rest cX10_rest 3 (some .int) 2 := ⟨w_857, w_99, by decide +kernel, by decide +kernel, by decide +kernel⟩
theorem okw_X10_rest : okV yX10_rest := ⟨w_856, w_8⟩
theorem okm_X10_firstOfLeast : okM yX10_firstOfLeast cX10_firstOfLeast 6 (some .int) 2 := ⟨w_867, w_99, by decide +kernel, by decide +kernel, by decide +kernel⟩
theorem okw_X10_firstOfLeast : okV yX10_firstOfLeast := ⟨w_866, w_10⟩
theorem okm_X10_trace : okM yX10_trace cX10_trace 4 none 1 := ⟨w_863, w_99, by decide +kernel, by decide +kernel, by decide +kernel⟩
theorem okw_X10_trace : okV yX10_trace := ⟨w_862, w_9⟩
theorem okm_X10_next : okM yX10_next cX10_next 2 (some .int) 0 := ⟨w_848, w_99, by decide +kernel, by decide +kernel, by decide +kernel⟩
theorem okw_X10_next : okV yX10_next := ⟨w_847, w_6⟩
theorem okm_X10_improve : okM yX10_improve cX10_improve 8 (some .boolean) 3 := ⟨w_853, w_99, by decide +kernel, by decide +kernel, by decide +kernel⟩
theorem okw_X10_improve : okV yX10_improve := ⟨w_852, w_7⟩
theorem okm_X10_rouseBeside : okM yX10_rouseBeside cX10_rouseBeside 6 none 3 := ⟨w_822, w_99, by decide +kernel, by decide +kernel, by decide +kernel⟩
theorem okw_X10_rouseBeside : okV yX10_rouseBeside := ⟨w_821, w_5⟩
theorem okm_X11_setPrices : okM yX11_setPrices cX11_setPrices 5 none 1 := ⟨w_803, w_89, by decide +kernel, by decide +kernel, by decide +kernel⟩
theorem okw_X11_setPrices : okV yX11_setPrices := ⟨w_802, w_3⟩
theorem okm_X10_find : okM yX10_find cX10_find 7 (some .boolean) 4 := ⟨w_816, w_99, by decide +kernel, by decide +kernel, by decide +kernel⟩
theorem okw_X10_find : okV yX10_find := ⟨w_814, w_815⟩
theorem okm_X4_route : okM yX4_route cX4_route 6 none 4 := ⟨w_876, w_97, by decide +kernel, by decide +kernel, by decide +kernel⟩
theorem okw_X4_route : okV yX4_route := ⟨w_874, w_875⟩
theorem okm_X4_lengthOf : okM yX4_lengthOf cX4_lengthOf 2 (some .int) 1 := ⟨w_1026, w_97, by decide +kernel, by decide +kernel, by decide +kernel⟩
theorem okw_X4_lengthOf : okV yX4_lengthOf := ⟨w_1024, w_1025⟩
theorem okm_X5_setHome : okM yX5_setHome cX5_setHome 3 none 2 := ⟨w_726, w_95, by decide +kernel, by decide +kernel, by decide +kernel⟩
theorem okw_X5_setHome : okV yX5_setHome := ⟨w_724, w_725⟩
theorem okm_X1_enter : okM yX1_enter cX1_enter 2 none 1 := ⟨w_730, w_94, by decide +kernel, by decide +kernel, by decide +kernel⟩
theorem okw_X1_enter : okV yX1_enter := ⟨w_728, w_729⟩
theorem okm_X4_livedThere : okM yX4_livedThere cX4_livedThere 3 (some .boolean) 2 := ⟨w_986, w_97, by decide +kernel, by decide +kernel, by decide +kernel⟩
theorem okw_X4_livedThere : okV yX4_livedThere := ⟨w_984, w_985⟩
theorem okm_X1_roomsLeft : okM yX1_roomsLeft cX1_roomsLeft 2 (some .int) 1 := ⟨w_710, w_94, by decide +kernel, by decide +kernel, by decide +kernel⟩
theorem okw_X1_roomsLeft : okV yX1_roomsLeft := ⟨w_708, w_709⟩
theorem okm_X4_setMoved : okM yX4_setMoved cX4_setMoved 4 none 3 := ⟨w_994, w_97, by decide +kernel, by decide +kernel, by decide +kernel⟩
theorem okw_X4_setMoved : okV yX4_setMoved := ⟨w_992, w_993⟩
theorem okm_X11_settle : okM yX11_settle cX11_settle 3 none 2 := ⟨w_722, w_89, by decide +kernel, by decide +kernel, by decide +kernel⟩
theorem okw_X11_settle : okV yX11_settle := ⟨w_721, w_2⟩
noncomputable def b_J7_fill_53178__56_20 (o : OO) : Option (OO) := some o
noncomputable def l_J7_fill_53178__56_5 (x1 : Int) (x3 : Int) (o : OO) (x2 : Int) : Option ((OO × Int) ⊕ ((OO))) := qLt x2 x3 (qIn x2 256 (qNm (st1 o 56 x2.toNat x1) (fun o2 => some (.inl (o2, x2 + 1))))) (some (.inr (o)))
noncomputable def e_J7_fill_53178__56_5 (o : OO) (x1 : Int) (x2 : Int) (x3 : Int) : Option (OO) := qB (loopW (fun s => l_J7_fill_53178__56_5 x1 x3 s.1 s.2) (o, x2)) (fun r => b_J7_fill_53178__56_20 r)
noncomputable def s_J7_fill_53178__56 (o : OO) (x1 : Int) : Option (OO) := e_J7_fill_53178__56_5 o x1 0 256
set_option maxHeartbeats 4000000 in
set_option maxRecDepth 100000 in
theorem c_J7_fill_53178__56 (l : Launch) (g : GG) (ad : Nat → Nat) (o : OO) (x1 : Int) (v : OO) (h : s_J7_fill_53178__56 o x1 = some v) : CV l g yJ7_fill_53178 cJ7_fill_53178 4 0 0 (wC g ad o) [.ref (ad 56), iv x1] (wC g ad v) := by
  refine met_V (by decide) (Nat.le_of_ble_eq_true rfl) ?_
  intro X E hQ
  show Go X 0 (wC g ad o) [(0, .ref (ad 56)), (1, iv x1)] []
  have j20 : ∀ (o : OO), b_J7_fill_53178__56_20 o = some v → Go X 20 (wC g ad o) [] [] := by
    intro o h
    unfold b_J7_fill_53178__56_20 at h
    exact g_vret E hQ (by rw [← Option.some.inj h]) gdJ7_fill_53178_20
  have l5 : ∀ (x1 : Int) (x3 : Int) (r : (OO)) (s0 : OO × Int), loopW (fun s => l_J7_fill_53178__56_5 x1 x3 s.1 s.2) s0 = some r → (∀ (o : OO), r = (o) → Go X 20 (wC g ad o) [] []) → Go X 5 (wC g ad s0.1) [(0, .ref (ad 56)), (1, iv x1), (2, iv s0.2), (3, iv x3)] [] := by
    intro x1 x3 r s0 h k1
    refine loop_rule (Head := fun s0 => Go X 5 (wC g ad s0.1) [(0, .ref (ad 56)), (1, iv x1), (2, iv s0.2), (3, iv x3)] []) h ?_
    intro s v h kk kx
    obtain ⟨o, x2⟩ := s
    have h : l_J7_fill_53178__56_5 x1 x3 o x2 = some v := h
    have k0 : ∀ (o : OO) (x2 : Int), v = .inl (o, x2) → Go X 5 (wC g ad o) [(0, .ref (ad 56)), (1, iv x1), (2, iv x2), (3, iv x3)] [] := fun o x2 e => kk (o, x2) e
    have k1 : ∀ (o : OO), v = .inr (o) → Go X 20 (wC g ad o) [] [] := fun o e => k1 o (kx _ e).symm
    unfold l_J7_fill_53178__56_5 at h
    refine g_iload_n E gdJ7_fill_53178_5 rfl 2 rfl ?_
    refine g_iload_n E gdJ7_fill_53178_6 rfl 3 rfl ?_
    refine g_icmp_ge E 20 gdJ7_fill_53178_7 (by decide) h (fun h => ?_) (fun h => ?_)
    ·
      refine g_sub E [] rfl ?_
      exact k1 o (Option.some.inj h).symm
    ·
      refine g_aload_n E gdJ7_fill_53178_10 rfl 0 rfl ?_
      refine g_iload_n E gdJ7_fill_53178_11 rfl 2 rfl ?_
      refine g_iload_n E gdJ7_fill_53178_12 rfl 1 rfl ?_
      obtain ⟨hi1, h⟩ := qIn_of h
      obtain ⟨o2, e_o2, h⟩ := qNm_of h
      refine g_iast (ws' := wC g ad o2) E 56 (wC_56 g ad o) (by decide) hi1 (by rw [e_o2]; exact wC_s56 g ad o _ _) gdJ7_fill_53178_13 ?_
      refine g_iinc E [(2, iv (x2 + 1)), (0, .ref (ad 56)), (1, iv x1), (3, iv x3)] gdJ7_fill_53178_14 2 rfl (by decide) rfl ?_
      refine g_goto E 5 gdJ7_fill_53178_17 (by decide) ?_
      refine g_sub E [1, 2, 0, 3] rfl ?_
      exact k0 o2 (x2 + 1) (Option.some.inj h).symm
  have j5 : ∀ (o : OO) (x1 : Int) (x2 : Int) (x3 : Int), e_J7_fill_53178__56_5 o x1 x2 x3 = some v → Go X 5 (wC g ad o) [(0, .ref (ad 56)), (1, iv x1), (2, iv x2), (3, iv x3)] [] := by
    intro o x1 x2 x3 h
    unfold e_J7_fill_53178__56_5 at h
    obtain ⟨r, hr, h⟩ := qB_of h
    refine l5 x1 x3 r _ hr ?_
    ·
      intro u0 e
      have e := e.symm
      subst e
      have h : b_J7_fill_53178__56_20 u0 = some v := h
      exact j20 u0 h
  unfold s_J7_fill_53178__56 at h
  refine g_iconst E gdJ7_fill_53178_0 ?_
  refine g_istore_n E [(2, iv 0), (0, .ref (ad 56)), (1, iv x1)] gdJ7_fill_53178_1 rfl (by decide) rfl ?_
  refine g_aload_n E gdJ7_fill_53178_2 rfl 1 rfl ?_
  refine g_alen (N := 256) E 56 (wC_56 g ad o) gdJ7_fill_53178_3 ?_
  refine g_istore_n E [(3, iv 256), (2, iv 0), (0, .ref (ad 56)), (1, iv x1)] gdJ7_fill_53178_4 rfl (by decide) rfl ?_
  refine g_sub E [2, 3, 1, 0] rfl ?_
  exact j5 o x1 0 256 h
noncomputable def b_J7_fill_53178__57_20 (o : OO) : Option (OO) := some o
noncomputable def l_J7_fill_53178__57_5 (x1 : Int) (x3 : Int) (o : OO) (x2 : Int) : Option ((OO × Int) ⊕ ((OO))) := qLt x2 x3 (qIn x2 64 (qNm (st1 o 57 x2.toNat x1) (fun o2 => some (.inl (o2, x2 + 1))))) (some (.inr (o)))
noncomputable def e_J7_fill_53178__57_5 (o : OO) (x1 : Int) (x2 : Int) (x3 : Int) : Option (OO) := qB (loopW (fun s => l_J7_fill_53178__57_5 x1 x3 s.1 s.2) (o, x2)) (fun r => b_J7_fill_53178__57_20 r)
noncomputable def s_J7_fill_53178__57 (o : OO) (x1 : Int) : Option (OO) := e_J7_fill_53178__57_5 o x1 0 64
set_option maxHeartbeats 4000000 in
set_option maxRecDepth 100000 in
theorem c_J7_fill_53178__57 (l : Launch) (g : GG) (ad : Nat → Nat) (o : OO) (x1 : Int) (v : OO) (h : s_J7_fill_53178__57 o x1 = some v) : CV l g yJ7_fill_53178 cJ7_fill_53178 4 0 0 (wC g ad o) [.ref (ad 57), iv x1] (wC g ad v) := by
  refine met_V (by decide) (Nat.le_of_ble_eq_true rfl) ?_
  intro X E hQ
  show Go X 0 (wC g ad o) [(0, .ref (ad 57)), (1, iv x1)] []
  have j20 : ∀ (o : OO), b_J7_fill_53178__57_20 o = some v → Go X 20 (wC g ad o) [] [] := by
    intro o h
    unfold b_J7_fill_53178__57_20 at h
    exact g_vret E hQ (by rw [← Option.some.inj h]) gdJ7_fill_53178_20
  have l5 : ∀ (x1 : Int) (x3 : Int) (r : (OO)) (s0 : OO × Int), loopW (fun s => l_J7_fill_53178__57_5 x1 x3 s.1 s.2) s0 = some r → (∀ (o : OO), r = (o) → Go X 20 (wC g ad o) [] []) → Go X 5 (wC g ad s0.1) [(0, .ref (ad 57)), (1, iv x1), (2, iv s0.2), (3, iv x3)] [] := by
    intro x1 x3 r s0 h k1
    refine loop_rule (Head := fun s0 => Go X 5 (wC g ad s0.1) [(0, .ref (ad 57)), (1, iv x1), (2, iv s0.2), (3, iv x3)] []) h ?_
    intro s v h kk kx
    obtain ⟨o, x2⟩ := s
    have h : l_J7_fill_53178__57_5 x1 x3 o x2 = some v := h
    have k0 : ∀ (o : OO) (x2 : Int), v = .inl (o, x2) → Go X 5 (wC g ad o) [(0, .ref (ad 57)), (1, iv x1), (2, iv x2), (3, iv x3)] [] := fun o x2 e => kk (o, x2) e
    have k1 : ∀ (o : OO), v = .inr (o) → Go X 20 (wC g ad o) [] [] := fun o e => k1 o (kx _ e).symm
    unfold l_J7_fill_53178__57_5 at h
    refine g_iload_n E gdJ7_fill_53178_5 rfl 2 rfl ?_
    refine g_iload_n E gdJ7_fill_53178_6 rfl 3 rfl ?_
    refine g_icmp_ge E 20 gdJ7_fill_53178_7 (by decide) h (fun h => ?_) (fun h => ?_)
    ·
      refine g_sub E [] rfl ?_
      exact k1 o (Option.some.inj h).symm
    ·
      refine g_aload_n E gdJ7_fill_53178_10 rfl 0 rfl ?_
      refine g_iload_n E gdJ7_fill_53178_11 rfl 2 rfl ?_
      refine g_iload_n E gdJ7_fill_53178_12 rfl 1 rfl ?_
      obtain ⟨hi1, h⟩ := qIn_of h
      obtain ⟨o2, e_o2, h⟩ := qNm_of h
      refine g_iast (ws' := wC g ad o2) E 57 (wC_57 g ad o) (by decide) hi1 (by rw [e_o2]; exact wC_s57 g ad o _ _) gdJ7_fill_53178_13 ?_
      refine g_iinc E [(2, iv (x2 + 1)), (0, .ref (ad 57)), (1, iv x1), (3, iv x3)] gdJ7_fill_53178_14 2 rfl (by decide) rfl ?_
      refine g_goto E 5 gdJ7_fill_53178_17 (by decide) ?_
      refine g_sub E [1, 2, 0, 3] rfl ?_
      exact k0 o2 (x2 + 1) (Option.some.inj h).symm
  have j5 : ∀ (o : OO) (x1 : Int) (x2 : Int) (x3 : Int), e_J7_fill_53178__57_5 o x1 x2 x3 = some v → Go X 5 (wC g ad o) [(0, .ref (ad 57)), (1, iv x1), (2, iv x2), (3, iv x3)] [] := by
    intro o x1 x2 x3 h
    unfold e_J7_fill_53178__57_5 at h
    obtain ⟨r, hr, h⟩ := qB_of h
    refine l5 x1 x3 r _ hr ?_
    ·
      intro u0 e
      have e := e.symm
      subst e
      have h : b_J7_fill_53178__57_20 u0 = some v := h
      exact j20 u0 h
  unfold s_J7_fill_53178__57 at h
  refine g_iconst E gdJ7_fill_53178_0 ?_
  refine g_istore_n E [(2, iv 0), (0, .ref (ad 57)), (1, iv x1)] gdJ7_fill_53178_1 rfl (by decide) rfl ?_
  refine g_aload_n E gdJ7_fill_53178_2 rfl 1 rfl ?_
  refine g_alen (N := 64) E 57 (wC_57 g ad o) gdJ7_fill_53178_3 ?_
  refine g_istore_n E [(3, iv 64), (2, iv 0), (0, .ref (ad 57)), (1, iv x1)] gdJ7_fill_53178_4 rfl (by decide) rfl ?_
  refine g_sub E [2, 3, 1, 0] rfl ?_
  exact j5 o x1 0 64 h
noncomputable def b_X3_beside_43 (y0 : Int) : Option (Int) := some y0
noncomputable def b_X3_beside_59 (y0 : Int) : Option (Int) := some y0
noncomputable def b_X3_beside_77 (y0 : Int) : Option (Int) := some y0
noncomputable def b_X3_beside_93 (y0 : Int) : Option (Int) := some y0
noncomputable def s_X3_beside (x0 : Int) (x1 : Int) : Option (Int) := qEq x1 0 (qLt x0 8 (b_X3_beside_43 (-9)) (b_X3_beside_43 (x0 - 8))) (qEq x1 1 (qDv x0 8 (qLt 0 (x0 - jq x0 8 * 8) (b_X3_beside_59 (x0 - 1)) (b_X3_beside_59 (-9)))) (qEq x1 2 (qDv x0 8 (qLt (x0 - jq x0 8 * 8) 7 (b_X3_beside_77 (x0 + 1)) (b_X3_beside_77 (-9)))) (qLt x0 56 (b_X3_beside_93 (x0 + 8)) (b_X3_beside_93 (-9)))))
set_option maxHeartbeats 4000000 in
set_option maxRecDepth 100000 in
theorem c_X3_beside (l : Launch) (g : GG) (ws : va_W) (x0 : Int) (x1 : Int) (v : Int) (h : s_X3_beside x0 x1 = some v) : CI l g yX3_beside cX3_beside 2 (some .int) 0 0 ws [iv x0, iv x1] v ws := by
  refine met_I (by decide) (Nat.le_of_ble_eq_true rfl) ?_
  intro X E hQ
  show Go X 0 ws [(0, iv x0), (1, iv x1)] []
  have j43 : ∀ (y0 : Int), b_X3_beside_43 y0 = some v → Go X 43 ws [] [iv y0] := by
    intro y0 h
    unfold b_X3_beside_43 at h
    exact g_iret E hQ (Option.some.inj h) rfl gdX3_beside_43
  have j59 : ∀ (y0 : Int), b_X3_beside_59 y0 = some v → Go X 59 ws [] [iv y0] := by
    intro y0 h
    unfold b_X3_beside_59 at h
    exact g_iret E hQ (Option.some.inj h) rfl gdX3_beside_59
  have j77 : ∀ (y0 : Int), b_X3_beside_77 y0 = some v → Go X 77 ws [] [iv y0] := by
    intro y0 h
    unfold b_X3_beside_77 at h
    exact g_iret E hQ (Option.some.inj h) rfl gdX3_beside_77
  have j93 : ∀ (y0 : Int), b_X3_beside_93 y0 = some v → Go X 93 ws [] [iv y0] := by
    intro y0 h
    unfold b_X3_beside_93 at h
    exact g_iret E hQ (Option.some.inj h) rfl gdX3_beside_93
  unfold s_X3_beside at h
  refine g_iload_n E gdX3_beside_0 rfl 1 rfl ?_
  obtain ⟨h1, -, ⟨hx, h⟩ | ⟨hx0, h⟩⟩ := qEq_of h
  ·
    refine g_tabIn (kx := 0) (off := 27) E 28 gdX3_beside_1 hx (by decide) (by decide) (by decide) (by decide) (by decide) ?_
    refine g_iload_n E gdX3_beside_28 rfl 0 rfl ?_
    refine g_bipush E gdX3_beside_29 (by decide) ?_
    refine g_icmp_lt E 41 gdX3_beside_31 (by decide) h (fun h => ?_) (fun h => ?_)
    ·
      refine g_bipush E gdX3_beside_41 (by decide) ?_
      refine g_sub E [] rfl ?_
      exact j43 (-9) h
    ·
      refine g_iload_n E gdX3_beside_34 rfl 0 rfl ?_
      refine g_bipush E gdX3_beside_35 (by decide) ?_
      refine g_isub E gdX3_beside_37 ?_
      refine g_goto E 43 gdX3_beside_38 (by decide) ?_
      refine g_sub E [] rfl ?_
      exact j43 (x0 - 8) h
  ·
    obtain ⟨h1, -, ⟨hx, h⟩ | ⟨hx1, h⟩⟩ := qEq_of h
    ·
      refine g_tabIn (kx := 1) (off := 43) E 44 gdX3_beside_1 hx (by decide) (by decide) (by decide) (by decide) (by decide) ?_
      refine g_iload_n E gdX3_beside_44 rfl 0 rfl ?_
      refine g_bipush E gdX3_beside_45 (by decide) ?_
      obtain ⟨hd1, h⟩ := qDv_of h
      refine g_irem E hd1 gdX3_beside_47 ?_
      refine g_if_le E 57 gdX3_beside_48 (by decide) h (fun h => ?_) (fun h => ?_)
      ·
        refine g_bipush E gdX3_beside_57 (by decide) ?_
        refine g_sub E [] rfl ?_
        exact j59 (-9) h
      ·
        refine g_iload_n E gdX3_beside_51 rfl 0 rfl ?_
        refine g_iconst E gdX3_beside_52 ?_
        refine g_isub E gdX3_beside_53 ?_
        refine g_goto E 59 gdX3_beside_54 (by decide) ?_
        refine g_sub E [] rfl ?_
        exact j59 (x0 - 1) h
    ·
      obtain ⟨h1, -, ⟨hx, h⟩ | ⟨hx2, h⟩⟩ := qEq_of h
      ·
        refine g_tabIn (kx := 2) (off := 59) E 60 gdX3_beside_1 hx (by decide) (by decide) (by decide) (by decide) (by decide) ?_
        refine g_iload_n E gdX3_beside_60 rfl 0 rfl ?_
        refine g_bipush E gdX3_beside_61 (by decide) ?_
        obtain ⟨hd2, h⟩ := qDv_of h
        refine g_irem E hd2 gdX3_beside_63 ?_
        refine g_bipush E gdX3_beside_64 (by decide) ?_
        refine g_icmp_ge E 75 gdX3_beside_66 (by decide) h (fun h => ?_) (fun h => ?_)
        ·
          refine g_bipush E gdX3_beside_75 (by decide) ?_
          refine g_sub E [] rfl ?_
          exact j77 (-9) h
        ·
          refine g_iload_n E gdX3_beside_69 rfl 0 rfl ?_
          refine g_iconst E gdX3_beside_70 ?_
          refine g_iadd E gdX3_beside_71 ?_
          refine g_goto E 77 gdX3_beside_72 (by decide) ?_
          refine g_sub E [] rfl ?_
          exact j77 (x0 + 1) h
      ·
        refine g_tabOut E 78 gdX3_beside_1 h1 (by omega) (by decide) ?_
        refine g_iload_n E gdX3_beside_78 rfl 0 rfl ?_
        refine g_bipush E gdX3_beside_79 (by decide) ?_
        refine g_icmp_ge E 91 gdX3_beside_81 (by decide) h (fun h => ?_) (fun h => ?_)
        ·
          refine g_bipush E gdX3_beside_91 (by decide) ?_
          refine g_sub E [] rfl ?_
          exact j93 (-9) h
        ·
          refine g_iload_n E gdX3_beside_84 rfl 0 rfl ?_
          refine g_bipush E gdX3_beside_85 (by decide) ?_
          refine g_iadd E gdX3_beside_87 ?_
          refine g_goto E 93 gdX3_beside_88 (by decide) ?_
          refine g_sub E [] rfl ?_
          exact j93 (x0 + 8) h
noncomputable def s_X3_slope (o : OO) (x1 : Int) (x2 : Int) : Option (Int) := qIn x1 64 (qNm (o.1 9 x1.toNat) (fun n2 => qIn x2 64 (qNm (o.1 9 x2.toNat) (fun n4 => qR (n2 - n4) (some (max (n2 - n4) (-(n2 - n4))))))))
set_option maxHeartbeats 4000000 in
set_option maxRecDepth 100000 in
theorem c_X3_slope (l : Launch) (g : GG) (ad : Nat → Nat) (o : OO) (x1 : Int) (x2 : Int) (v : Int) (h : s_X3_slope o x1 x2 = some v) : CI l g yX3_slope cX3_slope 3 (some .int) 1 21 (wC g ad o) [.ref (ad 7), iv x1, iv x2] v (wC g ad o) := by
  refine met_I (by decide) (Nat.le_of_ble_eq_true rfl) ?_
  intro X E hQ
  show Go X 0 (wC g ad o) [(0, .ref (ad 7)), (1, iv x1), (2, iv x2)] []
  unfold s_X3_slope at h
  refine g_aload_n E gdX3_slope_0 rfl 0 rfl ?_
  refine g_get (T := TX3) E fw_X3 7 (wC_7 g ad o) rfl 1 (by decide) w_147 rfl rfl gdX3_slope_1 ?_
  refine g_iload_n E gdX3_slope_4 rfl 1 rfl ?_
  obtain ⟨hi1, h⟩ := qIn_of h
  refine g_iald E 9 (wC_9 g ad o) (by decide) hi1 gdX3_slope_5 ?_
  obtain ⟨n2, e_n2, h⟩ := qNm_of h
  refine g_nmi e_n2 ?_
  refine g_aload_n E gdX3_slope_6 rfl 0 rfl ?_
  refine g_get (T := TX3) E fw_X3 7 (wC_7 g ad o) rfl 1 (by decide) w_147 rfl rfl gdX3_slope_7 ?_
  refine g_iload_n E gdX3_slope_10 rfl 2 rfl ?_
  obtain ⟨hi3, h⟩ := qIn_of h
  refine g_iald E 9 (wC_9 g ad o) (by decide) hi3 gdX3_slope_11 ?_
  obtain ⟨n4, e_n4, h⟩ := qNm_of h
  refine g_nmi e_n4 ?_
  refine g_isub E gdX3_slope_12 ?_
  obtain ⟨ha5, h⟩ := qR_of h
  refine g_mabs E ha5 w_835 w_836 w_91 w_837 (Nat.le_of_ble_eq_true rfl) (Nat.le_of_ble_eq_true rfl) gdX3_slope_13 ?_
  exact g_iret E hQ (Option.some.inj h) rfl gdX3_slope_16
noncomputable def b_X3_onward_34 (o : OO) : Option (Int) := some (-9)
noncomputable def s_X3_onward (o : OO) (x1 : Int) (x2 : Int) (x3 : Int) : Option (Int) := qB (s_X3_beside x1 x2) (fun r1 => qEq r1 (-9) (b_X3_onward_34 o) (qB (s_X3_isWater o r1) (fun r3 => qEq r3 0 (qB (s_X3_slope o x1 r1) (fun r5 => qLt x3 r5 (b_X3_onward_34 o) (some r1))) (b_X3_onward_34 o))))
set_option maxHeartbeats 4000000 in
set_option maxRecDepth 100000 in
theorem c_X3_onward (l : Launch) (g : GG) (ad : Nat → Nat) (o : OO) (x1 : Int) (x2 : Int) (x3 : Int) (v : Int) (h : s_X3_onward o x1 x2 x3 = some v) : CI l g yX3_onward cX3_onward 5 (some .int) 2 43 (wC g ad o) [.ref (ad 7), iv x1, iv x2, iv x3] v (wC g ad o) := by
  refine met_I (by decide) (Nat.le_of_ble_eq_true rfl) ?_
  intro X E hQ
  show Go X 0 (wC g ad o) [(0, .ref (ad 7)), (1, iv x1), (2, iv x2), (3, iv x3)] []
  have j34 : b_X3_onward_34 o = some v → Go X 34 (wC g ad o) [] [] := by
    intro h
    unfold b_X3_onward_34 at h
    refine g_bipush E gdX3_onward_34 (by decide) ?_
    exact g_iret E hQ (Option.some.inj h) rfl gdX3_onward_36
  unfold s_X3_onward at h
  refine g_iload_n E gdX3_onward_0 rfl 1 rfl ?_
  refine g_iload_n E gdX3_onward_1 rfl 2 rfl ?_
  obtain ⟨r1, hc2, h⟩ := qB_of h
  refine g_Si (r := r1) (As := [iv x1, iv x2]) (rest := []) (w := wC g ad o) E (c_X3_beside l g (wC g ad o) x1 x2 r1 hc2) okm_X3_beside w_828 w_827 rfl rfl (Nat.le_of_ble_eq_true rfl) ⟨Nat.le_of_ble_eq_true rfl, Nat.le_of_ble_eq_true rfl⟩ gdX3_onward_2 ?_
  refine g_istore E [(4, iv r1), (0, .ref (ad 7)), (1, iv x1), (2, iv x2), (3, iv x3)] gdX3_onward_5 (by decide) rfl ?_
  refine g_iload E gdX3_onward_7 0 rfl ?_
  refine g_bipush E gdX3_onward_9 (by decide) ?_
  refine g_icmp_eq E 34 gdX3_onward_11 (by decide) h (fun h => ?_) (fun h => ?_)
  ·
    refine g_sub E [] rfl ?_
    exact j34  h
  ·
    refine g_aload_n E gdX3_onward_14 rfl 1 rfl ?_
    refine g_iload E gdX3_onward_15 0 rfl ?_
    obtain ⟨r3, hc4, h⟩ := qB_of h
    refine g_Vi (r := r3) (As := [iv r1]) (rest := []) (w := wC g ad o) E (c_X3_isWater l g ad o r1 r3 hc4) okm_X3_isWater okw_X3_isWater w_830 rfl (wC_7 g ad o) rfl rfl (Nat.le_of_ble_eq_true rfl) ⟨Nat.le_of_ble_eq_true rfl, Nat.le_of_ble_eq_true rfl⟩ gdX3_onward_17 ?_
    refine g_if_ne E 34 gdX3_onward_20 (by decide) h (fun h => ?_) (fun h => ?_)
    ·
      refine g_sub E [] rfl ?_
      exact j34  h
    ·
      refine g_aload_n E gdX3_onward_23 rfl 1 rfl ?_
      refine g_iload_n E gdX3_onward_24 rfl 2 rfl ?_
      refine g_iload E gdX3_onward_25 0 rfl ?_
      obtain ⟨r5, hc6, h⟩ := qB_of h
      refine g_Vi (r := r5) (As := [iv x1, iv r1]) (rest := []) (w := wC g ad o) E (c_X3_slope l g ad o x1 r1 r5 hc6) okm_X3_slope okw_X3_slope w_831 rfl (wC_7 g ad o) rfl rfl (Nat.le_of_ble_eq_true rfl) ⟨Nat.le_of_ble_eq_true rfl, Nat.le_of_ble_eq_true rfl⟩ gdX3_onward_27 ?_
      refine g_iload_n E gdX3_onward_30 rfl 4 rfl ?_
      refine g_icmp_le E 37 gdX3_onward_31 (by decide) h (fun h => ?_) (fun h => ?_)
      ·
        refine g_iload E gdX3_onward_37 0 rfl ?_
        exact g_iret E hQ (Option.some.inj h) rfl gdX3_onward_39
      ·
        refine g_sub E [] rfl ?_
        exact j34  h
noncomputable def b_X10_rouseBeside_99 (o : OO) : Option (OO) := some o
noncomputable def b_X10_rouseBeside_93 (o : OO) (x2 : Int) (x3 : Int) (x4 : Int) : Option ((OO × Int) ⊕ ((OO))) := some (.inl (o, x4 + 1))
noncomputable def l_X10_rouseBeside_3 (x2 : Int) (x3 : Int) (o : OO) (x4 : Int) : Option ((OO × Int) ⊕ ((OO))) := qLt x4 4 (qB (s_X3_onward o x3 x4 x2) (fun r1 => qEq r1 (-9) (b_X10_rouseBeside_93 o x2 x3 x4) (qEq r1 (o.1 53 10) (b_X10_rouseBeside_93 o x2 x3 x4) (qB (s_X3_has (o.2 53 7) r1) (fun r3 => qEq r3 0 (qDv ((o.1 53 8) + (o.1 53 9)) 64 (qIn (((o.1 53 8) + (o.1 53 9)) - jq ((o.1 53 8) + (o.1 53 9)) 64 * 64) 64 (qNm (st1 o 58 ((((o.1 53 8) + (o.1 53 9)) - jq ((o.1 53 8) + (o.1 53 9)) 64 * 64).toNat) r1) (fun o7 => qNm (st1 o7 53 9 ((o7.1 53 9) + 1)) (fun o8 => qB (s_X3_bit r1) (fun p9 => qNm (st2 o8 53 7 ((o8.2 53 7) ||| p9)) (fun o11 => b_X10_rouseBeside_93 o11 x2 x3 x4))))))) (b_X10_rouseBeside_93 o x2 x3 x4)))))) (some (.inr (o)))
noncomputable def e_X10_rouseBeside_3 (o : OO) (x2 : Int) (x3 : Int) (x4 : Int) : Option (OO) := qB (loopW (fun s => l_X10_rouseBeside_3 x2 x3 s.1 s.2) (o, x4)) (fun r => b_X10_rouseBeside_99 r)
noncomputable def s_X10_rouseBeside (o : OO) (x2 : Int) (x3 : Int) : Option (OO) := e_X10_rouseBeside_3 o x2 x3 0
set_option maxHeartbeats 4000000 in
set_option maxRecDepth 100000 in
theorem c_X10_rouseBeside (l : Launch) (g : GG) (ad : Nat → Nat) (o : OO) (x2 : Int) (x3 : Int) (v : OO) (h : s_X10_rouseBeside o x2 x3 = some v) : CV l g yX10_rouseBeside cX10_rouseBeside 6 3 67 (wC g ad o) [.ref (ad 53), .ref (ad 7), iv x2, iv x3] (wC g ad v) := by
  refine met_V (by decide) (Nat.le_of_ble_eq_true rfl) ?_
  intro X E hQ
  show Go X 0 (wC g ad o) [(0, .ref (ad 53)), (1, .ref (ad 7)), (2, iv x2), (3, iv x3)] []
  have j99 : ∀ (o : OO), b_X10_rouseBeside_99 o = some v → Go X 99 (wC g ad o) [] [] := by
    intro o h
    unfold b_X10_rouseBeside_99 at h
    exact g_vret E hQ (by rw [← Option.some.inj h]) gdX10_rouseBeside_99
  have j93 : ∀ (o : OO) (x2 : Int) (x3 : Int) (x4 : Int) (v : (OO × Int) ⊕ ((OO))), b_X10_rouseBeside_93 o x2 x3 x4 = some v → (∀ (o : OO) (x4 : Int), v = .inl (o, x4) → Go X 3 (wC g ad o) [(0, .ref (ad 53)), (1, .ref (ad 7)), (2, iv x2), (3, iv x3), (4, iv x4)] []) → (∀ (o : OO), v = .inr (o) → Go X 99 (wC g ad o) [] []) → Go X 93 (wC g ad o) [(0, .ref (ad 53)), (1, .ref (ad 7)), (2, iv x2), (3, iv x3), (4, iv x4)] [] := by
    intro o x2 x3 x4 v h k0 k1
    unfold b_X10_rouseBeside_93 at h
    refine g_iinc E [(4, iv (x4 + 1)), (0, .ref (ad 53)), (1, .ref (ad 7)), (2, iv x2), (3, iv x3)] gdX10_rouseBeside_93 4 rfl (by decide) rfl ?_
    refine g_goto E 3 gdX10_rouseBeside_96 (by decide) ?_
    refine g_sub E [1, 2, 3, 4, 0] rfl ?_
    exact k0 o (x4 + 1) (Option.some.inj h).symm
  have l3 : ∀ (x2 : Int) (x3 : Int) (r : (OO)) (s0 : OO × Int), loopW (fun s => l_X10_rouseBeside_3 x2 x3 s.1 s.2) s0 = some r → (∀ (o : OO), r = (o) → Go X 99 (wC g ad o) [] []) → Go X 3 (wC g ad s0.1) [(0, .ref (ad 53)), (1, .ref (ad 7)), (2, iv x2), (3, iv x3), (4, iv s0.2)] [] := by
    intro x2 x3 r s0 h k1
    refine loop_rule (Head := fun s0 => Go X 3 (wC g ad s0.1) [(0, .ref (ad 53)), (1, .ref (ad 7)), (2, iv x2), (3, iv x3), (4, iv s0.2)] []) h ?_
    intro s v h kk kx
    obtain ⟨o, x4⟩ := s
    have h : l_X10_rouseBeside_3 x2 x3 o x4 = some v := h
    have k0 : ∀ (o : OO) (x4 : Int), v = .inl (o, x4) → Go X 3 (wC g ad o) [(0, .ref (ad 53)), (1, .ref (ad 7)), (2, iv x2), (3, iv x3), (4, iv x4)] [] := fun o x4 e => kk (o, x4) e
    have k1 : ∀ (o : OO), v = .inr (o) → Go X 99 (wC g ad o) [] [] := fun o e => k1 o (kx _ e).symm
    unfold l_X10_rouseBeside_3 at h
    refine g_iload E gdX10_rouseBeside_3 4 rfl ?_
    refine g_iconst E gdX10_rouseBeside_5 ?_
    refine g_icmp_ge E 99 gdX10_rouseBeside_6 (by decide) h (fun h => ?_) (fun h => ?_)
    ·
      refine g_sub E [] rfl ?_
      exact k1 o (Option.some.inj h).symm
    ·
      refine g_aload_n E gdX10_rouseBeside_9 rfl 1 rfl ?_
      refine g_iload_n E gdX10_rouseBeside_10 rfl 3 rfl ?_
      refine g_iload E gdX10_rouseBeside_11 4 rfl ?_
      refine g_iload_n E gdX10_rouseBeside_13 rfl 2 rfl ?_
      obtain ⟨r1, hc2, h⟩ := qB_of h
      refine g_Vi (r := r1) (As := [iv x3, iv x4, iv x2]) (rest := []) (w := wC g ad o) E (c_X3_onward l g ad o x3 x4 x2 r1 hc2) okm_X3_onward okw_X3_onward w_823 rfl (wC_7 g ad o) rfl rfl (Nat.le_of_ble_eq_true rfl) ⟨Nat.le_of_ble_eq_true rfl, Nat.le_of_ble_eq_true rfl⟩ gdX10_rouseBeside_14 ?_
      refine g_istore E [(5, iv r1), (0, .ref (ad 53)), (1, .ref (ad 7)), (2, iv x2), (3, iv x3), (4, iv x4)] gdX10_rouseBeside_17 (by decide) rfl ?_
      refine g_iload E gdX10_rouseBeside_19 0 rfl ?_
      refine g_bipush E gdX10_rouseBeside_21 (by decide) ?_
      refine g_icmp_eq E 93 gdX10_rouseBeside_23 (by decide) h (fun h => ?_) (fun h => ?_)
      ·
        refine g_sub E [1, 2, 3, 4, 5] rfl ?_
        exact j93 o x2 x3 x4 v h k0 k1
      ·
        refine g_iload E gdX10_rouseBeside_26 0 rfl ?_
        refine g_aload_n E gdX10_rouseBeside_28 rfl 1 rfl ?_
        refine g_get (T := TX10) E fw_X10 53 (wC_53 g ad o) rfl 10 (by decide) w_346 rfl rfl gdX10_rouseBeside_29 ?_
        refine g_icmp_eq E 93 gdX10_rouseBeside_32 (by decide) h (fun h => ?_) (fun h => ?_)
        ·
          refine g_sub E [1, 2, 3, 4, 5] rfl ?_
          exact j93 o x2 x3 x4 v h k0 k1
        ·
          refine g_aload_n E gdX10_rouseBeside_35 rfl 1 rfl ?_
          refine g_get (T := TX10) E fw_X10 53 (wC_53 g ad o) rfl 7 (by decide) w_343 rfl rfl gdX10_rouseBeside_36 ?_
          refine g_iload E gdX10_rouseBeside_39 0 rfl ?_
          obtain ⟨r3, hc4, h⟩ := qB_of h
          refine g_Si (r := r3) (As := [.long (o.2 53 7), iv r1]) (rest := []) (w := wC g ad o) E (c_X3_has l g (wC g ad o) (o.2 53 7) r1 r3 hc4) okm_X3_has w_839 w_838 rfl rfl (Nat.le_of_ble_eq_true rfl) ⟨Nat.le_of_ble_eq_true rfl, Nat.le_of_ble_eq_true rfl⟩ gdX10_rouseBeside_41 ?_
          refine g_if_eq E 50 gdX10_rouseBeside_44 (by decide) h (fun h => ?_) (fun h => ?_)
          ·
            refine g_aload_n E gdX10_rouseBeside_50 rfl 1 rfl ?_
            refine g_get (T := TX10) E fw_X10 53 (wC_53 g ad o) rfl 6 (by decide) w_342 rfl rfl gdX10_rouseBeside_51 ?_
            refine g_aload_n E gdX10_rouseBeside_54 rfl 1 rfl ?_
            refine g_get (T := TX10) E fw_X10 53 (wC_53 g ad o) rfl 8 (by decide) w_344 rfl rfl gdX10_rouseBeside_55 ?_
            refine g_aload_n E gdX10_rouseBeside_58 rfl 1 rfl ?_
            refine g_get (T := TX10) E fw_X10 53 (wC_53 g ad o) rfl 9 (by decide) w_345 rfl rfl gdX10_rouseBeside_59 ?_
            refine g_iadd E gdX10_rouseBeside_62 ?_
            refine g_bipush E gdX10_rouseBeside_63 (by decide) ?_
            obtain ⟨hd5, h⟩ := qDv_of h
            refine g_irem E hd5 gdX10_rouseBeside_65 ?_
            refine g_iload E gdX10_rouseBeside_66 0 rfl ?_
            obtain ⟨hi6, h⟩ := qIn_of h
            obtain ⟨o7, e_o7, h⟩ := qNm_of h
            refine g_iast (ws' := wC g ad o7) E 58 (wC_58 g ad o) (by decide) hi6 (by rw [e_o7]; exact wC_s58 g ad o _ _) gdX10_rouseBeside_68 ?_
            refine g_aload_n E gdX10_rouseBeside_69 rfl 1 rfl ?_
            refine g_dup E gdX10_rouseBeside_70 rfl ?_
            refine g_get (T := TX10) E fw_X10 53 (wC_53 g ad o7) rfl 9 (by decide) w_345 rfl rfl gdX10_rouseBeside_71 ?_
            refine g_iconst E gdX10_rouseBeside_74 ?_
            refine g_iadd E gdX10_rouseBeside_75 ?_
            obtain ⟨o8, e_o8, h⟩ := qNm_of h
            refine g_puti (T := TX10) (ws' := wC g ad o8) E fw_X10 tyX10 tyX10_ok nmX10 53 (wC_53 g ad o7) rfl 9 (by decide) w_345 rfl rfl (by decide +kernel) (Nat.le_of_ble_eq_true rfl) (by rw [e_o8]; exact wC_p53_9 g ad o7 _) gdX10_rouseBeside_76 ?_
            refine g_aload_n E gdX10_rouseBeside_79 rfl 1 rfl ?_
            refine g_dup E gdX10_rouseBeside_80 rfl ?_
            refine g_get (T := TX10) E fw_X10 53 (wC_53 g ad o8) rfl 7 (by decide) w_343 rfl rfl gdX10_rouseBeside_81 ?_
            refine g_iload E gdX10_rouseBeside_84 0 rfl ?_
            obtain ⟨p9, hc10, h⟩ := qB_of h
            refine g_Sl (r := p9) (As := [iv r1]) (rest := [.long (o8.2 53 7), .ref (ad 53)]) (w := wC g ad o8) E (c_X3_bit l g (wC g ad o8) r1 p9 hc10) okm_X3_bit w_842 w_841 rfl rfl (Nat.le_of_ble_eq_true rfl) ⟨Nat.le_of_ble_eq_true rfl, Nat.le_of_ble_eq_true rfl⟩ gdX10_rouseBeside_86 ?_
            refine g_lor E gdX10_rouseBeside_89 ?_
            obtain ⟨o11, e_o11, h⟩ := qNm_of h
            refine g_putl (T := TX10) (ws' := wC g ad o11) E fw_X10 tyX10 tyX10_ok nmX10 53 (wC_53 g ad o8) rfl 7 (by decide) w_343 rfl rfl (by decide +kernel) (Nat.le_of_ble_eq_true rfl) (by rw [e_o11]; exact wC_p53_7 g ad o8 _) gdX10_rouseBeside_90 ?_
            refine g_sub E [1, 2, 3, 4, 5] rfl ?_
            exact j93 o11 x2 x3 x4 v h k0 k1
          ·
            refine g_goto E 93 gdX10_rouseBeside_47 (by decide) ?_
            refine g_sub E [1, 2, 3, 4, 5] rfl ?_
            exact j93 o x2 x3 x4 v h k0 k1
  have j3 : ∀ (o : OO) (x2 : Int) (x3 : Int) (x4 : Int), e_X10_rouseBeside_3 o x2 x3 x4 = some v → Go X 3 (wC g ad o) [(0, .ref (ad 53)), (1, .ref (ad 7)), (2, iv x2), (3, iv x3), (4, iv x4)] [] := by
    intro o x2 x3 x4 h
    unfold e_X10_rouseBeside_3 at h
    obtain ⟨r, hr, h⟩ := qB_of h
    refine l3 x2 x3 r _ hr ?_
    ·
      intro u0 e
      have e := e.symm
      subst e
      have h : b_X10_rouseBeside_99 u0 = some v := h
      exact j99 u0 h
  unfold s_X10_rouseBeside at h
  refine g_iconst E gdX10_rouseBeside_0 ?_
  refine g_istore E [(4, iv 0), (0, .ref (ad 53)), (1, .ref (ad 7)), (2, iv x2), (3, iv x3)] gdX10_rouseBeside_1 (by decide) rfl ?_
  refine g_sub E [1, 2, 3, 4, 0] rfl ?_
  exact j3 o x2 x3 0 h
noncomputable def s_X10_next (o : OO) : Option (Int × OO) := qIn (o.1 53 8) 64 (qNm (o.1 58 (o.1 53 8).toNat) (fun n2 => qDv ((o.1 53 8) + 1) 64 (qNm (st1 o 53 8 (((o.1 53 8) + 1) - jq ((o.1 53 8) + 1) 64 * 64)) (fun o4 => qNm (st1 o4 53 9 ((o4.1 53 9) - 1)) (fun o5 => qB (s_X3_bit n2) (fun p6 => qNm (st2 o5 53 7 ((o5.2 53 7) &&& (p6 ^^^ (-1 : Int64)))) (fun o8 => some (n2, o8))))))))
set_option maxHeartbeats 4000000 in
set_option maxRecDepth 100000 in
theorem c_X10_next (l : Launch) (g : GG) (ad : Nat → Nat) (o : OO) (v : Int × OO) (h : s_X10_next o = some v) : CI l g yX10_next cX10_next 2 (some .int) 1 20 (wC g ad o) [.ref (ad 53)] v.1 (wC g ad v.2) := by
  refine met_I (by decide) (Nat.le_of_ble_eq_true rfl) ?_
  intro X E hQ
  show Go X 0 (wC g ad o) [(0, .ref (ad 53))] []
  unfold s_X10_next at h
  refine g_aload_n E gdX10_next_0 rfl 0 rfl ?_
  refine g_get (T := TX10) E fw_X10 53 (wC_53 g ad o) rfl 6 (by decide) w_342 rfl rfl gdX10_next_1 ?_
  refine g_aload_n E gdX10_next_4 rfl 0 rfl ?_
  refine g_get (T := TX10) E fw_X10 53 (wC_53 g ad o) rfl 8 (by decide) w_344 rfl rfl gdX10_next_5 ?_
  obtain ⟨hi1, h⟩ := qIn_of h
  refine g_iald E 58 (wC_58 g ad o) (by decide) hi1 gdX10_next_8 ?_
  obtain ⟨n2, e_n2, h⟩ := qNm_of h
  refine g_nmi e_n2 ?_
  refine g_istore_n E [(1, iv n2), (0, .ref (ad 53))] gdX10_next_9 rfl (by decide) rfl ?_
  refine g_aload_n E gdX10_next_10 rfl 1 rfl ?_
  refine g_aload_n E gdX10_next_11 rfl 1 rfl ?_
  refine g_get (T := TX10) E fw_X10 53 (wC_53 g ad o) rfl 8 (by decide) w_344 rfl rfl gdX10_next_12 ?_
  refine g_iconst E gdX10_next_15 ?_
  refine g_iadd E gdX10_next_16 ?_
  refine g_bipush E gdX10_next_17 (by decide) ?_
  obtain ⟨hd3, h⟩ := qDv_of h
  refine g_irem E hd3 gdX10_next_19 ?_
  obtain ⟨o4, e_o4, h⟩ := qNm_of h
  refine g_puti (T := TX10) (ws' := wC g ad o4) E fw_X10 tyX10 tyX10_ok nmX10 53 (wC_53 g ad o) rfl 8 (by decide) w_344 rfl rfl (by decide +kernel) (Nat.le_of_ble_eq_true rfl) (by rw [e_o4]; exact wC_p53_8 g ad o _) gdX10_next_20 ?_
  refine g_aload_n E gdX10_next_23 rfl 1 rfl ?_
  refine g_dup E gdX10_next_24 rfl ?_
  refine g_get (T := TX10) E fw_X10 53 (wC_53 g ad o4) rfl 9 (by decide) w_345 rfl rfl gdX10_next_25 ?_
  refine g_iconst E gdX10_next_28 ?_
  refine g_isub E gdX10_next_29 ?_
  obtain ⟨o5, e_o5, h⟩ := qNm_of h
  refine g_puti (T := TX10) (ws' := wC g ad o5) E fw_X10 tyX10 tyX10_ok nmX10 53 (wC_53 g ad o4) rfl 9 (by decide) w_345 rfl rfl (by decide +kernel) (Nat.le_of_ble_eq_true rfl) (by rw [e_o5]; exact wC_p53_9 g ad o4 _) gdX10_next_30 ?_
  refine g_aload_n E gdX10_next_33 rfl 1 rfl ?_
  refine g_dup E gdX10_next_34 rfl ?_
  refine g_get (T := TX10) E fw_X10 53 (wC_53 g ad o5) rfl 7 (by decide) w_343 rfl rfl gdX10_next_35 ?_
  refine g_iload_n E gdX10_next_38 rfl 0 rfl ?_
  obtain ⟨p6, hc7, h⟩ := qB_of h
  refine g_Sl (r := p6) (As := [iv n2]) (rest := [.long (o5.2 53 7), .ref (ad 53)]) (w := wC g ad o5) E (c_X3_bit l g (wC g ad o5) n2 p6 hc7) okm_X3_bit w_842 w_841 rfl rfl (Nat.le_of_ble_eq_true rfl) ⟨Nat.le_of_ble_eq_true rfl, Nat.le_of_ble_eq_true rfl⟩ gdX10_next_39 ?_
  refine g_ldc2 E gdX10_next_42 w_849 ?_
  refine g_lxor E gdX10_next_45 ?_
  refine g_land E gdX10_next_46 ?_
  obtain ⟨o8, e_o8, h⟩ := qNm_of h
  refine g_putl (T := TX10) (ws' := wC g ad o8) E fw_X10 tyX10 tyX10_ok nmX10 53 (wC_53 g ad o5) rfl 7 (by decide) w_343 rfl rfl (by decide +kernel) (Nat.le_of_ble_eq_true rfl) (by rw [e_o8]; exact wC_p53_7 g ad o5 _) gdX10_next_47 ?_
  refine g_iload_n E gdX10_next_50 rfl 0 rfl ?_
  exact g_iret E hQ (by rw [← Option.some.inj h]) (by rw [← Option.some.inj h]) gdX10_next_51
noncomputable def b_X10_rest_33 (o : OO) (y0 : Int) : Option (Int) := some y0
noncomputable def s_X10_rest (o : OO) (x1 : Int) (x2 : Int) : Option (Int) := qEq x1 (o.1 53 10) (b_X10_rest_33 o 0) (qIn ((x1 * 4) + x2) 256 (qNm (o.1 56 ((x1 * 4) + x2).toNat) (fun n2 => qIn x1 64 (qNm (o.1 57 x1.toNat) (fun n4 => qR n2 (qR (n4 + 5) (b_X10_rest_33 o (min n2 (n4 + 5)))))))))
set_option maxHeartbeats 4000000 in
set_option maxRecDepth 100000 in
theorem c_X10_rest (l : Launch) (g : GG) (ad : Nat → Nat) (o : OO) (x1 : Int) (x2 : Int) (v : Int) (h : s_X10_rest o x1 x2 = some v) : CI l g yX10_rest cX10_rest 3 (some .int) 1 21 (wC g ad o) [.ref (ad 53), iv x1, iv x2] v (wC g ad o) := by
  refine met_I (by decide) (Nat.le_of_ble_eq_true rfl) ?_
  intro X E hQ
  show Go X 0 (wC g ad o) [(0, .ref (ad 53)), (1, iv x1), (2, iv x2)] []
  have j33 : ∀ (y0 : Int), b_X10_rest_33 o y0 = some v → Go X 33 (wC g ad o) [] [iv y0] := by
    intro y0 h
    unfold b_X10_rest_33 at h
    exact g_iret E hQ (Option.some.inj h) rfl gdX10_rest_33
  unfold s_X10_rest at h
  refine g_iload_n E gdX10_rest_0 rfl 1 rfl ?_
  refine g_aload_n E gdX10_rest_1 rfl 0 rfl ?_
  refine g_get (T := TX10) E fw_X10 53 (wC_53 g ad o) rfl 10 (by decide) w_346 rfl rfl gdX10_rest_2 ?_
  refine g_icmp_ne E 12 gdX10_rest_5 (by decide) h (fun h => ?_) (fun h => ?_)
  ·
    refine g_aload_n E gdX10_rest_12 rfl 0 rfl ?_
    refine g_get (T := TX10) E fw_X10 53 (wC_53 g ad o) rfl 4 (by decide) w_340 rfl rfl gdX10_rest_13 ?_
    refine g_iload_n E gdX10_rest_16 rfl 1 rfl ?_
    refine g_iconst E gdX10_rest_17 ?_
    refine g_imul E gdX10_rest_18 ?_
    refine g_iload_n E gdX10_rest_19 rfl 2 rfl ?_
    refine g_iadd E gdX10_rest_20 ?_
    obtain ⟨hi1, h⟩ := qIn_of h
    refine g_iald E 56 (wC_56 g ad o) (by decide) hi1 gdX10_rest_21 ?_
    obtain ⟨n2, e_n2, h⟩ := qNm_of h
    refine g_nmi e_n2 ?_
    refine g_aload_n E gdX10_rest_22 rfl 0 rfl ?_
    refine g_get (T := TX10) E fw_X10 53 (wC_53 g ad o) rfl 5 (by decide) w_341 rfl rfl gdX10_rest_23 ?_
    refine g_iload_n E gdX10_rest_26 rfl 1 rfl ?_
    obtain ⟨hi3, h⟩ := qIn_of h
    refine g_iald E 57 (wC_57 g ad o) (by decide) hi3 gdX10_rest_27 ?_
    obtain ⟨n4, e_n4, h⟩ := qNm_of h
    refine g_nmi e_n4 ?_
    refine g_iconst E gdX10_rest_28 ?_
    refine g_iadd E gdX10_rest_29 ?_
    obtain ⟨ha5, h⟩ := qR_of h
    obtain ⟨ha6, h⟩ := qR_of h
    refine g_mmin E ha5 ha6 w_858 w_121 w_91 w_122 (Nat.le_of_ble_eq_true rfl) (Nat.le_of_ble_eq_true rfl) gdX10_rest_30 ?_
    refine g_sub E [] rfl ?_
    exact j33 (min n2 (n4 + 5)) h
  ·
    refine g_iconst E gdX10_rest_8 ?_
    refine g_goto E 33 gdX10_rest_9 (by decide) ?_
    refine g_sub E [] rfl ?_
    exact j33 0 h
noncomputable def b_X10_improve_132 (o : OO) (x4 : Int) : Option (Int × OO) := qZ x4 (some (x4, o))
noncomputable def b_X10_improve_126 (o : OO) (x2 : Int) (x3 : Int) (x4 : Int) (x5 : Int) : Option ((OO × Int × Int) ⊕ ((OO × Int))) := some (.inl (o, x4, x5 + 1))
noncomputable def l_X10_improve_6 (x2 : Int) (x3 : Int) (o : OO) (x4 : Int) (x5 : Int) : Option ((OO × Int × Int) ⊕ ((OO × Int))) := qLt x5 4 (qB (s_X3_onward o x3 x5 x2) (fun r1 => qEq r1 (-9) (b_X10_improve_126 o x2 x3 x4 x5) (qB (s_X10_rest o r1 x5) (fun r3 => qLt r3 1000000000 (qIn r1 64 (qNm (o.1 54 r1.toNat) (fun n6 => qB (s_X3_slope o x3 r1) (fun r7 => qB (s_X10_rest o r1 x5) (fun r9 => qNm ((n6 + (10 * r7)) + r9) (fun n11 => qIn ((x3 * 4) + x5) 256 (qNm (o.1 56 ((x3 * 4) + x5).toNat) (fun n13 => qLt n11 n13 (qIn ((x3 * 4) + x5) 256 (qNm (st1 o 56 (((x3 * 4) + x5).toNat) n11) (fun o15 => qIn x3 64 (qNm (o15.1 57 x3.toNat) (fun n17 => qR n17 (qR n11 (qIn x3 64 (qNm (st1 o15 57 x3.toNat (min n17 n11)) (fun o21 => b_X10_improve_126 o21 x2 x3 1 x5))))))))) (b_X10_improve_126 o x2 x3 x4 x5))))))))) (b_X10_improve_126 o x2 x3 x4 x5))))) (some (.inr ((o, x4))))
noncomputable def e_X10_improve_6 (o : OO) (x2 : Int) (x3 : Int) (x4 : Int) (x5 : Int) : Option (Int × OO) := qB (loopW (fun s => l_X10_improve_6 x2 x3 s.1 s.2.1 s.2.2) (o, x4, x5)) (fun r => b_X10_improve_132 r.1 r.2)
noncomputable def s_X10_improve (o : OO) (x2 : Int) (x3 : Int) : Option (Int × OO) := e_X10_improve_6 o x2 x3 0 0
set_option maxHeartbeats 4000000 in
set_option maxRecDepth 100000 in
theorem c_X10_improve (l : Launch) (g : GG) (ad : Nat → Nat) (o : OO) (x2 : Int) (x3 : Int) (v : Int × OO) (h : s_X10_improve o x2 x3 = some v) : CI l g yX10_improve cX10_improve 8 (some .boolean) 3 67 (wC g ad o) [.ref (ad 53), .ref (ad 7), iv x2, iv x3] v.1 (wC g ad v.2) := by
  refine met_I (by decide) (Nat.le_of_ble_eq_true rfl) ?_
  intro X E hQ
  show Go X 0 (wC g ad o) [(0, .ref (ad 53)), (1, .ref (ad 7)), (2, iv x2), (3, iv x3)] []
  have j132 : ∀ (o : OO) (x4 : Int), b_X10_improve_132 o x4 = some v → Go X 132 (wC g ad o) [(4, iv x4)] [] := by
    intro o x4 h
    unfold b_X10_improve_132 at h
    refine g_iload E gdX10_improve_132 0 rfl ?_
    obtain ⟨hz, h⟩ := qZ_of h
    exact g_zret E hQ hz (by rw [← Option.some.inj h]) (by rw [← Option.some.inj h]) gdX10_improve_134
  have j126 : ∀ (o : OO) (x2 : Int) (x3 : Int) (x4 : Int) (x5 : Int) (v : (OO × Int × Int) ⊕ ((OO × Int))), b_X10_improve_126 o x2 x3 x4 x5 = some v → (∀ (o : OO) (x4 : Int) (x5 : Int), v = .inl (o, x4, x5) → Go X 6 (wC g ad o) [(0, .ref (ad 53)), (1, .ref (ad 7)), (2, iv x2), (3, iv x3), (4, iv x4), (5, iv x5)] []) → (∀ (o : OO) (x4 : Int), v = .inr ((o, x4)) → Go X 132 (wC g ad o) [(4, iv x4)] []) → Go X 126 (wC g ad o) [(0, .ref (ad 53)), (1, .ref (ad 7)), (2, iv x2), (3, iv x3), (4, iv x4), (5, iv x5)] [] := by
    intro o x2 x3 x4 x5 v h k0 k1
    unfold b_X10_improve_126 at h
    refine g_iinc E [(5, iv (x5 + 1)), (0, .ref (ad 53)), (1, .ref (ad 7)), (2, iv x2), (3, iv x3), (4, iv x4)] gdX10_improve_126 5 rfl (by decide) rfl ?_
    refine g_goto E 6 gdX10_improve_129 (by decide) ?_
    refine g_sub E [1, 2, 3, 4, 5, 0] rfl ?_
    exact k0 o x4 (x5 + 1) (Option.some.inj h).symm
  have l6 : ∀ (x2 : Int) (x3 : Int) (r : (OO × Int)) (s0 : OO × Int × Int), loopW (fun s => l_X10_improve_6 x2 x3 s.1 s.2.1 s.2.2) s0 = some r → (∀ (o : OO) (x4 : Int), r = ((o, x4)) → Go X 132 (wC g ad o) [(4, iv x4)] []) → Go X 6 (wC g ad s0.1) [(0, .ref (ad 53)), (1, .ref (ad 7)), (2, iv x2), (3, iv x3), (4, iv s0.2.1), (5, iv s0.2.2)] [] := by
    intro x2 x3 r s0 h k1
    refine loop_rule (Head := fun s0 => Go X 6 (wC g ad s0.1) [(0, .ref (ad 53)), (1, .ref (ad 7)), (2, iv x2), (3, iv x3), (4, iv s0.2.1), (5, iv s0.2.2)] []) h ?_
    intro s v h kk kx
    obtain ⟨o, x4, x5⟩ := s
    have h : l_X10_improve_6 x2 x3 o x4 x5 = some v := h
    have k0 : ∀ (o : OO) (x4 : Int) (x5 : Int), v = .inl (o, x4, x5) → Go X 6 (wC g ad o) [(0, .ref (ad 53)), (1, .ref (ad 7)), (2, iv x2), (3, iv x3), (4, iv x4), (5, iv x5)] [] := fun o x4 x5 e => kk (o, x4, x5) e
    have k1 : ∀ (o : OO) (x4 : Int), v = .inr ((o, x4)) → Go X 132 (wC g ad o) [(4, iv x4)] [] := fun o x4 e => k1 o x4 (kx _ e).symm
    unfold l_X10_improve_6 at h
    refine g_iload E gdX10_improve_6 5 rfl ?_
    refine g_iconst E gdX10_improve_8 ?_
    refine g_icmp_ge E 132 gdX10_improve_9 (by decide) h (fun h => ?_) (fun h => ?_)
    ·
      refine g_sub E [4] rfl ?_
      exact k1 o x4 (Option.some.inj h).symm
    ·
      refine g_aload_n E gdX10_improve_12 rfl 1 rfl ?_
      refine g_iload_n E gdX10_improve_13 rfl 3 rfl ?_
      refine g_iload E gdX10_improve_14 5 rfl ?_
      refine g_iload_n E gdX10_improve_16 rfl 2 rfl ?_
      obtain ⟨r1, hc2, h⟩ := qB_of h
      refine g_Vi (r := r1) (As := [iv x3, iv x5, iv x2]) (rest := []) (w := wC g ad o) E (c_X3_onward l g ad o x3 x5 x2 r1 hc2) okm_X3_onward okw_X3_onward w_823 rfl (wC_7 g ad o) rfl rfl (Nat.le_of_ble_eq_true rfl) ⟨Nat.le_of_ble_eq_true rfl, Nat.le_of_ble_eq_true rfl⟩ gdX10_improve_17 ?_
      refine g_istore E [(6, iv r1), (0, .ref (ad 53)), (1, .ref (ad 7)), (2, iv x2), (3, iv x3), (4, iv x4), (5, iv x5)] gdX10_improve_20 (by decide) rfl ?_
      refine g_iload E gdX10_improve_22 0 rfl ?_
      refine g_bipush E gdX10_improve_24 (by decide) ?_
      refine g_icmp_eq E 126 gdX10_improve_26 (by decide) h (fun h => ?_) (fun h => ?_)
      ·
        refine g_sub E [1, 2, 3, 4, 5, 6] rfl ?_
        exact j126 o x2 x3 x4 x5 v h k0 k1
      ·
        refine g_aload_n E gdX10_improve_29 rfl 1 rfl ?_
        refine g_iload E gdX10_improve_30 0 rfl ?_
        refine g_iload E gdX10_improve_32 6 rfl ?_
        obtain ⟨r3, hc4, h⟩ := qB_of h
        refine g_Vi (r := r3) (As := [iv r1, iv x5]) (rest := []) (w := wC g ad o) E (c_X10_rest l g ad o r1 x5 r3 hc4) okm_X10_rest okw_X10_rest w_854 rfl (wC_53 g ad o) rfl rfl (Nat.le_of_ble_eq_true rfl) ⟨Nat.le_of_ble_eq_true rfl, Nat.le_of_ble_eq_true rfl⟩ gdX10_improve_34 ?_
        refine g_ldc (k := 1000000000) E gdX10_improve_37 w_817 (by decide) ?_
        refine g_icmp_lt E 45 gdX10_improve_39 (by decide) h (fun h => ?_) (fun h => ?_)
        ·
          refine g_aload_n E gdX10_improve_45 rfl 1 rfl ?_
          refine g_get (T := TX10) E fw_X10 53 (wC_53 g ad o) rfl 0 (by decide) w_332 rfl rfl gdX10_improve_46 ?_
          refine g_iload E gdX10_improve_49 0 rfl ?_
          obtain ⟨hi5, h⟩ := qIn_of h
          refine g_iald E 54 (wC_54 g ad o) (by decide) hi5 gdX10_improve_51 ?_
          obtain ⟨n6, e_n6, h⟩ := qNm_of h
          refine g_nmi e_n6 ?_
          refine g_bipush E gdX10_improve_52 (by decide) ?_
          refine g_aload_n E gdX10_improve_54 rfl 2 rfl ?_
          refine g_iload_n E gdX10_improve_55 rfl 4 rfl ?_
          refine g_iload E gdX10_improve_56 0 rfl ?_
          obtain ⟨r7, hc8, h⟩ := qB_of h
          refine g_Vi (r := r7) (As := [iv x3, iv r1]) (rest := [iv 10, iv n6]) (w := wC g ad o) E (c_X3_slope l g ad o x3 r1 r7 hc8) okm_X3_slope okw_X3_slope w_859 rfl (wC_7 g ad o) rfl rfl (Nat.le_of_ble_eq_true rfl) ⟨Nat.le_of_ble_eq_true rfl, Nat.le_of_ble_eq_true rfl⟩ gdX10_improve_58 ?_
          refine g_imul E gdX10_improve_61 ?_
          refine g_iadd E gdX10_improve_62 ?_
          refine g_aload_n E gdX10_improve_63 rfl 1 rfl ?_
          refine g_iload E gdX10_improve_64 0 rfl ?_
          refine g_iload E gdX10_improve_66 6 rfl ?_
          obtain ⟨r9, hc10, h⟩ := qB_of h
          refine g_Vi (r := r9) (As := [iv r1, iv x5]) (rest := [iv (n6 + (10 * r7))]) (w := wC g ad o) E (c_X10_rest l g ad o r1 x5 r9 hc10) okm_X10_rest okw_X10_rest w_854 rfl (wC_53 g ad o) rfl rfl (Nat.le_of_ble_eq_true rfl) ⟨Nat.le_of_ble_eq_true rfl, Nat.le_of_ble_eq_true rfl⟩ gdX10_improve_68 ?_
          refine g_iadd E gdX10_improve_71 ?_
          obtain ⟨n11, e_n11, h⟩ := qNm_of h
          refine g_nmi e_n11 ?_
          refine g_istore E [(7, iv n11), (6, iv r1), (0, .ref (ad 53)), (1, .ref (ad 7)), (2, iv x2), (3, iv x3), (4, iv x4), (5, iv x5)] gdX10_improve_72 (by decide) rfl ?_
          refine g_iload E gdX10_improve_74 0 rfl ?_
          refine g_aload_n E gdX10_improve_76 rfl 2 rfl ?_
          refine g_get (T := TX10) E fw_X10 53 (wC_53 g ad o) rfl 4 (by decide) w_340 rfl rfl gdX10_improve_77 ?_
          refine g_iload_n E gdX10_improve_80 rfl 5 rfl ?_
          refine g_iconst E gdX10_improve_81 ?_
          refine g_imul E gdX10_improve_82 ?_
          refine g_iload E gdX10_improve_83 7 rfl ?_
          refine g_iadd E gdX10_improve_85 ?_
          obtain ⟨hi12, h⟩ := qIn_of h
          refine g_iald E 56 (wC_56 g ad o) (by decide) hi12 gdX10_improve_86 ?_
          obtain ⟨n13, e_n13, h⟩ := qNm_of h
          refine g_nmi e_n13 ?_
          refine g_icmp_lt E 93 gdX10_improve_87 (by decide) h (fun h => ?_) (fun h => ?_)
          ·
            refine g_aload_n E gdX10_improve_93 rfl 2 rfl ?_
            refine g_get (T := TX10) E fw_X10 53 (wC_53 g ad o) rfl 4 (by decide) w_340 rfl rfl gdX10_improve_94 ?_
            refine g_iload_n E gdX10_improve_97 rfl 5 rfl ?_
            refine g_iconst E gdX10_improve_98 ?_
            refine g_imul E gdX10_improve_99 ?_
            refine g_iload E gdX10_improve_100 7 rfl ?_
            refine g_iadd E gdX10_improve_102 ?_
            refine g_iload E gdX10_improve_103 0 rfl ?_
            obtain ⟨hi14, h⟩ := qIn_of h
            obtain ⟨o15, e_o15, h⟩ := qNm_of h
            refine g_iast (ws' := wC g ad o15) E 56 (wC_56 g ad o) (by decide) hi14 (by rw [e_o15]; exact wC_s56 g ad o _ _) gdX10_improve_105 ?_
            refine g_aload_n E gdX10_improve_106 rfl 2 rfl ?_
            refine g_get (T := TX10) E fw_X10 53 (wC_53 g ad o15) rfl 5 (by decide) w_341 rfl rfl gdX10_improve_107 ?_
            refine g_iload_n E gdX10_improve_110 rfl 5 rfl ?_
            refine g_aload_n E gdX10_improve_111 rfl 2 rfl ?_
            refine g_get (T := TX10) E fw_X10 53 (wC_53 g ad o15) rfl 5 (by decide) w_341 rfl rfl gdX10_improve_112 ?_
            refine g_iload_n E gdX10_improve_115 rfl 5 rfl ?_
            obtain ⟨hi16, h⟩ := qIn_of h
            refine g_iald E 57 (wC_57 g ad o15) (by decide) hi16 gdX10_improve_116 ?_
            obtain ⟨n17, e_n17, h⟩ := qNm_of h
            refine g_nmi e_n17 ?_
            refine g_iload E gdX10_improve_117 0 rfl ?_
            obtain ⟨ha18, h⟩ := qR_of h
            obtain ⟨ha19, h⟩ := qR_of h
            refine g_mmin E ha18 ha19 w_858 w_121 w_91 w_122 (Nat.le_of_ble_eq_true rfl) (Nat.le_of_ble_eq_true rfl) gdX10_improve_119 ?_
            obtain ⟨hi20, h⟩ := qIn_of h
            obtain ⟨o21, e_o21, h⟩ := qNm_of h
            refine g_iast (ws' := wC g ad o21) E 57 (wC_57 g ad o15) (by decide) hi20 (by rw [e_o21]; exact wC_s57 g ad o15 _ _) gdX10_improve_122 ?_
            refine g_iconst E gdX10_improve_123 ?_
            refine g_istore E [(4, iv 1), (7, iv n11), (6, iv r1), (0, .ref (ad 53)), (1, .ref (ad 7)), (2, iv x2), (3, iv x3), (5, iv x5)] gdX10_improve_124 (by decide) rfl ?_
            refine g_sub E [3, 4, 5, 6, 0, 7] rfl ?_
            exact j126 o21 x2 x3 1 x5 v h k0 k1
          ·
            refine g_goto E 126 gdX10_improve_90 (by decide) ?_
            refine g_sub E [2, 3, 4, 5, 6, 7] rfl ?_
            exact j126 o x2 x3 x4 x5 v h k0 k1
        ·
          refine g_goto E 126 gdX10_improve_42 (by decide) ?_
          refine g_sub E [1, 2, 3, 4, 5, 6] rfl ?_
          exact j126 o x2 x3 x4 x5 v h k0 k1
  have j6 : ∀ (o : OO) (x2 : Int) (x3 : Int) (x4 : Int) (x5 : Int), e_X10_improve_6 o x2 x3 x4 x5 = some v → Go X 6 (wC g ad o) [(0, .ref (ad 53)), (1, .ref (ad 7)), (2, iv x2), (3, iv x3), (4, iv x4), (5, iv x5)] [] := by
    intro o x2 x3 x4 x5 h
    unfold e_X10_improve_6 at h
    obtain ⟨r, hr, h⟩ := qB_of h
    refine l6 x2 x3 r _ hr ?_
    ·
      intro u0 u1 e
      subst e
      have h : b_X10_improve_132 u0 u1 = some v := h
      exact j132 u0 u1 h
  unfold s_X10_improve at h
  refine g_iconst E gdX10_improve_0 ?_
  refine g_istore E [(4, iv 0), (0, .ref (ad 53)), (1, .ref (ad 7)), (2, iv x2), (3, iv x3)] gdX10_improve_1 (by decide) rfl ?_
  refine g_iconst E gdX10_improve_3 ?_
  refine g_istore E [(5, iv 0), (4, iv 0), (0, .ref (ad 53)), (1, .ref (ad 7)), (2, iv x2), (3, iv x3)] gdX10_improve_4 (by decide) rfl ?_
  refine g_sub E [2, 3, 4, 5, 1, 0] rfl ?_
  exact j6 o x2 x3 0 0 h
noncomputable def b_X10_firstOfLeast_68 (o : OO) (x4 : Int) : Option (Int) := some x4
noncomputable def b_X10_firstOfLeast_77 (o : OO) : Option (Int) := some (-9)
noncomputable def b_X10_firstOfLeast_48 (o : OO) (x1 : Int) (x2 : Int) (x3 : Int) (x4 : Int) (y0 : Int) : Option ((Int) ⊕ ((Int) ⊕ (Unit))) := qIn ((x1 * 4) + x4) 256 (qNm (o.1 56 ((x1 * 4) + x4).toNat) (fun n2 => qEq (n2 + y0) x3 (some (.inr (.inl x4))) (some (.inl (x4 + 1)))))
noncomputable def b_X10_firstOfLeast_43 (o : OO) (x1 : Int) (x2 : Int) (x3 : Int) (x4 : Int) : Option ((Int) ⊕ ((Int) ⊕ (Unit))) := b_X10_firstOfLeast_48 o x1 x2 x3 x4 0
noncomputable def l_X10_firstOfLeast_25 (o : OO) (x1 : Int) (x2 : Int) (x3 : Int) (x4 : Int) : Option ((Int) ⊕ ((Int) ⊕ (Unit))) := qLt x4 4 (qEq x2 (-9) (b_X10_firstOfLeast_43 o x1 x2 x3 x4) (qEq x2 x4 (b_X10_firstOfLeast_43 o x1 x2 x3 x4) (b_X10_firstOfLeast_48 o x1 x2 x3 x4 5))) (some (.inr (.inr ())))
noncomputable def e_X10_firstOfLeast_25 (o : OO) (x1 : Int) (x2 : Int) (x3 : Int) (x4 : Int) : Option (Int) := qB (loopW (fun s => l_X10_firstOfLeast_25 o x1 x2 x3 s) x4) (Sum.elim (fun r => b_X10_firstOfLeast_68 o r) (fun _ => b_X10_firstOfLeast_77 o))
noncomputable def b_X10_firstOfLeast_21 (o : OO) (x1 : Int) (x2 : Int) (y0 : Int) : Option (Int) := e_X10_firstOfLeast_25 o x1 x2 y0 0
noncomputable def s_X10_firstOfLeast (o : OO) (x1 : Int) (x2 : Int) : Option (Int) := qEq x2 (-9) (qIn x1 64 (qNm (o.1 57 x1.toNat) (fun n6 => b_X10_firstOfLeast_21 o x1 x2 n6))) (qB (s_X10_rest o x1 x2) (fun r3 => b_X10_firstOfLeast_21 o x1 x2 r3))
set_option maxHeartbeats 4000000 in
set_option maxRecDepth 100000 in
theorem c_X10_firstOfLeast (l : Launch) (g : GG) (ad : Nat → Nat) (o : OO) (x1 : Int) (x2 : Int) (v : Int) (h : s_X10_firstOfLeast o x1 x2 = some v) : CI l g yX10_firstOfLeast cX10_firstOfLeast 6 (some .int) 2 43 (wC g ad o) [.ref (ad 53), iv x1, iv x2] v (wC g ad o) := by
  refine met_I (by decide) (Nat.le_of_ble_eq_true rfl) ?_
  intro X E hQ
  show Go X 0 (wC g ad o) [(0, .ref (ad 53)), (1, iv x1), (2, iv x2)] []
  have j68 : ∀ (x4 : Int), b_X10_firstOfLeast_68 o x4 = some v → Go X 68 (wC g ad o) [(4, iv x4)] [] := by
    intro x4 h
    unfold b_X10_firstOfLeast_68 at h
    refine g_iload E gdX10_firstOfLeast_68 0 rfl ?_
    exact g_iret E hQ (Option.some.inj h) rfl gdX10_firstOfLeast_70
  have j77 : b_X10_firstOfLeast_77 o = some v → Go X 77 (wC g ad o) [] [] := by
    intro h
    unfold b_X10_firstOfLeast_77 at h
    refine g_bipush E gdX10_firstOfLeast_77 (by decide) ?_
    exact g_iret E hQ (Option.some.inj h) rfl gdX10_firstOfLeast_79
  have j48 : ∀ (x1 : Int) (x2 : Int) (x3 : Int) (x4 : Int) (y0 : Int) (v : (Int) ⊕ ((Int) ⊕ (Unit))), b_X10_firstOfLeast_48 o x1 x2 x3 x4 y0 = some v → (∀ (x4 : Int), v = .inl x4 → Go X 25 (wC g ad o) [(0, .ref (ad 53)), (1, iv x1), (2, iv x2), (3, iv x3), (4, iv x4)] []) → (∀ (x4 : Int), v = .inr (.inl x4) → Go X 68 (wC g ad o) [(4, iv x4)] []) → (v = .inr (.inr ()) → Go X 77 (wC g ad o) [] []) → Go X 48 (wC g ad o) [(0, .ref (ad 53)), (1, iv x1), (2, iv x2), (3, iv x3), (4, iv x4)] [iv y0] := by
    intro x1 x2 x3 x4 y0 v h k0 k1 k2
    unfold b_X10_firstOfLeast_48 at h
    refine g_istore E [(5, iv y0), (0, .ref (ad 53)), (1, iv x1), (2, iv x2), (3, iv x3), (4, iv x4)] gdX10_firstOfLeast_48 (by decide) rfl ?_
    refine g_aload_n E gdX10_firstOfLeast_50 rfl 1 rfl ?_
    refine g_get (T := TX10) E fw_X10 53 (wC_53 g ad o) rfl 4 (by decide) w_340 rfl rfl gdX10_firstOfLeast_51 ?_
    refine g_iload_n E gdX10_firstOfLeast_54 rfl 2 rfl ?_
    refine g_iconst E gdX10_firstOfLeast_55 ?_
    refine g_imul E gdX10_firstOfLeast_56 ?_
    refine g_iload E gdX10_firstOfLeast_57 5 rfl ?_
    refine g_iadd E gdX10_firstOfLeast_59 ?_
    obtain ⟨hi1, h⟩ := qIn_of h
    refine g_iald E 56 (wC_56 g ad o) (by decide) hi1 gdX10_firstOfLeast_60 ?_
    obtain ⟨n2, e_n2, h⟩ := qNm_of h
    refine g_nmi e_n2 ?_
    refine g_iload E gdX10_firstOfLeast_61 0 rfl ?_
    refine g_iadd E gdX10_firstOfLeast_63 ?_
    refine g_iload_n E gdX10_firstOfLeast_64 rfl 4 rfl ?_
    refine g_icmp_ne E 71 gdX10_firstOfLeast_65 (by decide) h (fun h => ?_) (fun h => ?_)
    ·
      refine g_iinc E [(4, iv (x4 + 1)), (5, iv y0), (0, .ref (ad 53)), (1, iv x1), (2, iv x2), (3, iv x3)] gdX10_firstOfLeast_71 5 rfl (by decide) rfl ?_
      refine g_goto E 25 gdX10_firstOfLeast_74 (by decide) ?_
      refine g_sub E [2, 3, 4, 5, 0] rfl ?_
      exact k0 (x4 + 1) (Option.some.inj h).symm
    ·
      refine g_sub E [5] rfl ?_
      exact k1 x4 (Option.some.inj h).symm
  have j43 : ∀ (x1 : Int) (x2 : Int) (x3 : Int) (x4 : Int) (v : (Int) ⊕ ((Int) ⊕ (Unit))), b_X10_firstOfLeast_43 o x1 x2 x3 x4 = some v → (∀ (x4 : Int), v = .inl x4 → Go X 25 (wC g ad o) [(0, .ref (ad 53)), (1, iv x1), (2, iv x2), (3, iv x3), (4, iv x4)] []) → (∀ (x4 : Int), v = .inr (.inl x4) → Go X 68 (wC g ad o) [(4, iv x4)] []) → (v = .inr (.inr ()) → Go X 77 (wC g ad o) [] []) → Go X 43 (wC g ad o) [(0, .ref (ad 53)), (1, iv x1), (2, iv x2), (3, iv x3), (4, iv x4)] [] := by
    intro x1 x2 x3 x4 v h k0 k1 k2
    unfold b_X10_firstOfLeast_43 at h
    refine g_iconst E gdX10_firstOfLeast_43 ?_
    refine g_goto E 48 gdX10_firstOfLeast_44 (by decide) ?_
    exact j48 x1 x2 x3 x4 0 v h k0 k1 k2
  have l25 : ∀ (x1 : Int) (x2 : Int) (x3 : Int) (r : (Int) ⊕ (Unit)) (s0 : Int), loopW (fun s => l_X10_firstOfLeast_25 o x1 x2 x3 s) s0 = some r → (∀ (x4 : Int), r = (.inl x4) → Go X 68 (wC g ad o) [(4, iv x4)] []) → (r = (.inr ()) → Go X 77 (wC g ad o) [] []) → Go X 25 (wC g ad o) [(0, .ref (ad 53)), (1, iv x1), (2, iv x2), (3, iv x3), (4, iv s0)] [] := by
    intro x1 x2 x3 r s0 h k1 k2
    refine loop_rule (Head := fun s0 => Go X 25 (wC g ad o) [(0, .ref (ad 53)), (1, iv x1), (2, iv x2), (3, iv x3), (4, iv s0)] []) h ?_
    intro s v h kk kx
    obtain ⟨x4, hs⟩ : ∃ q, q = s := ⟨_, rfl⟩
    subst hs
    have h : l_X10_firstOfLeast_25 o x1 x2 x3 x4 = some v := h
    have k0 : ∀ (x4 : Int), v = .inl x4 → Go X 25 (wC g ad o) [(0, .ref (ad 53)), (1, iv x1), (2, iv x2), (3, iv x3), (4, iv x4)] [] := fun x4 e => kk x4 e
    have k1 : ∀ (x4 : Int), v = .inr (.inl x4) → Go X 68 (wC g ad o) [(4, iv x4)] [] := fun x4 e => k1 x4 (kx _ e).symm
    have k2 : v = .inr (.inr ()) → Go X 77 (wC g ad o) [] [] := fun e => k2 (kx _ e).symm
    unfold l_X10_firstOfLeast_25 at h
    refine g_iload E gdX10_firstOfLeast_25 4 rfl ?_
    refine g_iconst E gdX10_firstOfLeast_27 ?_
    refine g_icmp_ge E 77 gdX10_firstOfLeast_28 (by decide) h (fun h => ?_) (fun h => ?_)
    ·
      refine g_sub E [] rfl ?_
      exact k2  (Option.some.inj h).symm
    ·
      refine g_iload_n E gdX10_firstOfLeast_31 rfl 2 rfl ?_
      refine g_bipush E gdX10_firstOfLeast_32 (by decide) ?_
      refine g_icmp_eq E 43 gdX10_firstOfLeast_34 (by decide) h (fun h => ?_) (fun h => ?_)
      ·
        exact j43 x1 x2 x3 x4 v h k0 k1 k2
      ·
        refine g_iload_n E gdX10_firstOfLeast_37 rfl 2 rfl ?_
        refine g_iload E gdX10_firstOfLeast_38 4 rfl ?_
        refine g_icmp_ne E 47 gdX10_firstOfLeast_40 (by decide) h (fun h => ?_) (fun h => ?_)
        ·
          refine g_iconst E gdX10_firstOfLeast_47 ?_
          exact j48 x1 x2 x3 x4 5 v h k0 k1 k2
        ·
          exact j43 x1 x2 x3 x4 v h k0 k1 k2
  have j25 : ∀ (x1 : Int) (x2 : Int) (x3 : Int) (x4 : Int), e_X10_firstOfLeast_25 o x1 x2 x3 x4 = some v → Go X 25 (wC g ad o) [(0, .ref (ad 53)), (1, iv x1), (2, iv x2), (3, iv x3), (4, iv x4)] [] := by
    intro x1 x2 x3 x4 h
    unfold e_X10_firstOfLeast_25 at h
    obtain ⟨r, hr, h⟩ := qB_of h
    refine l25 x1 x2 x3 r _ hr ?_ ?_
    ·
      intro u0 e
      subst e
      have h : b_X10_firstOfLeast_68 o u0 = some v := h
      exact j68 u0 h
    ·
      intro e
      subst e
      have h : b_X10_firstOfLeast_77 o = some v := h
      exact j77  h
  have j21 : ∀ (x1 : Int) (x2 : Int) (y0 : Int), b_X10_firstOfLeast_21 o x1 x2 y0 = some v → Go X 21 (wC g ad o) [(0, .ref (ad 53)), (1, iv x1), (2, iv x2)] [iv y0] := by
    intro x1 x2 y0 h
    unfold b_X10_firstOfLeast_21 at h
    refine g_istore_n E [(3, iv y0), (0, .ref (ad 53)), (1, iv x1), (2, iv x2)] gdX10_firstOfLeast_21 rfl (by decide) rfl ?_
    refine g_iconst E gdX10_firstOfLeast_22 ?_
    refine g_istore E [(4, iv 0), (3, iv y0), (0, .ref (ad 53)), (1, iv x1), (2, iv x2)] gdX10_firstOfLeast_23 (by decide) rfl ?_
    refine g_sub E [2, 3, 4, 1, 0] rfl ?_
    exact j25 x1 x2 y0 0 h
  unfold s_X10_firstOfLeast at h
  refine g_iload_n E gdX10_firstOfLeast_0 rfl 2 rfl ?_
  refine g_bipush E gdX10_firstOfLeast_1 (by decide) ?_
  refine g_icmp_ne E 15 gdX10_firstOfLeast_3 (by decide) h (fun h => ?_) (fun h => ?_)
  ·
    refine g_aload_n E gdX10_firstOfLeast_15 rfl 0 rfl ?_
    refine g_iload_n E gdX10_firstOfLeast_16 rfl 1 rfl ?_
    refine g_iload_n E gdX10_firstOfLeast_17 rfl 2 rfl ?_
    obtain ⟨r3, hc4, h⟩ := qB_of h
    refine g_Vi (r := r3) (As := [iv x1, iv x2]) (rest := []) (w := wC g ad o) E (c_X10_rest l g ad o x1 x2 r3 hc4) okm_X10_rest okw_X10_rest w_854 rfl (wC_53 g ad o) rfl rfl (Nat.le_of_ble_eq_true rfl) ⟨Nat.le_of_ble_eq_true rfl, Nat.le_of_ble_eq_true rfl⟩ gdX10_firstOfLeast_18 ?_
    exact j21 x1 x2 r3 h
  ·
    refine g_aload_n E gdX10_firstOfLeast_6 rfl 0 rfl ?_
    refine g_get (T := TX10) E fw_X10 53 (wC_53 g ad o) rfl 5 (by decide) w_341 rfl rfl gdX10_firstOfLeast_7 ?_
    refine g_iload_n E gdX10_firstOfLeast_10 rfl 1 rfl ?_
    obtain ⟨hi5, h⟩ := qIn_of h
    refine g_iald E 57 (wC_57 g ad o) (by decide) hi5 gdX10_firstOfLeast_11 ?_
    obtain ⟨n6, e_n6, h⟩ := qNm_of h
    refine g_nmi e_n6 ?_
    refine g_goto E 21 gdX10_firstOfLeast_12 (by decide) ?_
    exact j21 x1 x2 n6 h
noncomputable def b_X10_trace_57 (o : OO) : Option (OO) := some o
noncomputable def b_X10_trace_87 (o : OO) : Option (OO) := some o
noncomputable def l_X10_trace_17 (o : OO) (x2 : Int) (x3 : Int) : Option ((OO × Int × Int) ⊕ ((OO) ⊕ (OO))) := qEq x2 (o.1 53 10) (some (.inr (.inr o))) (qLt (o.1 53 2) 64 (qB (s_X10_firstOfLeast o x2 x3) (fun r1 => qEq r1 (-9) (some (.inr (.inl o))) (qB (s_X3_beside x2 r1) (fun r3 => qEq r3 (-9) (some (.inr (.inl o))) (qB (s_X3_beside x2 r1) (fun r5 => qIn (o.1 53 2) 64 (qNm (st1 o 55 ((o.1 53 2).toNat) r5) (fun o8 => qNm (st1 o8 53 2 ((o8.1 53 2) + 1)) (fun o9 => some (.inl (o9, r5, r1))))))))))) (some (.inr (.inr o))))
noncomputable def e_X10_trace_17 (o : OO) (x2 : Int) (x3 : Int) : Option (OO) := qB (loopW (fun s => l_X10_trace_17 s.1 s.2.1 s.2.2) (o, x2, x3)) (Sum.elim (fun r => b_X10_trace_57 r) (fun r => b_X10_trace_87 r))
noncomputable def s_X10_trace (o : OO) (x1 : Int) : Option (OO) := qNm (st1 o 55 ((0 : Int).toNat) x1) (fun o10 => qNm (st1 o10 53 2 1) (fun o11 => e_X10_trace_17 o11 x1 (-9)))
set_option maxHeartbeats 4000000 in
set_option maxRecDepth 100000 in
theorem c_X10_trace (l : Launch) (g : GG) (ad : Nat → Nat) (o : OO) (x1 : Int) (v : OO) (h : s_X10_trace o x1 = some v) : CV l g yX10_trace cX10_trace 4 3 68 (wC g ad o) [.ref (ad 53), iv x1] (wC g ad v) := by
  refine met_V (by decide) (Nat.le_of_ble_eq_true rfl) ?_
  intro X E hQ
  show Go X 0 (wC g ad o) [(0, .ref (ad 53)), (1, iv x1)] []
  have j57 : ∀ (o : OO), b_X10_trace_57 o = some v → Go X 57 (wC g ad o) [] [] := by
    intro o h
    unfold b_X10_trace_57 at h
    exact g_vret E hQ (by rw [← Option.some.inj h]) gdX10_trace_57
  have j87 : ∀ (o : OO), b_X10_trace_87 o = some v → Go X 87 (wC g ad o) [] [] := by
    intro o h
    unfold b_X10_trace_87 at h
    exact g_vret E hQ (by rw [← Option.some.inj h]) gdX10_trace_87
  have l17 : ∀  (r : (OO) ⊕ (OO)) (s0 : OO × Int × Int), loopW (fun s => l_X10_trace_17 s.1 s.2.1 s.2.2) s0 = some r → (∀ (o : OO), r = (.inl o) → Go X 57 (wC g ad o) [] []) → (∀ (o : OO), r = (.inr o) → Go X 87 (wC g ad o) [] []) → Go X 17 (wC g ad s0.1) [(0, .ref (ad 53)), (2, iv s0.2.1), (3, iv s0.2.2)] [] := by
    intro r s0 h k1 k2
    refine loop_rule (Head := fun s0 => Go X 17 (wC g ad s0.1) [(0, .ref (ad 53)), (2, iv s0.2.1), (3, iv s0.2.2)] []) h ?_
    intro s v h kk kx
    obtain ⟨o, x2, x3⟩ := s
    have h : l_X10_trace_17 o x2 x3 = some v := h
    have k0 : ∀ (o : OO) (x2 : Int) (x3 : Int), v = .inl (o, x2, x3) → Go X 17 (wC g ad o) [(0, .ref (ad 53)), (2, iv x2), (3, iv x3)] [] := fun o x2 x3 e => kk (o, x2, x3) e
    have k1 : ∀ (o : OO), v = .inr (.inl o) → Go X 57 (wC g ad o) [] [] := fun o e => k1 o (kx _ e).symm
    have k2 : ∀ (o : OO), v = .inr (.inr o) → Go X 87 (wC g ad o) [] [] := fun o e => k2 o (kx _ e).symm
    unfold l_X10_trace_17 at h
    refine g_iload_n E gdX10_trace_17 rfl 1 rfl ?_
    refine g_aload_n E gdX10_trace_18 rfl 0 rfl ?_
    refine g_get (T := TX10) E fw_X10 53 (wC_53 g ad o) rfl 10 (by decide) w_346 rfl rfl gdX10_trace_19 ?_
    refine g_icmp_eq E 87 gdX10_trace_22 (by decide) h (fun h => ?_) (fun h => ?_)
    ·
      refine g_sub E [] rfl ?_
      exact k2 o (Option.some.inj h).symm
    ·
      refine g_aload_n E gdX10_trace_25 rfl 0 rfl ?_
      refine g_get (T := TX10) E fw_X10 53 (wC_53 g ad o) rfl 2 (by decide) w_336 rfl rfl gdX10_trace_26 ?_
      refine g_bipush E gdX10_trace_29 (by decide) ?_
      refine g_icmp_ge E 87 gdX10_trace_31 (by decide) h (fun h => ?_) (fun h => ?_)
      ·
        refine g_sub E [] rfl ?_
        exact k2 o (Option.some.inj h).symm
      ·
        refine g_aload_n E gdX10_trace_34 rfl 0 rfl ?_
        refine g_iload_n E gdX10_trace_35 rfl 1 rfl ?_
        refine g_iload_n E gdX10_trace_36 rfl 2 rfl ?_
        obtain ⟨r1, hc2, h⟩ := qB_of h
        refine g_Vi (r := r1) (As := [iv x2, iv x3]) (rest := []) (w := wC g ad o) E (c_X10_firstOfLeast l g ad o x2 x3 r1 hc2) okm_X10_firstOfLeast okw_X10_firstOfLeast w_864 rfl (wC_53 g ad o) rfl rfl (Nat.le_of_ble_eq_true rfl) ⟨Nat.le_of_ble_eq_true rfl, Nat.le_of_ble_eq_true rfl⟩ gdX10_trace_37 ?_
        refine g_istore_n E [(3, iv r1), (0, .ref (ad 53)), (2, iv x2)] gdX10_trace_40 rfl (by decide) rfl ?_
        refine g_iload_n E gdX10_trace_41 rfl 0 rfl ?_
        refine g_bipush E gdX10_trace_42 (by decide) ?_
        refine g_icmp_eq E 57 gdX10_trace_44 (by decide) h (fun h => ?_) (fun h => ?_)
        ·
          refine g_sub E [] rfl ?_
          exact k1 o (Option.some.inj h).symm
        ·
          refine g_iload_n E gdX10_trace_47 rfl 2 rfl ?_
          refine g_iload_n E gdX10_trace_48 rfl 0 rfl ?_
          obtain ⟨r3, hc4, h⟩ := qB_of h
          refine g_Si (r := r3) (As := [iv x2, iv r1]) (rest := []) (w := wC g ad o) E (c_X3_beside l g (wC g ad o) x2 r1 r3 hc4) okm_X3_beside w_828 w_868 rfl rfl (Nat.le_of_ble_eq_true rfl) ⟨Nat.le_of_ble_eq_true rfl, Nat.le_of_ble_eq_true rfl⟩ gdX10_trace_49 ?_
          refine g_bipush E gdX10_trace_52 (by decide) ?_
          refine g_icmp_ne E 58 gdX10_trace_54 (by decide) h (fun h => ?_) (fun h => ?_)
          ·
            refine g_iload_n E gdX10_trace_58 rfl 2 rfl ?_
            refine g_iload_n E gdX10_trace_59 rfl 0 rfl ?_
            obtain ⟨r5, hc6, h⟩ := qB_of h
            refine g_Si (r := r5) (As := [iv x2, iv r1]) (rest := []) (w := wC g ad o) E (c_X3_beside l g (wC g ad o) x2 r1 r5 hc6) okm_X3_beside w_828 w_868 rfl rfl (Nat.le_of_ble_eq_true rfl) ⟨Nat.le_of_ble_eq_true rfl, Nat.le_of_ble_eq_true rfl⟩ gdX10_trace_60 ?_
            refine g_istore_n E [(2, iv r5), (3, iv r1), (0, .ref (ad 53))] gdX10_trace_63 rfl (by decide) rfl ?_
            refine g_aload_n E gdX10_trace_64 rfl 2 rfl ?_
            refine g_get (T := TX10) E fw_X10 53 (wC_53 g ad o) rfl 1 (by decide) w_334 rfl rfl gdX10_trace_65 ?_
            refine g_aload_n E gdX10_trace_68 rfl 2 rfl ?_
            refine g_get (T := TX10) E fw_X10 53 (wC_53 g ad o) rfl 2 (by decide) w_336 rfl rfl gdX10_trace_69 ?_
            refine g_iload_n E gdX10_trace_72 rfl 0 rfl ?_
            obtain ⟨hi7, h⟩ := qIn_of h
            obtain ⟨o8, e_o8, h⟩ := qNm_of h
            refine g_iast (ws' := wC g ad o8) E 55 (wC_55 g ad o) (by decide) hi7 (by rw [e_o8]; exact wC_s55 g ad o _ _) gdX10_trace_73 ?_
            refine g_aload_n E gdX10_trace_74 rfl 2 rfl ?_
            refine g_dup E gdX10_trace_75 rfl ?_
            refine g_get (T := TX10) E fw_X10 53 (wC_53 g ad o8) rfl 2 (by decide) w_336 rfl rfl gdX10_trace_76 ?_
            refine g_iconst E gdX10_trace_79 ?_
            refine g_iadd E gdX10_trace_80 ?_
            obtain ⟨o9, e_o9, h⟩ := qNm_of h
            refine g_puti (T := TX10) (ws' := wC g ad o9) E fw_X10 tyX10 tyX10_ok nmX10 53 (wC_53 g ad o8) rfl 2 (by decide) w_336 rfl rfl (by decide +kernel) (Nat.le_of_ble_eq_true rfl) (by rw [e_o9]; exact wC_p53_2 g ad o8 _) gdX10_trace_81 ?_
            refine g_goto E 17 gdX10_trace_84 (by decide) ?_
            refine g_sub E [2, 0, 1] rfl ?_
            exact k0 o9 r5 r1 (Option.some.inj h).symm
          ·
            refine g_sub E [] rfl ?_
            exact k1 o (Option.some.inj h).symm
  have j17 : ∀ (o : OO) (x2 : Int) (x3 : Int), e_X10_trace_17 o x2 x3 = some v → Go X 17 (wC g ad o) [(0, .ref (ad 53)), (2, iv x2), (3, iv x3)] [] := by
    intro o x2 x3 h
    unfold e_X10_trace_17 at h
    obtain ⟨r, hr, h⟩ := qB_of h
    refine l17  r _ hr ?_ ?_
    ·
      intro u0 e
      subst e
      have h : b_X10_trace_57 u0 = some v := h
      exact j57 u0 h
    ·
      intro u0 e
      subst e
      have h : b_X10_trace_87 u0 = some v := h
      exact j87 u0 h
  unfold s_X10_trace at h
  refine g_iload_n E gdX10_trace_0 rfl 1 rfl ?_
  refine g_istore_n E [(2, iv x1), (0, .ref (ad 53)), (1, iv x1)] gdX10_trace_1 rfl (by decide) rfl ?_
  refine g_bipush E gdX10_trace_2 (by decide) ?_
  refine g_istore_n E [(3, iv (-9)), (2, iv x1), (0, .ref (ad 53)), (1, iv x1)] gdX10_trace_4 rfl (by decide) rfl ?_
  refine g_aload_n E gdX10_trace_5 rfl 2 rfl ?_
  refine g_get (T := TX10) E fw_X10 53 (wC_53 g ad o) rfl 1 (by decide) w_334 rfl rfl gdX10_trace_6 ?_
  refine g_iconst E gdX10_trace_9 ?_
  refine g_iload_n E gdX10_trace_10 rfl 3 rfl ?_
  obtain ⟨o10, e_o10, h⟩ := qNm_of h
  refine g_iast (ws' := wC g ad o10) E 55 (wC_55 g ad o) (by decide) ⟨by decide, by decide⟩ (by rw [e_o10]; exact wC_s55 g ad o _ _) gdX10_trace_11 ?_
  refine g_aload_n E gdX10_trace_12 rfl 2 rfl ?_
  refine g_iconst E gdX10_trace_13 ?_
  obtain ⟨o11, e_o11, h⟩ := qNm_of h
  refine g_puti (T := TX10) (ws' := wC g ad o11) E fw_X10 tyX10 tyX10_ok nmX10 53 (wC_53 g ad o10) rfl 2 (by decide) w_336 rfl rfl (by decide +kernel) (Nat.le_of_ble_eq_true rfl) (by rw [e_o11]; exact wC_p53_2 g ad o10 _) gdX10_trace_14 ?_
  refine g_sub E [2, 1, 0] rfl ?_
  exact j17 o11 x1 (-9) h
noncomputable def b_X10_find_95 (o : OO) (x3 : Int) : Option (Int × OO) := qIn x3 64 (qNm (o.1 57 x3.toNat) (fun n2 => qLt n2 1000000000 (qIn x3 64 (qNm (o.1 54 x3.toNat) (fun n4 => qIn x3 64 (qNm (o.1 57 x3.toNat) (fun n6 => qNm (st1 o 53 3 (n4 + n6)) (fun o7 => qB (s_X10_trace o7 x3) (fun o10 => qZ 1 (some (1, o10))))))))) (qZ 0 (some (0, o)))))
noncomputable def b_X10_find_89 (o : OO) (x2 : Int) (x3 : Int) (x5 : Int) : Option ((OO × Int) ⊕ ((OO))) := some (.inl (o, x5 + 1))
noncomputable def l_X10_find_50 (x2 : Int) (x3 : Int) (o : OO) (x5 : Int) : Option ((OO × Int) ⊕ ((OO))) := qLt x5 1000000 (qLt 0 (o.1 53 9) (qB2 (s_X10_next o) (fun r11 o13 => qB2 (s_X10_improve o13 x2 r11) (fun r14 o16 => qEq r14 0 (b_X10_find_89 o16 x2 x3 x5) (qB (s_X10_rouseBeside o16 x2 r11) (fun o19 => b_X10_find_89 o19 x2 x3 x5))))) (some (.inr (o)))) (some (.inr (o)))
noncomputable def e_X10_find_50 (o : OO) (x2 : Int) (x3 : Int) (x5 : Int) : Option (Int × OO) := qB (loopW (fun s => l_X10_find_50 x2 x3 s.1 s.2) (o, x5)) (fun r => b_X10_find_95 r x3)
noncomputable def s_X10_find (o : OO) (x2 : Int) (x3 : Int) (x4 : Int) : Option (Int × OO) := qB (s_J7_fill_53178__56 o 1000000000) (fun o22 => qB (s_J7_fill_53178__57 o22 1000000000) (fun o25 => qNm (st1 o25 53 8 0) (fun o26 => qNm (st1 o26 53 9 0) (fun o27 => qNm (st2 o27 53 7 (0 : Int64)) (fun o28 => qNm (st1 o28 53 10 x4) (fun o29 => qB (s_X10_rouseBeside o29 x2 x4) (fun o32 => e_X10_find_50 o32 x2 x3 0)))))))
set_option maxHeartbeats 4000000 in
set_option maxRecDepth 100000 in
theorem c_X10_find (l : Launch) (g : GG) (ad : Nat → Nat) (o : OO) (x2 : Int) (x3 : Int) (x4 : Int) (v : Int × OO) (h : s_X10_find o x2 x3 x4 = some v) : CI l g yX10_find cX10_find 7 (some .boolean) 4 94 (wC g ad o) [.ref (ad 53), .ref (ad 7), iv x2, iv x3, iv x4] v.1 (wC g ad v.2) := by
  refine met_I (by decide) (Nat.le_of_ble_eq_true rfl) ?_
  intro X E hQ
  show Go X 0 (wC g ad o) [(0, .ref (ad 53)), (1, .ref (ad 7)), (2, iv x2), (3, iv x3), (4, iv x4)] []
  have j95 : ∀ (o : OO) (x3 : Int), b_X10_find_95 o x3 = some v → Go X 95 (wC g ad o) [(0, .ref (ad 53)), (3, iv x3)] [] := by
    intro o x3 h
    unfold b_X10_find_95 at h
    refine g_aload_n E gdX10_find_95 rfl 0 rfl ?_
    refine g_get (T := TX10) E fw_X10 53 (wC_53 g ad o) rfl 5 (by decide) w_341 rfl rfl gdX10_find_96 ?_
    refine g_iload_n E gdX10_find_99 rfl 1 rfl ?_
    obtain ⟨hi1, h⟩ := qIn_of h
    refine g_iald E 57 (wC_57 g ad o) (by decide) hi1 gdX10_find_100 ?_
    obtain ⟨n2, e_n2, h⟩ := qNm_of h
    refine g_nmi e_n2 ?_
    refine g_ldc (k := 1000000000) E gdX10_find_101 w_817 (by decide) ?_
    refine g_icmp_lt E 108 gdX10_find_103 (by decide) h (fun h => ?_) (fun h => ?_)
    ·
      refine g_aload_n E gdX10_find_108 rfl 0 rfl ?_
      refine g_aload_n E gdX10_find_109 rfl 0 rfl ?_
      refine g_get (T := TX10) E fw_X10 53 (wC_53 g ad o) rfl 0 (by decide) w_332 rfl rfl gdX10_find_110 ?_
      refine g_iload_n E gdX10_find_113 rfl 1 rfl ?_
      obtain ⟨hi3, h⟩ := qIn_of h
      refine g_iald E 54 (wC_54 g ad o) (by decide) hi3 gdX10_find_114 ?_
      obtain ⟨n4, e_n4, h⟩ := qNm_of h
      refine g_nmi e_n4 ?_
      refine g_aload_n E gdX10_find_115 rfl 0 rfl ?_
      refine g_get (T := TX10) E fw_X10 53 (wC_53 g ad o) rfl 5 (by decide) w_341 rfl rfl gdX10_find_116 ?_
      refine g_iload_n E gdX10_find_119 rfl 1 rfl ?_
      obtain ⟨hi5, h⟩ := qIn_of h
      refine g_iald E 57 (wC_57 g ad o) (by decide) hi5 gdX10_find_120 ?_
      obtain ⟨n6, e_n6, h⟩ := qNm_of h
      refine g_nmi e_n6 ?_
      refine g_iadd E gdX10_find_121 ?_
      obtain ⟨o7, e_o7, h⟩ := qNm_of h
      refine g_puti (T := TX10) (ws' := wC g ad o7) E fw_X10 tyX10 tyX10_ok nmX10 53 (wC_53 g ad o) rfl 3 (by decide) w_338 rfl rfl (by decide +kernel) (Nat.le_of_ble_eq_true rfl) (by rw [e_o7]; exact wC_p53_3 g ad o _) gdX10_find_122 ?_
      refine g_aload_n E gdX10_find_125 rfl 0 rfl ?_
      refine g_iload_n E gdX10_find_126 rfl 1 rfl ?_
      obtain ⟨o10, hc9, h⟩ := qB_of h
      refine g_Vv (As := [iv x3]) (rest := []) (w := wC g ad o10) E (c_X10_trace l g ad o7 x3 o10 hc9) okm_X10_trace okw_X10_trace w_860 rfl (wC_53 g ad o7) rfl rfl (Nat.le_of_ble_eq_true rfl) ⟨Nat.le_of_ble_eq_true rfl, Nat.le_of_ble_eq_true rfl⟩ gdX10_find_127 ?_
      refine g_iconst E gdX10_find_130 ?_
      obtain ⟨hz, h⟩ := qZ_of h
      exact g_zret E hQ hz (by rw [← Option.some.inj h]) (by rw [← Option.some.inj h]) gdX10_find_131
    ·
      refine g_iconst E gdX10_find_106 ?_
      obtain ⟨hz, h⟩ := qZ_of h
      exact g_zret E hQ hz (by rw [← Option.some.inj h]) (by rw [← Option.some.inj h]) gdX10_find_107
  have j89 : ∀ (o : OO) (x2 : Int) (x3 : Int) (x5 : Int) (v : (OO × Int) ⊕ ((OO))), b_X10_find_89 o x2 x3 x5 = some v → (∀ (o : OO) (x5 : Int), v = .inl (o, x5) → Go X 50 (wC g ad o) [(0, .ref (ad 53)), (1, .ref (ad 7)), (2, iv x2), (3, iv x3), (5, iv x5)] []) → (∀ (o : OO), v = .inr (o) → Go X 95 (wC g ad o) [(0, .ref (ad 53)), (3, iv x3)] []) → Go X 89 (wC g ad o) [(0, .ref (ad 53)), (1, .ref (ad 7)), (2, iv x2), (3, iv x3), (5, iv x5)] [] := by
    intro o x2 x3 x5 v h k0 k1
    unfold b_X10_find_89 at h
    refine g_iinc E [(5, iv (x5 + 1)), (0, .ref (ad 53)), (1, .ref (ad 7)), (2, iv x2), (3, iv x3)] gdX10_find_89 4 rfl (by decide) rfl ?_
    refine g_goto E 50 gdX10_find_92 (by decide) ?_
    refine g_sub E [1, 2, 3, 4, 0] rfl ?_
    exact k0 o (x5 + 1) (Option.some.inj h).symm
  have l50 : ∀ (x2 : Int) (x3 : Int) (r : (OO)) (s0 : OO × Int), loopW (fun s => l_X10_find_50 x2 x3 s.1 s.2) s0 = some r → (∀ (o : OO), r = (o) → Go X 95 (wC g ad o) [(0, .ref (ad 53)), (3, iv x3)] []) → Go X 50 (wC g ad s0.1) [(0, .ref (ad 53)), (1, .ref (ad 7)), (2, iv x2), (3, iv x3), (5, iv s0.2)] [] := by
    intro x2 x3 r s0 h k1
    refine loop_rule (Head := fun s0 => Go X 50 (wC g ad s0.1) [(0, .ref (ad 53)), (1, .ref (ad 7)), (2, iv x2), (3, iv x3), (5, iv s0.2)] []) h ?_
    intro s v h kk kx
    obtain ⟨o, x5⟩ := s
    have h : l_X10_find_50 x2 x3 o x5 = some v := h
    have k0 : ∀ (o : OO) (x5 : Int), v = .inl (o, x5) → Go X 50 (wC g ad o) [(0, .ref (ad 53)), (1, .ref (ad 7)), (2, iv x2), (3, iv x3), (5, iv x5)] [] := fun o x5 e => kk (o, x5) e
    have k1 : ∀ (o : OO), v = .inr (o) → Go X 95 (wC g ad o) [(0, .ref (ad 53)), (3, iv x3)] [] := fun o e => k1 o (kx _ e).symm
    unfold l_X10_find_50 at h
    refine g_iload E gdX10_find_50 4 rfl ?_
    refine g_ldc (k := 1000000) E gdX10_find_52 w_844 (by decide) ?_
    refine g_icmp_ge E 95 gdX10_find_54 (by decide) h (fun h => ?_) (fun h => ?_)
    ·
      refine g_sub E [0, 3] rfl ?_
      exact k1 o (Option.some.inj h).symm
    ·
      refine g_aload_n E gdX10_find_57 rfl 0 rfl ?_
      refine g_get (T := TX10) E fw_X10 53 (wC_53 g ad o) rfl 9 (by decide) w_345 rfl rfl gdX10_find_58 ?_
      refine g_if_le E 95 gdX10_find_61 (by decide) h (fun h => ?_) (fun h => ?_)
      ·
        refine g_sub E [0, 3] rfl ?_
        exact k1 o (Option.some.inj h).symm
      ·
        refine g_aload_n E gdX10_find_64 rfl 0 rfl ?_
        obtain ⟨r11, o13, hc12, h⟩ := qB2_of h
        refine g_Vi (r := r11) (As := []) (rest := []) (w := wC g ad o13) E (c_X10_next l g ad o (r11, o13) hc12) okm_X10_next okw_X10_next w_845 rfl (wC_53 g ad o) rfl rfl (Nat.le_of_ble_eq_true rfl) ⟨Nat.le_of_ble_eq_true rfl, Nat.le_of_ble_eq_true rfl⟩ gdX10_find_65 ?_
        refine g_istore E [(6, iv r11), (0, .ref (ad 53)), (1, .ref (ad 7)), (2, iv x2), (3, iv x3), (5, iv x5)] gdX10_find_68 (by decide) rfl ?_
        refine g_aload_n E gdX10_find_70 rfl 1 rfl ?_
        refine g_aload_n E gdX10_find_71 rfl 2 rfl ?_
        refine g_iload_n E gdX10_find_72 rfl 3 rfl ?_
        refine g_iload E gdX10_find_73 0 rfl ?_
        obtain ⟨r14, o16, hc15, h⟩ := qB2_of h
        refine g_Vi (r := r14) (As := [.ref (ad 7), iv x2, iv r11]) (rest := []) (w := wC g ad o16) E (c_X10_improve l g ad o13 x2 r11 (r14, o16) hc15) okm_X10_improve okw_X10_improve w_850 rfl (wC_53 g ad o13) rfl rfl (Nat.le_of_ble_eq_true rfl) ⟨Nat.le_of_ble_eq_true rfl, Nat.le_of_ble_eq_true rfl⟩ gdX10_find_75 ?_
        refine g_if_eq E 89 gdX10_find_78 (by decide) h (fun h => ?_) (fun h => ?_)
        ·
          refine g_sub E [1, 2, 3, 4, 5] rfl ?_
          exact j89 o16 x2 x3 x5 v h k0 k1
        ·
          refine g_aload_n E gdX10_find_81 rfl 1 rfl ?_
          refine g_aload_n E gdX10_find_82 rfl 2 rfl ?_
          refine g_iload_n E gdX10_find_83 rfl 3 rfl ?_
          refine g_iload E gdX10_find_84 0 rfl ?_
          obtain ⟨o19, hc18, h⟩ := qB_of h
          refine g_Vv (As := [.ref (ad 7), iv x2, iv r11]) (rest := []) (w := wC g ad o19) E (c_X10_rouseBeside l g ad o16 x2 r11 o19 hc18) okm_X10_rouseBeside okw_X10_rouseBeside w_819 rfl (wC_53 g ad o16) rfl rfl (Nat.le_of_ble_eq_true rfl) ⟨Nat.le_of_ble_eq_true rfl, Nat.le_of_ble_eq_true rfl⟩ gdX10_find_86 ?_
          refine g_sub E [1, 2, 3, 4, 5] rfl ?_
          exact j89 o19 x2 x3 x5 v h k0 k1
  have j50 : ∀ (o : OO) (x2 : Int) (x3 : Int) (x5 : Int), e_X10_find_50 o x2 x3 x5 = some v → Go X 50 (wC g ad o) [(0, .ref (ad 53)), (1, .ref (ad 7)), (2, iv x2), (3, iv x3), (5, iv x5)] [] := by
    intro o x2 x3 x5 h
    unfold e_X10_find_50 at h
    obtain ⟨r, hr, h⟩ := qB_of h
    refine l50 x2 x3 r _ hr ?_
    ·
      intro u0 e
      have e := e.symm
      subst e
      have h : b_X10_find_95 u0 x3 = some v := h
      exact j95 u0 x3 h
  unfold s_X10_find at h
  refine g_aload_n E gdX10_find_0 rfl 0 rfl ?_
  refine g_get (T := TX10) E fw_X10 53 (wC_53 g ad o) rfl 4 (by decide) w_340 rfl rfl gdX10_find_1 ?_
  refine g_ldc (k := 1000000000) E gdX10_find_4 w_817 (by decide) ?_
  obtain ⟨o22, hc21, h⟩ := qB_of h
  refine g_Sv (As := [.ref (ad 56), iv 1000000000]) (rest := []) (w := wC g ad o22) E (c_J7_fill_53178__56 l g ad o 1000000000 o22 hc21) okm_J7_fill_53178 w_124 w_818 rfl rfl (Nat.le_of_ble_eq_true rfl) ⟨Nat.le_of_ble_eq_true rfl, Nat.le_of_ble_eq_true rfl⟩ gdX10_find_6 ?_
  refine g_aload_n E gdX10_find_9 rfl 0 rfl ?_
  refine g_get (T := TX10) E fw_X10 53 (wC_53 g ad o22) rfl 5 (by decide) w_341 rfl rfl gdX10_find_10 ?_
  refine g_ldc (k := 1000000000) E gdX10_find_13 w_817 (by decide) ?_
  obtain ⟨o25, hc24, h⟩ := qB_of h
  refine g_Sv (As := [.ref (ad 57), iv 1000000000]) (rest := []) (w := wC g ad o25) E (c_J7_fill_53178__57 l g ad o22 1000000000 o25 hc24) okm_J7_fill_53178 w_124 w_818 rfl rfl (Nat.le_of_ble_eq_true rfl) ⟨Nat.le_of_ble_eq_true rfl, Nat.le_of_ble_eq_true rfl⟩ gdX10_find_15 ?_
  refine g_aload_n E gdX10_find_18 rfl 0 rfl ?_
  refine g_iconst E gdX10_find_19 ?_
  obtain ⟨o26, e_o26, h⟩ := qNm_of h
  refine g_puti (T := TX10) (ws' := wC g ad o26) E fw_X10 tyX10 tyX10_ok nmX10 53 (wC_53 g ad o25) rfl 8 (by decide) w_344 rfl rfl (by decide +kernel) (Nat.le_of_ble_eq_true rfl) (by rw [e_o26]; exact wC_p53_8 g ad o25 _) gdX10_find_20 ?_
  refine g_aload_n E gdX10_find_23 rfl 0 rfl ?_
  refine g_iconst E gdX10_find_24 ?_
  obtain ⟨o27, e_o27, h⟩ := qNm_of h
  refine g_puti (T := TX10) (ws' := wC g ad o27) E fw_X10 tyX10 tyX10_ok nmX10 53 (wC_53 g ad o26) rfl 9 (by decide) w_345 rfl rfl (by decide +kernel) (Nat.le_of_ble_eq_true rfl) (by rw [e_o27]; exact wC_p53_9 g ad o26 _) gdX10_find_25 ?_
  refine g_aload_n E gdX10_find_28 rfl 0 rfl ?_
  refine g_lconst (v := 0) E gdX10_find_29 (by decide) ?_
  obtain ⟨o28, e_o28, h⟩ := qNm_of h
  refine g_putl (T := TX10) (ws' := wC g ad o28) E fw_X10 tyX10 tyX10_ok nmX10 53 (wC_53 g ad o27) rfl 7 (by decide) w_343 rfl rfl (by decide +kernel) (Nat.le_of_ble_eq_true rfl) (by rw [e_o28]; exact wC_p53_7 g ad o27 _) gdX10_find_30 ?_
  refine g_aload_n E gdX10_find_33 rfl 0 rfl ?_
  refine g_iload E gdX10_find_34 4 rfl ?_
  obtain ⟨o29, e_o29, h⟩ := qNm_of h
  refine g_puti (T := TX10) (ws' := wC g ad o29) E fw_X10 tyX10 tyX10_ok nmX10 53 (wC_53 g ad o28) rfl 10 (by decide) w_346 rfl rfl (by decide +kernel) (Nat.le_of_ble_eq_true rfl) (by rw [e_o29]; exact wC_p53_10 g ad o28 _) gdX10_find_36 ?_
  refine g_aload_n E gdX10_find_39 rfl 0 rfl ?_
  refine g_aload_n E gdX10_find_40 rfl 1 rfl ?_
  refine g_iload_n E gdX10_find_41 rfl 2 rfl ?_
  refine g_iload E gdX10_find_42 4 rfl ?_
  obtain ⟨o32, hc31, h⟩ := qB_of h
  refine g_Vv (As := [.ref (ad 7), iv x2, iv x4]) (rest := []) (w := wC g ad o32) E (c_X10_rouseBeside l g ad o29 x2 x4 o32 hc31) okm_X10_rouseBeside okw_X10_rouseBeside w_819 rfl (wC_53 g ad o29) rfl rfl (Nat.le_of_ble_eq_true rfl) ⟨Nat.le_of_ble_eq_true rfl, Nat.le_of_ble_eq_true rfl⟩ gdX10_find_44 ?_
  refine g_iconst E gdX10_find_47 ?_
  refine g_istore E [(5, iv 0), (0, .ref (ad 53)), (1, .ref (ad 7)), (2, iv x2), (3, iv x3), (4, iv x4)] gdX10_find_48 (by decide) rfl ?_
  refine g_sub E [1, 2, 3, 4, 0] rfl ?_
  exact j50 o32 x2 x3 0 h
noncomputable def b_X4_route_62 (o : OO) : Option (OO) := some o
noncomputable def l_X4_route_18 (x1 : Int) (x3 : Int) (o : OO) (x5 : Int) : Option ((OO × Int) ⊕ ((OO))) := qLt x5 x3 (qIn x5 64 (qNm (o.1 55 x5.toNat) (fun n2 => qIn ((x1 * 64) + x5) 1536 (qNm (st1 o 37 (((x1 * 64) + x5).toNat) n2) (fun o4 => qIn x1 24 (qNm (o4.2 38 x1.toNat) (fun m6 => qIn x5 64 (qNm (o4.1 55 x5.toNat) (fun n8 => qB (s_X3_bit n8) (fun p9 => qIn x1 24 (qNm (st2 o4 38 x1.toNat (m6 ||| p9)) (fun o12 => some (.inl (o12, x5 + 1)))))))))))))) (some (.inr (o)))
noncomputable def e_X4_route_18 (o : OO) (x1 : Int) (x3 : Int) (x5 : Int) : Option (OO) := qB (loopW (fun s => l_X4_route_18 x1 x3 s.1 s.2) (o, x5)) (fun r => b_X4_route_62 r)
noncomputable def s_X4_route (o : OO) (x1 : Int) (x3 : Int) (x4 : Int) : Option (OO) := qIn x1 24 (qNm (st1 o 36 x1.toNat x3) (fun o14 => qIn x1 24 (qNm (st1 o14 39 x1.toNat x4) (fun o16 => e_X4_route_18 o16 x1 x3 0))))
set_option maxHeartbeats 4000000 in
set_option maxRecDepth 100000 in
theorem c_X4_route (l : Launch) (g : GG) (ad : Nat → Nat) (o : OO) (x1 : Int) (x3 : Int) (x4 : Int) (v : OO) (h : s_X4_route o x1 x3 x4 = some v) : CV l g yX4_route cX4_route 6 1 20 (wC g ad o) [.ref (ad 32), iv x1, .ref (ad 55), iv x3, iv x4] (wC g ad v) := by
  refine met_V (by decide) (Nat.le_of_ble_eq_true rfl) ?_
  intro X E hQ
  show Go X 0 (wC g ad o) [(0, .ref (ad 32)), (1, iv x1), (2, .ref (ad 55)), (3, iv x3), (4, iv x4)] []
  have j62 : ∀ (o : OO), b_X4_route_62 o = some v → Go X 62 (wC g ad o) [] [] := by
    intro o h
    unfold b_X4_route_62 at h
    exact g_vret E hQ (by rw [← Option.some.inj h]) gdX4_route_62
  have l18 : ∀ (x1 : Int) (x3 : Int) (r : (OO)) (s0 : OO × Int), loopW (fun s => l_X4_route_18 x1 x3 s.1 s.2) s0 = some r → (∀ (o : OO), r = (o) → Go X 62 (wC g ad o) [] []) → Go X 18 (wC g ad s0.1) [(0, .ref (ad 32)), (1, iv x1), (2, .ref (ad 55)), (3, iv x3), (5, iv s0.2)] [] := by
    intro x1 x3 r s0 h k1
    refine loop_rule (Head := fun s0 => Go X 18 (wC g ad s0.1) [(0, .ref (ad 32)), (1, iv x1), (2, .ref (ad 55)), (3, iv x3), (5, iv s0.2)] []) h ?_
    intro s v h kk kx
    obtain ⟨o, x5⟩ := s
    have h : l_X4_route_18 x1 x3 o x5 = some v := h
    have k0 : ∀ (o : OO) (x5 : Int), v = .inl (o, x5) → Go X 18 (wC g ad o) [(0, .ref (ad 32)), (1, iv x1), (2, .ref (ad 55)), (3, iv x3), (5, iv x5)] [] := fun o x5 e => kk (o, x5) e
    have k1 : ∀ (o : OO), v = .inr (o) → Go X 62 (wC g ad o) [] [] := fun o e => k1 o (kx _ e).symm
    unfold l_X4_route_18 at h
    refine g_iload E gdX4_route_18 4 rfl ?_
    refine g_iload_n E gdX4_route_20 rfl 3 rfl ?_
    refine g_icmp_ge E 62 gdX4_route_21 (by decide) h (fun h => ?_) (fun h => ?_)
    ·
      refine g_sub E [] rfl ?_
      exact k1 o (Option.some.inj h).symm
    ·
      refine g_aload_n E gdX4_route_24 rfl 0 rfl ?_
      refine g_get (T := TX4) E fw_X4 32 (wC_32 g ad o) rfl 4 (by decide) w_255 rfl rfl gdX4_route_25 ?_
      refine g_iload_n E gdX4_route_28 rfl 1 rfl ?_
      refine g_bipush E gdX4_route_29 (by decide) ?_
      refine g_imul E gdX4_route_31 ?_
      refine g_iload E gdX4_route_32 4 rfl ?_
      refine g_iadd E gdX4_route_34 ?_
      refine g_aload_n E gdX4_route_35 rfl 2 rfl ?_
      refine g_iload E gdX4_route_36 4 rfl ?_
      obtain ⟨hi1, h⟩ := qIn_of h
      refine g_iald E 55 (wC_55 g ad o) (by decide) hi1 gdX4_route_38 ?_
      obtain ⟨n2, e_n2, h⟩ := qNm_of h
      refine g_nmi e_n2 ?_
      obtain ⟨hi3, h⟩ := qIn_of h
      obtain ⟨o4, e_o4, h⟩ := qNm_of h
      refine g_iast (ws' := wC g ad o4) E 37 (wC_37 g ad o) (by decide) hi3 (by rw [e_o4]; exact wC_s37 g ad o _ _) gdX4_route_39 ?_
      refine g_aload_n E gdX4_route_40 rfl 0 rfl ?_
      refine g_get (T := TX4) E fw_X4 32 (wC_32 g ad o4) rfl 5 (by decide) w_256 rfl rfl gdX4_route_41 ?_
      refine g_iload_n E gdX4_route_44 rfl 1 rfl ?_
      refine g_dup2 E gdX4_route_45 rfl rfl ?_
      obtain ⟨hi5, h⟩ := qIn_of h
      refine g_lald E 38 (wC_38 g ad o4) (by decide) hi5 gdX4_route_46 ?_
      obtain ⟨m6, e_m6, h⟩ := qNm_of h
      refine g_nml e_m6 ?_
      refine g_aload_n E gdX4_route_47 rfl 2 rfl ?_
      refine g_iload E gdX4_route_48 4 rfl ?_
      obtain ⟨hi7, h⟩ := qIn_of h
      refine g_iald E 55 (wC_55 g ad o4) (by decide) hi7 gdX4_route_50 ?_
      obtain ⟨n8, e_n8, h⟩ := qNm_of h
      refine g_nmi e_n8 ?_
      obtain ⟨p9, hc10, h⟩ := qB_of h
      refine g_Sl (r := p9) (As := [iv n8]) (rest := [.long m6, iv x1, .ref (ad 38)]) (w := wC g ad o4) E (c_X3_bit l g (wC g ad o4) n8 p9 hc10) okm_X3_bit w_842 w_877 rfl rfl (Nat.le_of_ble_eq_true rfl) ⟨Nat.le_of_ble_eq_true rfl, Nat.le_of_ble_eq_true rfl⟩ gdX4_route_51 ?_
      refine g_lor E gdX4_route_54 ?_
      obtain ⟨hi11, h⟩ := qIn_of h
      obtain ⟨o12, e_o12, h⟩ := qNm_of h
      refine g_last (ws' := wC g ad o12) E 38 (wC_38 g ad o4) (by decide) hi11 (by rw [e_o12]; exact wC_s38 g ad o4 _ _) gdX4_route_55 ?_
      refine g_iinc E [(5, iv (x5 + 1)), (0, .ref (ad 32)), (1, iv x1), (2, .ref (ad 55)), (3, iv x3)] gdX4_route_56 4 rfl (by decide) rfl ?_
      refine g_goto E 18 gdX4_route_59 (by decide) ?_
      refine g_sub E [1, 2, 3, 4, 0] rfl ?_
      exact k0 o12 (x5 + 1) (Option.some.inj h).symm
  have j18 : ∀ (o : OO) (x1 : Int) (x3 : Int) (x5 : Int), e_X4_route_18 o x1 x3 x5 = some v → Go X 18 (wC g ad o) [(0, .ref (ad 32)), (1, iv x1), (2, .ref (ad 55)), (3, iv x3), (5, iv x5)] [] := by
    intro o x1 x3 x5 h
    unfold e_X4_route_18 at h
    obtain ⟨r, hr, h⟩ := qB_of h
    refine l18 x1 x3 r _ hr ?_
    ·
      intro u0 e
      have e := e.symm
      subst e
      have h : b_X4_route_62 u0 = some v := h
      exact j62 u0 h
  unfold s_X4_route at h
  refine g_aload_n E gdX4_route_0 rfl 0 rfl ?_
  refine g_get (T := TX4) E fw_X4 32 (wC_32 g ad o) rfl 3 (by decide) w_254 rfl rfl gdX4_route_1 ?_
  refine g_iload_n E gdX4_route_4 rfl 1 rfl ?_
  refine g_iload_n E gdX4_route_5 rfl 3 rfl ?_
  obtain ⟨hi13, h⟩ := qIn_of h
  obtain ⟨o14, e_o14, h⟩ := qNm_of h
  refine g_iast (ws' := wC g ad o14) E 36 (wC_36 g ad o) (by decide) hi13 (by rw [e_o14]; exact wC_s36 g ad o _ _) gdX4_route_6 ?_
  refine g_aload_n E gdX4_route_7 rfl 0 rfl ?_
  refine g_get (T := TX4) E fw_X4 32 (wC_32 g ad o14) rfl 6 (by decide) w_257 rfl rfl gdX4_route_8 ?_
  refine g_iload_n E gdX4_route_11 rfl 1 rfl ?_
  refine g_iload E gdX4_route_12 4 rfl ?_
  obtain ⟨hi15, h⟩ := qIn_of h
  obtain ⟨o16, e_o16, h⟩ := qNm_of h
  refine g_iast (ws' := wC g ad o16) E 39 (wC_39 g ad o14) (by decide) hi15 (by rw [e_o16]; exact wC_s39 g ad o14 _ _) gdX4_route_14 ?_
  refine g_iconst E gdX4_route_15 ?_
  refine g_istore E [(5, iv 0), (0, .ref (ad 32)), (1, iv x1), (2, .ref (ad 55)), (3, iv x3), (4, iv x4)] gdX4_route_16 (by decide) rfl ?_
  refine g_sub E [1, 2, 3, 4, 0] rfl ?_
  exact j18 o16 x1 x3 0 h
noncomputable def b_X11_line_30 (o : OO) : Option (Int × OO) := some ((-1), o)
noncomputable def b_X11_line_125 (o : OO) : Option (Int × OO) := some ((-4), o)
noncomputable def s_X11_line (o : OO) (x1 : Int) (x2 : Int) (x3 : Int) : Option (Int × OO) := qB (s_X3_isCell x1) (fun r1 => qEq r1 0 (b_X11_line_30 o) (qB (s_X3_isCell x2) (fun r3 => qEq r3 0 (b_X11_line_30 o) (qEq x1 x2 (b_X11_line_30 o) (qB (s_X8_exists o x3) (fun r5 => qEq r5 0 (b_X11_line_30 o) (qB (s_X4_number o) (fun r7 => qLt r7 24 (qB (s_X8_isThere o x3) (fun r9 => qEq r9 0 (qB2 (s_X11_found o 1) (fun r42 o44 => some (r42, o44))) (qB (s_X8_sizeOf o x3) (fun r11 => qEq r11 4 (qB (s_X8_allWithin o x3 0 1000) (fun r13 => qEq r13 0 (qB2 (s_X11_found o 3) (fun r36 o38 => some (r36, o38))) (qB (s_X3_isWater o x1) (fun r15 => qEq r15 0 (qB (s_X3_isWater o x2) (fun r17 => qEq r17 0 (qB (s_X11_setPrices o x3) (fun o21 => qB (s_X11_inForce o21 0) (fun r22 => qB2 (s_X10_find o21 r22 x1 x2) (fun r24 o26 => qEq r24 0 (qB2 (s_X11_found o26 1) (fun r33 o35 => some (r33, o35))) (qB2 (s_X4_add o26 1 (o26.1 0 13) (-9)) (fun r27 o29 => qB (s_X4_route o29 r27 (o29.1 53 2) (o29.1 53 3)) (fun o32 => some (r27, o32)))))))) (b_X11_line_125 o))) (b_X11_line_125 o))))) (qB2 (s_X11_found o 5) (fun r39 o41 => some (r39, o41))))))) (some ((-2), o))))))))))
set_option maxHeartbeats 4000000 in
set_option maxRecDepth 100000 in
theorem c_X11_line (l : Launch) (g : GG) (ad : Nat → Nat) (o : OO) (x1 : Int) (x2 : Int) (x3 : Int) (v : Int × OO) (h : s_X11_line o x1 x2 x3 = some v) : CI l g yX11_line cX11_line 5 (some .int) 5 120 (wC g ad o) [.ref (ad 0), iv x1, iv x2, iv x3] v.1 (wC g ad v.2) := by
  refine met_I (by decide) (Nat.le_of_ble_eq_true rfl) ?_
  intro X E hQ
  show Go X 0 (wC g ad o) [(0, .ref (ad 0)), (1, iv x1), (2, iv x2), (3, iv x3)] []
  have j30 : ∀ (o : OO), b_X11_line_30 o = some v → Go X 30 (wC g ad o) [] [] := by
    intro o h
    unfold b_X11_line_30 at h
    refine g_iconst E gdX11_line_30 ?_
    exact g_iret E hQ (by rw [← Option.some.inj h]) (by rw [← Option.some.inj h]) gdX11_line_31
  have j125 : ∀ (o : OO), b_X11_line_125 o = some v → Go X 125 (wC g ad o) [] [] := by
    intro o h
    unfold b_X11_line_125 at h
    refine g_bipush E gdX11_line_125 (by decide) ?_
    exact g_iret E hQ (by rw [← Option.some.inj h]) (by rw [← Option.some.inj h]) gdX11_line_127
  unfold s_X11_line at h
  refine g_iload_n E gdX11_line_0 rfl 1 rfl ?_
  obtain ⟨r1, hc2, h⟩ := qB_of h
  refine g_Si (r := r1) (As := [iv x1]) (rest := []) (w := wC g ad o) E (c_X3_isCell l g (wC g ad o) x1 r1 hc2) okm_X3_isCell w_622 w_621 rfl rfl (Nat.le_of_ble_eq_true rfl) ⟨Nat.le_of_ble_eq_true rfl, Nat.le_of_ble_eq_true rfl⟩ gdX11_line_1 ?_
  refine g_if_eq E 30 gdX11_line_4 (by decide) h (fun h => ?_) (fun h => ?_)
  ·
    refine g_sub E [] rfl ?_
    exact j30 o h
  ·
    refine g_iload_n E gdX11_line_7 rfl 2 rfl ?_
    obtain ⟨r3, hc4, h⟩ := qB_of h
    refine g_Si (r := r3) (As := [iv x2]) (rest := []) (w := wC g ad o) E (c_X3_isCell l g (wC g ad o) x2 r3 hc4) okm_X3_isCell w_622 w_621 rfl rfl (Nat.le_of_ble_eq_true rfl) ⟨Nat.le_of_ble_eq_true rfl, Nat.le_of_ble_eq_true rfl⟩ gdX11_line_8 ?_
    refine g_if_eq E 30 gdX11_line_11 (by decide) h (fun h => ?_) (fun h => ?_)
    ·
      refine g_sub E [] rfl ?_
      exact j30 o h
    ·
      refine g_iload_n E gdX11_line_14 rfl 1 rfl ?_
      refine g_iload_n E gdX11_line_15 rfl 2 rfl ?_
      refine g_icmp_eq E 30 gdX11_line_16 (by decide) h (fun h => ?_) (fun h => ?_)
      ·
        refine g_sub E [] rfl ?_
        exact j30 o h
      ·
        refine g_aload_n E gdX11_line_19 rfl 0 rfl ?_
        refine g_get (T := TX11) E fw_X11 0 (wC_0 g ad o) rfl 0 (by decide) w_458 rfl rfl gdX11_line_20 ?_
        refine g_iload_n E gdX11_line_23 rfl 3 rfl ?_
        obtain ⟨r5, hc6, h⟩ := qB_of h
        refine g_Vi (r := r5) (As := [iv x3]) (rest := []) (w := wC g ad o) E (c_X8_exists l g ad o x3 r5 hc6) okm_X8_exists okw_X8_exists w_517 rfl (wC_1 g ad o) rfl rfl (Nat.le_of_ble_eq_true rfl) ⟨Nat.le_of_ble_eq_true rfl, Nat.le_of_ble_eq_true rfl⟩ gdX11_line_24 ?_
        refine g_if_ne E 32 gdX11_line_27 (by decide) h (fun h => ?_) (fun h => ?_)
        ·
          refine g_aload_n E gdX11_line_32 rfl 0 rfl ?_
          refine g_get (T := TX11) E fw_X11 0 (wC_0 g ad o) rfl 6 (by decide) w_464 rfl rfl gdX11_line_33 ?_
          obtain ⟨r7, hc8, h⟩ := qB_of h
          refine g_Vi (r := r7) (As := []) (rest := []) (w := wC g ad o) E (c_X4_number l g ad o r7 hc8) okm_X4_number okw_X4_number w_790 rfl (wC_32 g ad o) rfl rfl (Nat.le_of_ble_eq_true rfl) ⟨Nat.le_of_ble_eq_true rfl, Nat.le_of_ble_eq_true rfl⟩ gdX11_line_36 ?_
          refine g_bipush E gdX11_line_39 (by decide) ?_
          refine g_icmp_lt E 47 gdX11_line_41 (by decide) h (fun h => ?_) (fun h => ?_)
          ·
            refine g_aload_n E gdX11_line_47 rfl 0 rfl ?_
            refine g_get (T := TX11) E fw_X11 0 (wC_0 g ad o) rfl 0 (by decide) w_458 rfl rfl gdX11_line_48 ?_
            refine g_iload_n E gdX11_line_51 rfl 3 rfl ?_
            obtain ⟨r9, hc10, h⟩ := qB_of h
            refine g_Vi (r := r9) (As := [iv x3]) (rest := []) (w := wC g ad o) E (c_X8_isThere l g ad o x3 r9 hc10) okm_X8_isThere okw_X8_isThere w_539 rfl (wC_1 g ad o) rfl rfl (Nat.le_of_ble_eq_true rfl) ⟨Nat.le_of_ble_eq_true rfl, Nat.le_of_ble_eq_true rfl⟩ gdX11_line_52 ?_
            refine g_if_ne E 64 gdX11_line_55 (by decide) h (fun h => ?_) (fun h => ?_)
            ·
              refine g_aload_n E gdX11_line_64 rfl 0 rfl ?_
              refine g_get (T := TX11) E fw_X11 0 (wC_0 g ad o) rfl 0 (by decide) w_458 rfl rfl gdX11_line_65 ?_
              refine g_iload_n E gdX11_line_68 rfl 3 rfl ?_
              obtain ⟨r11, hc12, h⟩ := qB_of h
              refine g_Vi (r := r11) (As := [iv x3]) (rest := []) (w := wC g ad o) E (c_X8_sizeOf l g ad o x3 r11 hc12) okm_X8_sizeOf okw_X8_sizeOf w_794 rfl (wC_1 g ad o) rfl rfl (Nat.le_of_ble_eq_true rfl) ⟨Nat.le_of_ble_eq_true rfl, Nat.le_of_ble_eq_true rfl⟩ gdX11_line_69 ?_
              refine g_iconst E gdX11_line_72 ?_
              refine g_icmp_eq E 82 gdX11_line_73 (by decide) h (fun h => ?_) (fun h => ?_)
              ·
                refine g_aload_n E gdX11_line_82 rfl 0 rfl ?_
                refine g_get (T := TX11) E fw_X11 0 (wC_0 g ad o) rfl 0 (by decide) w_458 rfl rfl gdX11_line_83 ?_
                refine g_iload_n E gdX11_line_86 rfl 3 rfl ?_
                refine g_iconst E gdX11_line_87 ?_
                refine g_sipush E gdX11_line_88 (by decide) ?_
                obtain ⟨r13, hc14, h⟩ := qB_of h
                refine g_Vi (r := r13) (As := [iv x3, iv 0, iv 1000]) (rest := []) (w := wC g ad o) E (c_X8_allWithin l g ad o x3 0 1000 r13 hc14) okm_X8_allWithin okw_X8_allWithin w_795 rfl (wC_1 g ad o) rfl rfl (Nat.le_of_ble_eq_true rfl) ⟨Nat.le_of_ble_eq_true rfl, Nat.le_of_ble_eq_true rfl⟩ gdX11_line_91 ?_
                refine g_if_ne E 103 gdX11_line_94 (by decide) h (fun h => ?_) (fun h => ?_)
                ·
                  refine g_aload_n E gdX11_line_103 rfl 0 rfl ?_
                  refine g_get (T := TX11) E fw_X11 0 (wC_0 g ad o) rfl 2 (by decide) w_460 rfl rfl gdX11_line_104 ?_
                  refine g_iload_n E gdX11_line_107 rfl 1 rfl ?_
                  obtain ⟨r15, hc16, h⟩ := qB_of h
                  refine g_Vi (r := r15) (As := [iv x1]) (rest := []) (w := wC g ad o) E (c_X3_isWater l g ad o x1 r15 hc16) okm_X3_isWater okw_X3_isWater w_651 rfl (wC_7 g ad o) rfl rfl (Nat.le_of_ble_eq_true rfl) ⟨Nat.le_of_ble_eq_true rfl, Nat.le_of_ble_eq_true rfl⟩ gdX11_line_108 ?_
                  refine g_if_ne E 125 gdX11_line_111 (by decide) h (fun h => ?_) (fun h => ?_)
                  ·
                    refine g_sub E [] rfl ?_
                    exact j125 o h
                  ·
                    refine g_aload_n E gdX11_line_114 rfl 0 rfl ?_
                    refine g_get (T := TX11) E fw_X11 0 (wC_0 g ad o) rfl 2 (by decide) w_460 rfl rfl gdX11_line_115 ?_
                    refine g_iload_n E gdX11_line_118 rfl 2 rfl ?_
                    obtain ⟨r17, hc18, h⟩ := qB_of h
                    refine g_Vi (r := r17) (As := [iv x2]) (rest := []) (w := wC g ad o) E (c_X3_isWater l g ad o x2 r17 hc18) okm_X3_isWater okw_X3_isWater w_651 rfl (wC_7 g ad o) rfl rfl (Nat.le_of_ble_eq_true rfl) ⟨Nat.le_of_ble_eq_true rfl, Nat.le_of_ble_eq_true rfl⟩ gdX11_line_119 ?_
                    refine g_if_eq E 128 gdX11_line_122 (by decide) h (fun h => ?_) (fun h => ?_)
                    ·
                      refine g_aload_n E gdX11_line_128 rfl 0 rfl ?_
                      refine g_iload_n E gdX11_line_129 rfl 3 rfl ?_
                      obtain ⟨o21, hc20, h⟩ := qB_of h
                      refine g_Vv (As := [iv x3]) (rest := []) (w := wC g ad o21) E (c_X11_setPrices l g ad o x3 o21 hc20) okm_X11_setPrices okw_X11_setPrices w_800 rfl (wC_0 g ad o) rfl rfl (Nat.le_of_ble_eq_true rfl) ⟨Nat.le_of_ble_eq_true rfl, Nat.le_of_ble_eq_true rfl⟩ gdX11_line_130 ?_
                      refine g_aload_n E gdX11_line_133 rfl 0 rfl ?_
                      refine g_get (T := TX11) E fw_X11 0 (wC_0 g ad o21) rfl 8 (by decide) w_466 rfl rfl gdX11_line_134 ?_
                      refine g_aload_n E gdX11_line_137 rfl 0 rfl ?_
                      refine g_get (T := TX11) E fw_X11 0 (wC_0 g ad o21) rfl 2 (by decide) w_460 rfl rfl gdX11_line_138 ?_
                      refine g_aload_n E gdX11_line_141 rfl 0 rfl ?_
                      refine g_iconst E gdX11_line_142 ?_
                      obtain ⟨r22, hc23, h⟩ := qB_of h
                      refine g_Vi (r := r22) (As := [iv 0]) (rest := [.ref (ad 7), .ref (ad 53)]) (w := wC g ad o21) E (c_X11_inForce l g ad o21 0 r22 hc23) okm_X11_inForce okw_X11_inForce w_809 rfl (wC_0 g ad o21) rfl rfl (Nat.le_of_ble_eq_true rfl) ⟨Nat.le_of_ble_eq_true rfl, Nat.le_of_ble_eq_true rfl⟩ gdX11_line_143 ?_
                      refine g_iload_n E gdX11_line_146 rfl 1 rfl ?_
                      refine g_iload_n E gdX11_line_147 rfl 2 rfl ?_
                      obtain ⟨r24, o26, hc25, h⟩ := qB2_of h
                      refine g_Vi (r := r24) (As := [.ref (ad 7), iv r22, iv x1, iv x2]) (rest := []) (w := wC g ad o26) E (c_X10_find l g ad o21 r22 x1 x2 (r24, o26) hc25) okm_X10_find okw_X10_find w_813 rfl (wC_53 g ad o21) rfl rfl (Nat.le_of_ble_eq_true rfl) ⟨Nat.le_of_ble_eq_true rfl, Nat.le_of_ble_eq_true rfl⟩ gdX11_line_148 ?_
                      refine g_if_ne E 160 gdX11_line_151 (by decide) h (fun h => ?_) (fun h => ?_)
                      ·
                        refine g_aload_n E gdX11_line_160 rfl 0 rfl ?_
                        refine g_get (T := TX11) E fw_X11 0 (wC_0 g ad o26) rfl 6 (by decide) w_464 rfl rfl gdX11_line_161 ?_
                        refine g_iconst E gdX11_line_164 ?_
                        refine g_aload_n E gdX11_line_165 rfl 0 rfl ?_
                        refine g_get (T := TX11) E fw_X11 0 (wC_0 g ad o26) rfl 13 (by decide) w_471 rfl rfl gdX11_line_166 ?_
                        refine g_bipush E gdX11_line_169 (by decide) ?_
                        obtain ⟨r27, o29, hc28, h⟩ := qB2_of h
                        refine g_Vi (r := r27) (As := [iv 1, iv (o26.1 0 13), iv (-9)]) (rest := []) (w := wC g ad o29) E (c_X4_add l g ad o26 1 (o26.1 0 13) (-9) (r27, o29) hc28) okm_X4_add okw_X4_add w_869 rfl (wC_32 g ad o26) rfl rfl (Nat.le_of_ble_eq_true rfl) ⟨Nat.le_of_ble_eq_true rfl, Nat.le_of_ble_eq_true rfl⟩ gdX11_line_171 ?_
                        refine g_istore E [(4, iv r27), (0, .ref (ad 0)), (1, iv x1), (2, iv x2), (3, iv x3)] gdX11_line_174 (by decide) rfl ?_
                        refine g_aload_n E gdX11_line_176 rfl 1 rfl ?_
                        refine g_get (T := TX11) E fw_X11 0 (wC_0 g ad o29) rfl 6 (by decide) w_464 rfl rfl gdX11_line_177 ?_
                        refine g_iload E gdX11_line_180 0 rfl ?_
                        refine g_aload_n E gdX11_line_182 rfl 1 rfl ?_
                        refine g_get (T := TX11) E fw_X11 0 (wC_0 g ad o29) rfl 8 (by decide) w_466 rfl rfl gdX11_line_183 ?_
                        refine g_get (T := TX10) E fw_X10 53 (wC_53 g ad o29) rfl 1 (by decide) w_335 rfl rfl gdX11_line_186 ?_
                        refine g_aload_n E gdX11_line_189 rfl 1 rfl ?_
                        refine g_get (T := TX11) E fw_X11 0 (wC_0 g ad o29) rfl 8 (by decide) w_466 rfl rfl gdX11_line_190 ?_
                        refine g_get (T := TX10) E fw_X10 53 (wC_53 g ad o29) rfl 2 (by decide) w_337 rfl rfl gdX11_line_193 ?_
                        refine g_aload_n E gdX11_line_196 rfl 1 rfl ?_
                        refine g_get (T := TX11) E fw_X11 0 (wC_0 g ad o29) rfl 8 (by decide) w_466 rfl rfl gdX11_line_197 ?_
                        refine g_get (T := TX10) E fw_X10 53 (wC_53 g ad o29) rfl 3 (by decide) w_339 rfl rfl gdX11_line_200 ?_
                        obtain ⟨o32, hc31, h⟩ := qB_of h
                        refine g_Vv (As := [iv r27, .ref (ad 55), iv (o29.1 53 2), iv (o29.1 53 3)]) (rest := []) (w := wC g ad o32) E (c_X4_route l g ad o29 r27 (o29.1 53 2) (o29.1 53 3) o32 hc31) okm_X4_route okw_X4_route w_873 rfl (wC_32 g ad o29) rfl rfl (Nat.le_of_ble_eq_true rfl) ⟨Nat.le_of_ble_eq_true rfl, Nat.le_of_ble_eq_true rfl⟩ gdX11_line_203 ?_
                        refine g_iload E gdX11_line_206 0 rfl ?_
                        exact g_iret E hQ (by rw [← Option.some.inj h]) (by rw [← Option.some.inj h]) gdX11_line_208
                      ·
                        refine g_aload_n E gdX11_line_154 rfl 0 rfl ?_
                        refine g_iconst E gdX11_line_155 ?_
                        obtain ⟨r33, o35, hc34, h⟩ := qB2_of h
                        refine g_Vi (r := r33) (As := [iv 1]) (rest := []) (w := wC g ad o35) E (c_X11_found l g ad o26 1 (r33, o35) hc34) okm_X11_found okw_X11_found w_521 rfl (wC_0 g ad o26) rfl rfl (Nat.le_of_ble_eq_true rfl) ⟨Nat.le_of_ble_eq_true rfl, Nat.le_of_ble_eq_true rfl⟩ gdX11_line_156 ?_
                        exact g_iret E hQ (by rw [← Option.some.inj h]) (by rw [← Option.some.inj h]) gdX11_line_159
                    ·
                      refine g_sub E [] rfl ?_
                      exact j125 o h
                ·
                  refine g_aload_n E gdX11_line_97 rfl 0 rfl ?_
                  refine g_iconst E gdX11_line_98 ?_
                  obtain ⟨r36, o38, hc37, h⟩ := qB2_of h
                  refine g_Vi (r := r36) (As := [iv 3]) (rest := []) (w := wC g ad o38) E (c_X11_found l g ad o 3 (r36, o38) hc37) okm_X11_found okw_X11_found w_521 rfl (wC_0 g ad o) rfl rfl (Nat.le_of_ble_eq_true rfl) ⟨Nat.le_of_ble_eq_true rfl, Nat.le_of_ble_eq_true rfl⟩ gdX11_line_99 ?_
                  exact g_iret E hQ (by rw [← Option.some.inj h]) (by rw [← Option.some.inj h]) gdX11_line_102
              ·
                refine g_aload_n E gdX11_line_76 rfl 0 rfl ?_
                refine g_iconst E gdX11_line_77 ?_
                obtain ⟨r39, o41, hc40, h⟩ := qB2_of h
                refine g_Vi (r := r39) (As := [iv 5]) (rest := []) (w := wC g ad o41) E (c_X11_found l g ad o 5 (r39, o41) hc40) okm_X11_found okw_X11_found w_521 rfl (wC_0 g ad o) rfl rfl (Nat.le_of_ble_eq_true rfl) ⟨Nat.le_of_ble_eq_true rfl, Nat.le_of_ble_eq_true rfl⟩ gdX11_line_78 ?_
                exact g_iret E hQ (by rw [← Option.some.inj h]) (by rw [← Option.some.inj h]) gdX11_line_81
            ·
              refine g_aload_n E gdX11_line_58 rfl 0 rfl ?_
              refine g_iconst E gdX11_line_59 ?_
              obtain ⟨r42, o44, hc43, h⟩ := qB2_of h
              refine g_Vi (r := r42) (As := [iv 1]) (rest := []) (w := wC g ad o44) E (c_X11_found l g ad o 1 (r42, o44) hc43) okm_X11_found okw_X11_found w_521 rfl (wC_0 g ad o) rfl rfl (Nat.le_of_ble_eq_true rfl) ⟨Nat.le_of_ble_eq_true rfl, Nat.le_of_ble_eq_true rfl⟩ gdX11_line_60 ?_
              exact g_iret E hQ (by rw [← Option.some.inj h]) (by rw [← Option.some.inj h]) gdX11_line_63
          ·
            refine g_bipush E gdX11_line_44 (by decide) ?_
            exact g_iret E hQ (by rw [← Option.some.inj h]) (by rw [← Option.some.inj h]) gdX11_line_46
        ·
          refine g_sub E [] rfl ?_
          exact j30 o h
noncomputable def s_X4_lengthOf (o : OO) (x1 : Int) : Option (Int) := qIn x1 24 (qNm (o.1 36 x1.toNat) (fun n2 => some n2))
set_option maxHeartbeats 4000000 in
set_option maxRecDepth 100000 in
theorem c_X4_lengthOf (l : Launch) (g : GG) (ad : Nat → Nat) (o : OO) (x1 : Int) (v : Int) (h : s_X4_lengthOf o x1 = some v) : CI l g yX4_lengthOf cX4_lengthOf 2 (some .int) 0 0 (wC g ad o) [.ref (ad 32), iv x1] v (wC g ad o) := by
  refine met_I (by decide) (Nat.le_of_ble_eq_true rfl) ?_
  intro X E hQ
  show Go X 0 (wC g ad o) [(0, .ref (ad 32)), (1, iv x1)] []
  unfold s_X4_lengthOf at h
  refine g_aload_n E gdX4_lengthOf_0 rfl 0 rfl ?_
  refine g_get (T := TX4) E fw_X4 32 (wC_32 g ad o) rfl 3 (by decide) w_254 rfl rfl gdX4_lengthOf_1 ?_
  refine g_iload_n E gdX4_lengthOf_4 rfl 1 rfl ?_
  obtain ⟨hi1, h⟩ := qIn_of h
  refine g_iald E 36 (wC_36 g ad o) (by decide) hi1 gdX4_lengthOf_5 ?_
  obtain ⟨n2, e_n2, h⟩ := qNm_of h
  refine g_nmi e_n2 ?_
  exact g_iret E hQ (Option.some.inj h) rfl gdX4_lengthOf_6
noncomputable def b_X11_mark_22 (o : OO) : Option (Int × OO) := some ((-1), o)
noncomputable def s_X11_mark (o : OO) (x1 : Int) (x2 : Int) : Option (Int × OO) := qB (s_X4_exists o x1) (fun r1 => qEq r1 0 (b_X11_mark_22 o) (qLt x2 1 (b_X11_mark_22 o) (qLt 6 x2 (b_X11_mark_22 o) (qB (s_X4_isOf o x1 x2) (fun r3 => qEq r3 0 (qB2 (s_X11_found o 3) (fun r19 o21 => some (r19, o21))) (qEq x2 1 (qB (s_X4_lengthOf o x1) (fun r5 => some (r5, o))) (qEq x2 2 (qB (s_X4_cellAt o x1 0) (fun r7 => some (r7, o))) (qEq x2 3 (qB (s_X4_amountOf o x1) (fun r9 => some (r9, o))) (qEq x2 4 (qB (s_X4_partyOf o x1) (fun r11 => some (r11, o))) (qEq x2 5 (qB (s_X4_amountOf o x1) (fun r13 => some (r13, o))) (qEq x2 6 (qB (s_X11_couldCome o x1) (fun r15 => some (r15, o))) (qB (s_X4_amountOf o x1) (fun r17 => some (r17, o))))))))))))))
set_option maxHeartbeats 4000000 in
set_option maxRecDepth 100000 in
theorem c_X11_mark (l : Launch) (g : GG) (ad : Nat → Nat) (o : OO) (x1 : Int) (x2 : Int) (v : Int × OO) (h : s_X11_mark o x1 x2 = some v) : CI l g yX11_mark cX11_mark 3 (some .int) 3 67 (wC g ad o) [.ref (ad 0), iv x1, iv x2] v.1 (wC g ad v.2) := by
  refine met_I (by decide) (Nat.le_of_ble_eq_true rfl) ?_
  intro X E hQ
  show Go X 0 (wC g ad o) [(0, .ref (ad 0)), (1, iv x1), (2, iv x2)] []
  have j22 : ∀ (o : OO), b_X11_mark_22 o = some v → Go X 22 (wC g ad o) [] [] := by
    intro o h
    unfold b_X11_mark_22 at h
    refine g_iconst E gdX11_mark_22 ?_
    exact g_iret E hQ (by rw [← Option.some.inj h]) (by rw [← Option.some.inj h]) gdX11_mark_23
  unfold s_X11_mark at h
  refine g_aload_n E gdX11_mark_0 rfl 0 rfl ?_
  refine g_get (T := TX11) E fw_X11 0 (wC_0 g ad o) rfl 6 (by decide) w_464 rfl rfl gdX11_mark_1 ?_
  refine g_iload_n E gdX11_mark_4 rfl 1 rfl ?_
  obtain ⟨r1, hc2, h⟩ := qB_of h
  refine g_Vi (r := r1) (As := [iv x1]) (rest := []) (w := wC g ad o) E (c_X4_exists l g ad o x1 r1 hc2) okm_X4_exists okw_X4_exists w_882 rfl (wC_32 g ad o) rfl rfl (Nat.le_of_ble_eq_true rfl) ⟨Nat.le_of_ble_eq_true rfl, Nat.le_of_ble_eq_true rfl⟩ gdX11_mark_5 ?_
  refine g_if_eq E 22 gdX11_mark_8 (by decide) h (fun h => ?_) (fun h => ?_)
  ·
    refine g_sub E [] rfl ?_
    exact j22 o h
  ·
    refine g_iload_n E gdX11_mark_11 rfl 2 rfl ?_
    refine g_iconst E gdX11_mark_12 ?_
    refine g_icmp_lt E 22 gdX11_mark_13 (by decide) h (fun h => ?_) (fun h => ?_)
    ·
      refine g_sub E [] rfl ?_
      exact j22 o h
    ·
      refine g_iload_n E gdX11_mark_16 rfl 2 rfl ?_
      refine g_bipush E gdX11_mark_17 (by decide) ?_
      refine g_icmp_le E 24 gdX11_mark_19 (by decide) h (fun h => ?_) (fun h => ?_)
      ·
        refine g_aload_n E gdX11_mark_24 rfl 0 rfl ?_
        refine g_get (T := TX11) E fw_X11 0 (wC_0 g ad o) rfl 6 (by decide) w_464 rfl rfl gdX11_mark_25 ?_
        refine g_iload_n E gdX11_mark_28 rfl 1 rfl ?_
        refine g_iload_n E gdX11_mark_29 rfl 2 rfl ?_
        obtain ⟨r3, hc4, h⟩ := qB_of h
        refine g_Vi (r := r3) (As := [iv x1, iv x2]) (rest := []) (w := wC g ad o) E (c_X4_isOf l g ad o x1 x2 r3 hc4) okm_X4_isOf okw_X4_isOf w_886 rfl (wC_32 g ad o) rfl rfl (Nat.le_of_ble_eq_true rfl) ⟨Nat.le_of_ble_eq_true rfl, Nat.le_of_ble_eq_true rfl⟩ gdX11_mark_30 ?_
        refine g_if_ne E 42 gdX11_mark_33 (by decide) h (fun h => ?_) (fun h => ?_)
        ·
          refine g_iload_n E gdX11_mark_42 rfl 2 rfl ?_
          obtain ⟨h1, -, ⟨hx, h⟩ | ⟨hx0, h⟩⟩ := qEq_of h
          ·
            refine g_tabIn (kx := 1) (off := 37) E 80 gdX11_mark_43 hx (by decide) (by decide) (by decide) (by decide) (by decide) ?_
            refine g_aload_n E gdX11_mark_80 rfl 0 rfl ?_
            refine g_get (T := TX11) E fw_X11 0 (wC_0 g ad o) rfl 6 (by decide) w_464 rfl rfl gdX11_mark_81 ?_
            refine g_iload_n E gdX11_mark_84 rfl 1 rfl ?_
            obtain ⟨r5, hc6, h⟩ := qB_of h
            refine g_Vi (r := r5) (As := [iv x1]) (rest := []) (w := wC g ad o) E (c_X4_lengthOf l g ad o x1 r5 hc6) okm_X4_lengthOf okw_X4_lengthOf w_1023 rfl (wC_32 g ad o) rfl rfl (Nat.le_of_ble_eq_true rfl) ⟨Nat.le_of_ble_eq_true rfl, Nat.le_of_ble_eq_true rfl⟩ gdX11_mark_85 ?_
            exact g_iret E hQ (by rw [← Option.some.inj h]) (by rw [← Option.some.inj h]) gdX11_mark_88
          ·
            obtain ⟨h1, -, ⟨hx, h⟩ | ⟨hx1, h⟩⟩ := qEq_of h
            ·
              refine g_tabIn (kx := 2) (off := 46) E 89 gdX11_mark_43 hx (by decide) (by decide) (by decide) (by decide) (by decide) ?_
              refine g_aload_n E gdX11_mark_89 rfl 0 rfl ?_
              refine g_get (T := TX11) E fw_X11 0 (wC_0 g ad o) rfl 6 (by decide) w_464 rfl rfl gdX11_mark_90 ?_
              refine g_iload_n E gdX11_mark_93 rfl 1 rfl ?_
              refine g_iconst E gdX11_mark_94 ?_
              obtain ⟨r7, hc8, h⟩ := qB_of h
              refine g_Vi (r := r7) (As := [iv x1, iv 0]) (rest := []) (w := wC g ad o) E (c_X4_cellAt l g ad o x1 0 r7 hc8) okm_X4_cellAt okw_X4_cellAt w_911 rfl (wC_32 g ad o) rfl rfl (Nat.le_of_ble_eq_true rfl) ⟨Nat.le_of_ble_eq_true rfl, Nat.le_of_ble_eq_true rfl⟩ gdX11_mark_95 ?_
              exact g_iret E hQ (by rw [← Option.some.inj h]) (by rw [← Option.some.inj h]) gdX11_mark_98
            ·
              obtain ⟨h1, -, ⟨hx, h⟩ | ⟨hx2, h⟩⟩ := qEq_of h
              ·
                refine g_tabIn (kx := 3) (off := 71) E 114 gdX11_mark_43 hx (by decide) (by decide) (by decide) (by decide) (by decide) ?_
                refine g_aload_n E gdX11_mark_114 rfl 0 rfl ?_
                refine g_get (T := TX11) E fw_X11 0 (wC_0 g ad o) rfl 6 (by decide) w_464 rfl rfl gdX11_mark_115 ?_
                refine g_iload_n E gdX11_mark_118 rfl 1 rfl ?_
                obtain ⟨r9, hc10, h⟩ := qB_of h
                refine g_Vi (r := r9) (As := [iv x1]) (rest := []) (w := wC g ad o) E (c_X4_amountOf l g ad o x1 r9 hc10) okm_X4_amountOf okw_X4_amountOf w_1046 rfl (wC_32 g ad o) rfl rfl (Nat.le_of_ble_eq_true rfl) ⟨Nat.le_of_ble_eq_true rfl, Nat.le_of_ble_eq_true rfl⟩ gdX11_mark_119 ?_
                exact g_iret E hQ (by rw [← Option.some.inj h]) (by rw [← Option.some.inj h]) gdX11_mark_122
              ·
                obtain ⟨h1, -, ⟨hx, h⟩ | ⟨hx3, h⟩⟩ := qEq_of h
                ·
                  refine g_tabIn (kx := 4) (off := 56) E 99 gdX11_mark_43 hx (by decide) (by decide) (by decide) (by decide) (by decide) ?_
                  refine g_aload_n E gdX11_mark_99 rfl 0 rfl ?_
                  refine g_get (T := TX11) E fw_X11 0 (wC_0 g ad o) rfl 6 (by decide) w_464 rfl rfl gdX11_mark_100 ?_
                  refine g_iload_n E gdX11_mark_103 rfl 1 rfl ?_
                  obtain ⟨r11, hc12, h⟩ := qB_of h
                  refine g_Vi (r := r11) (As := [iv x1]) (rest := []) (w := wC g ad o) E (c_X4_partyOf l g ad o x1 r11 hc12) okm_X4_partyOf okw_X4_partyOf w_1027 rfl (wC_32 g ad o) rfl rfl (Nat.le_of_ble_eq_true rfl) ⟨Nat.le_of_ble_eq_true rfl, Nat.le_of_ble_eq_true rfl⟩ gdX11_mark_104 ?_
                  exact g_iret E hQ (by rw [← Option.some.inj h]) (by rw [← Option.some.inj h]) gdX11_mark_107
                ·
                  obtain ⟨h1, -, ⟨hx, h⟩ | ⟨hx4, h⟩⟩ := qEq_of h
                  ·
                    refine g_tabIn (kx := 5) (off := 71) E 114 gdX11_mark_43 hx (by decide) (by decide) (by decide) (by decide) (by decide) ?_
                    refine g_aload_n E gdX11_mark_114 rfl 0 rfl ?_
                    refine g_get (T := TX11) E fw_X11 0 (wC_0 g ad o) rfl 6 (by decide) w_464 rfl rfl gdX11_mark_115 ?_
                    refine g_iload_n E gdX11_mark_118 rfl 1 rfl ?_
                    obtain ⟨r13, hc14, h⟩ := qB_of h
                    refine g_Vi (r := r13) (As := [iv x1]) (rest := []) (w := wC g ad o) E (c_X4_amountOf l g ad o x1 r13 hc14) okm_X4_amountOf okw_X4_amountOf w_1046 rfl (wC_32 g ad o) rfl rfl (Nat.le_of_ble_eq_true rfl) ⟨Nat.le_of_ble_eq_true rfl, Nat.le_of_ble_eq_true rfl⟩ gdX11_mark_119 ?_
                    exact g_iret E hQ (by rw [← Option.some.inj h]) (by rw [← Option.some.inj h]) gdX11_mark_122
                  ·
                    obtain ⟨h1, -, ⟨hx, h⟩ | ⟨hx5, h⟩⟩ := qEq_of h
                    ·
                      refine g_tabIn (kx := 6) (off := 65) E 108 gdX11_mark_43 hx (by decide) (by decide) (by decide) (by decide) (by decide) ?_
                      refine g_aload_n E gdX11_mark_108 rfl 0 rfl ?_
                      refine g_iload_n E gdX11_mark_109 rfl 1 rfl ?_
                      obtain ⟨r15, hc16, h⟩ := qB_of h
                      refine g_Vi (r := r15) (As := [iv x1]) (rest := []) (w := wC g ad o) E (c_X11_couldCome l g ad o x1 r15 hc16) okm_X11_couldCome okw_X11_couldCome w_1031 rfl (wC_0 g ad o) rfl rfl (Nat.le_of_ble_eq_true rfl) ⟨Nat.le_of_ble_eq_true rfl, Nat.le_of_ble_eq_true rfl⟩ gdX11_mark_110 ?_
                      exact g_iret E hQ (by rw [← Option.some.inj h]) (by rw [← Option.some.inj h]) gdX11_mark_113
                    ·
                      refine g_tabOut E 114 gdX11_mark_43 h1 (by omega) (by decide) ?_
                      refine g_aload_n E gdX11_mark_114 rfl 0 rfl ?_
                      refine g_get (T := TX11) E fw_X11 0 (wC_0 g ad o) rfl 6 (by decide) w_464 rfl rfl gdX11_mark_115 ?_
                      refine g_iload_n E gdX11_mark_118 rfl 1 rfl ?_
                      obtain ⟨r17, hc18, h⟩ := qB_of h
                      refine g_Vi (r := r17) (As := [iv x1]) (rest := []) (w := wC g ad o) E (c_X4_amountOf l g ad o x1 r17 hc18) okm_X4_amountOf okw_X4_amountOf w_1046 rfl (wC_32 g ad o) rfl rfl (Nat.le_of_ble_eq_true rfl) ⟨Nat.le_of_ble_eq_true rfl, Nat.le_of_ble_eq_true rfl⟩ gdX11_mark_119 ?_
                      exact g_iret E hQ (by rw [← Option.some.inj h]) (by rw [← Option.some.inj h]) gdX11_mark_122
        ·
          refine g_aload_n E gdX11_mark_36 rfl 0 rfl ?_
          refine g_iconst E gdX11_mark_37 ?_
          obtain ⟨r19, o21, hc20, h⟩ := qB2_of h
          refine g_Vi (r := r19) (As := [iv 3]) (rest := []) (w := wC g ad o21) E (c_X11_found l g ad o 3 (r19, o21) hc20) okm_X11_found okw_X11_found w_521 rfl (wC_0 g ad o) rfl rfl (Nat.le_of_ble_eq_true rfl) ⟨Nat.le_of_ble_eq_true rfl, Nat.le_of_ble_eq_true rfl⟩ gdX11_mark_38 ?_
          exact g_iret E hQ (by rw [← Option.some.inj h]) (by rw [← Option.some.inj h]) gdX11_mark_41
      ·
        refine g_sub E [] rfl ?_
        exact j22 o h
noncomputable def b_X11_mean_65 (o : OO) (x2 : Int) (x3 : Int) : Option (Int × OO) := qEq x2 0 (qB2 (s_X11_found o 4) (fun r5 o7 => some (r5, o7))) (qDv x3 x2 (qB2 (s_X11_tell o (jq x3 x2)) (fun r2 o4 => some (r2, o4))))
noncomputable def b_X11_mean_59 (o : OO) (x1 : Int) (x2 : Int) (x3 : Int) (x4 : Int) : Option ((Int × Int × Int) ⊕ ((Int × Int))) := some (.inl (x2, x3, x4 + 1))
noncomputable def l_X11_mean_16 (o : OO) (x1 : Int) (x2 : Int) (x3 : Int) (x4 : Int) : Option ((Int × Int × Int) ⊕ ((Int × Int))) := qB (s_X1_number o) (fun r8 => qLt x4 r8 (qB (s_X1_stands o x4 x1) (fun r10 => qEq r10 0 (b_X11_mean_59 o x1 x2 x3 x4) (qB (s_X1_latestWorth o x4) (fun r12 => qNm (x3 + r12) (fun n14 => b_X11_mean_59 o x1 (x2 + 1) n14 x4))))) (some (.inr ((x2, x3)))))
noncomputable def e_X11_mean_16 (o : OO) (x1 : Int) (x2 : Int) (x3 : Int) (x4 : Int) : Option (Int × OO) := qB (loopW (fun s => l_X11_mean_16 o x1 s.1 s.2.1 s.2.2) (x2, x3, x4)) (fun r => b_X11_mean_65 o r.1 r.2)
noncomputable def s_X11_mean (o : OO) (x1 : Int) : Option (Int × OO) := qB (s_X1_isUse x1) (fun r15 => qEq r15 0 (some ((-1), o)) (e_X11_mean_16 o x1 0 0 0))
set_option maxHeartbeats 4000000 in
set_option maxRecDepth 100000 in
theorem c_X11_mean (l : Launch) (g : GG) (ad : Nat → Nat) (o : OO) (x1 : Int) (v : Int × OO) (h : s_X11_mean o x1 = some v) : CI l g yX11_mean cX11_mean 5 (some .int) 1 22 (wC g ad o) [.ref (ad 0), iv x1] v.1 (wC g ad v.2) := by
  refine met_I (by decide) (Nat.le_of_ble_eq_true rfl) ?_
  intro X E hQ
  show Go X 0 (wC g ad o) [(0, .ref (ad 0)), (1, iv x1)] []
  have j65 : ∀ (o : OO) (x2 : Int) (x3 : Int), b_X11_mean_65 o x2 x3 = some v → Go X 65 (wC g ad o) [(0, .ref (ad 0)), (2, iv x2), (3, iv x3)] [] := by
    intro o x2 x3 h
    unfold b_X11_mean_65 at h
    refine g_iload_n E gdX11_mean_65 rfl 1 rfl ?_
    refine g_if_ne E 75 gdX11_mean_66 (by decide) h (fun h => ?_) (fun h => ?_)
    ·
      refine g_aload_n E gdX11_mean_75 rfl 0 rfl ?_
      refine g_iload_n E gdX11_mean_76 rfl 2 rfl ?_
      refine g_iload_n E gdX11_mean_77 rfl 1 rfl ?_
      obtain ⟨hd1, h⟩ := qDv_of h
      refine g_idiv E hd1 gdX11_mean_78 ?_
      obtain ⟨r2, o4, hc3, h⟩ := qB2_of h
      refine g_Vi (r := r2) (As := [iv (jq x3 x2)]) (rest := []) (w := wC g ad o4) E (c_X11_tell l g ad o (jq x3 x2) (r2, o4) hc3) okm_X11_tell okw_X11_tell w_551 rfl (wC_0 g ad o) rfl rfl (Nat.le_of_ble_eq_true rfl) ⟨Nat.le_of_ble_eq_true rfl, Nat.le_of_ble_eq_true rfl⟩ gdX11_mean_79 ?_
      exact g_iret E hQ (by rw [← Option.some.inj h]) (by rw [← Option.some.inj h]) gdX11_mean_82
    ·
      refine g_aload_n E gdX11_mean_69 rfl 0 rfl ?_
      refine g_iconst E gdX11_mean_70 ?_
      obtain ⟨r5, o7, hc6, h⟩ := qB2_of h
      refine g_Vi (r := r5) (As := [iv 4]) (rest := []) (w := wC g ad o7) E (c_X11_found l g ad o 4 (r5, o7) hc6) okm_X11_found okw_X11_found w_521 rfl (wC_0 g ad o) rfl rfl (Nat.le_of_ble_eq_true rfl) ⟨Nat.le_of_ble_eq_true rfl, Nat.le_of_ble_eq_true rfl⟩ gdX11_mean_71 ?_
      exact g_iret E hQ (by rw [← Option.some.inj h]) (by rw [← Option.some.inj h]) gdX11_mean_74
  have j59 : ∀ (o : OO) (x1 : Int) (x2 : Int) (x3 : Int) (x4 : Int) (v : (Int × Int × Int) ⊕ ((Int × Int))), b_X11_mean_59 o x1 x2 x3 x4 = some v → (∀ (x2 : Int) (x3 : Int) (x4 : Int), v = .inl (x2, x3, x4) → Go X 16 (wC g ad o) [(0, .ref (ad 0)), (1, iv x1), (2, iv x2), (3, iv x3), (4, iv x4)] []) → (∀ (x2 : Int) (x3 : Int), v = .inr ((x2, x3)) → Go X 65 (wC g ad o) [(0, .ref (ad 0)), (2, iv x2), (3, iv x3)] []) → Go X 59 (wC g ad o) [(0, .ref (ad 0)), (1, iv x1), (2, iv x2), (3, iv x3), (4, iv x4)] [] := by
    intro o x1 x2 x3 x4 v h k0 k1
    unfold b_X11_mean_59 at h
    refine g_iinc E [(4, iv (x4 + 1)), (0, .ref (ad 0)), (1, iv x1), (2, iv x2), (3, iv x3)] gdX11_mean_59 4 rfl (by decide) rfl ?_
    refine g_goto E 16 gdX11_mean_62 (by decide) ?_
    refine g_sub E [1, 2, 3, 4, 0] rfl ?_
    exact k0 x2 x3 (x4 + 1) (Option.some.inj h).symm
  have l16 : ∀ (o : OO) (x1 : Int) (r : (Int × Int)) (s0 : Int × Int × Int), loopW (fun s => l_X11_mean_16 o x1 s.1 s.2.1 s.2.2) s0 = some r → (∀ (x2 : Int) (x3 : Int), r = ((x2, x3)) → Go X 65 (wC g ad o) [(0, .ref (ad 0)), (2, iv x2), (3, iv x3)] []) → Go X 16 (wC g ad o) [(0, .ref (ad 0)), (1, iv x1), (2, iv s0.1), (3, iv s0.2.1), (4, iv s0.2.2)] [] := by
    intro o x1 r s0 h k1
    refine loop_rule (Head := fun s0 => Go X 16 (wC g ad o) [(0, .ref (ad 0)), (1, iv x1), (2, iv s0.1), (3, iv s0.2.1), (4, iv s0.2.2)] []) h ?_
    intro s v h kk kx
    obtain ⟨x2, x3, x4⟩ := s
    have h : l_X11_mean_16 o x1 x2 x3 x4 = some v := h
    have k0 : ∀ (x2 : Int) (x3 : Int) (x4 : Int), v = .inl (x2, x3, x4) → Go X 16 (wC g ad o) [(0, .ref (ad 0)), (1, iv x1), (2, iv x2), (3, iv x3), (4, iv x4)] [] := fun x2 x3 x4 e => kk (x2, x3, x4) e
    have k1 : ∀ (x2 : Int) (x3 : Int), v = .inr ((x2, x3)) → Go X 65 (wC g ad o) [(0, .ref (ad 0)), (2, iv x2), (3, iv x3)] [] := fun x2 x3 e => k1 x2 x3 (kx _ e).symm
    unfold l_X11_mean_16 at h
    refine g_iload E gdX11_mean_16 4 rfl ?_
    refine g_aload_n E gdX11_mean_18 rfl 0 rfl ?_
    refine g_get (T := TX11) E fw_X11 0 (wC_0 g ad o) rfl 3 (by decide) w_461 rfl rfl gdX11_mean_19 ?_
    obtain ⟨r8, hc9, h⟩ := qB_of h
    refine g_Vi (r := r8) (As := []) (rest := [iv x4]) (w := wC g ad o) E (c_X1_number l g ad o r8 hc9) okm_X1_number okw_X1_number w_643 rfl (wC_10 g ad o) rfl rfl (Nat.le_of_ble_eq_true rfl) ⟨Nat.le_of_ble_eq_true rfl, Nat.le_of_ble_eq_true rfl⟩ gdX11_mean_22 ?_
    refine g_icmp_ge E 65 gdX11_mean_25 (by decide) h (fun h => ?_) (fun h => ?_)
    ·
      refine g_sub E [0, 2, 3] rfl ?_
      exact k1 x2 x3 (Option.some.inj h).symm
    ·
      refine g_aload_n E gdX11_mean_28 rfl 0 rfl ?_
      refine g_get (T := TX11) E fw_X11 0 (wC_0 g ad o) rfl 3 (by decide) w_461 rfl rfl gdX11_mean_29 ?_
      refine g_iload E gdX11_mean_32 4 rfl ?_
      refine g_iload_n E gdX11_mean_34 rfl 1 rfl ?_
      obtain ⟨r10, hc11, h⟩ := qB_of h
      refine g_Vi (r := r10) (As := [iv x4, iv x1]) (rest := []) (w := wC g ad o) E (c_X1_stands l g ad o x4 x1 r10 hc11) okm_X1_stands okw_X1_stands w_747 rfl (wC_10 g ad o) rfl rfl (Nat.le_of_ble_eq_true rfl) ⟨Nat.le_of_ble_eq_true rfl, Nat.le_of_ble_eq_true rfl⟩ gdX11_mean_35 ?_
      refine g_if_ne E 44 gdX11_mean_38 (by decide) h (fun h => ?_) (fun h => ?_)
      ·
        refine g_iinc E [(2, iv (x2 + 1)), (0, .ref (ad 0)), (1, iv x1), (3, iv x3), (4, iv x4)] gdX11_mean_44 2 rfl (by decide) rfl ?_
        refine g_iload_n E gdX11_mean_47 rfl 3 rfl ?_
        refine g_aload_n E gdX11_mean_48 rfl 1 rfl ?_
        refine g_get (T := TX11) E fw_X11 0 (wC_0 g ad o) rfl 3 (by decide) w_461 rfl rfl gdX11_mean_49 ?_
        refine g_iload E gdX11_mean_52 4 rfl ?_
        obtain ⟨r12, hc13, h⟩ := qB_of h
        refine g_Vi (r := r12) (As := [iv x4]) (rest := [iv x3]) (w := wC g ad o) E (c_X1_latestWorth l g ad o x4 r12 hc13) okm_X1_latestWorth okw_X1_latestWorth w_675 rfl (wC_10 g ad o) rfl rfl (Nat.le_of_ble_eq_true rfl) ⟨Nat.le_of_ble_eq_true rfl, Nat.le_of_ble_eq_true rfl⟩ gdX11_mean_54 ?_
        refine g_iadd E gdX11_mean_57 ?_
        obtain ⟨n14, e_n14, h⟩ := qNm_of h
        refine g_nmi e_n14 ?_
        refine g_istore_n E [(3, iv n14), (2, iv (x2 + 1)), (0, .ref (ad 0)), (1, iv x1), (4, iv x4)] gdX11_mean_58 rfl (by decide) rfl ?_
        refine g_sub E [2, 3, 1, 0, 4] rfl ?_
        exact j59 o x1 (x2 + 1) n14 x4 v h k0 k1
      ·
        refine g_goto E 59 gdX11_mean_41 (by decide) ?_
        exact j59 o x1 x2 x3 x4 v h k0 k1
  have j16 : ∀ (o : OO) (x1 : Int) (x2 : Int) (x3 : Int) (x4 : Int), e_X11_mean_16 o x1 x2 x3 x4 = some v → Go X 16 (wC g ad o) [(0, .ref (ad 0)), (1, iv x1), (2, iv x2), (3, iv x3), (4, iv x4)] [] := by
    intro o x1 x2 x3 x4 h
    unfold e_X11_mean_16 at h
    obtain ⟨r, hr, h⟩ := qB_of h
    refine l16 o x1 r _ hr ?_
    ·
      intro u0 u1 e
      subst e
      have h : b_X11_mean_65 o u0 u1 = some v := h
      exact j65 o u0 u1 h
  unfold s_X11_mean at h
  refine g_iload_n E gdX11_mean_0 rfl 1 rfl ?_
  obtain ⟨r15, hc16, h⟩ := qB_of h
  refine g_Si (r := r15) (As := [iv x1]) (rest := []) (w := wC g ad o) E (c_X1_isUse l g (wC g ad o) x1 r15 hc16) okm_X1_isUse w_637 w_636 rfl rfl (Nat.le_of_ble_eq_true rfl) ⟨Nat.le_of_ble_eq_true rfl, Nat.le_of_ble_eq_true rfl⟩ gdX11_mean_1 ?_
  refine g_if_ne E 9 gdX11_mean_4 (by decide) h (fun h => ?_) (fun h => ?_)
  ·
    refine g_iconst E gdX11_mean_9 ?_
    refine g_istore_n E [(2, iv 0), (0, .ref (ad 0)), (1, iv x1)] gdX11_mean_10 rfl (by decide) rfl ?_
    refine g_iconst E gdX11_mean_11 ?_
    refine g_istore_n E [(3, iv 0), (2, iv 0), (0, .ref (ad 0)), (1, iv x1)] gdX11_mean_12 rfl (by decide) rfl ?_
    refine g_iconst E gdX11_mean_13 ?_
    refine g_istore E [(4, iv 0), (3, iv 0), (2, iv 0), (0, .ref (ad 0)), (1, iv x1)] gdX11_mean_14 (by decide) rfl ?_
    refine g_sub E [3, 4, 2, 1, 0] rfl ?_
    exact j16 o x1 0 0 0 h
  ·
    refine g_iconst E gdX11_mean_7 ?_
    exact g_iret E hQ (by rw [← Option.some.inj h]) (by rw [← Option.some.inj h]) gdX11_mean_8
noncomputable def b_X4_livedThere_20 (o : OO) (y0 : Int) : Option (Int) := qZ y0 (some y0)
noncomputable def s_X4_livedThere (o : OO) (x1 : Int) (x2 : Int) : Option (Int) := qIn x1 24 (qNm (o.2 45 x1.toNat) (fun m2 => qJe ((jushr m2 (Int32.ofInt x2)) &&& (1 : Int64)) (1 : Int64) (b_X4_livedThere_20 o 1) (b_X4_livedThere_20 o 0)))
set_option maxHeartbeats 4000000 in
set_option maxRecDepth 100000 in
theorem c_X4_livedThere (l : Launch) (g : GG) (ad : Nat → Nat) (o : OO) (x1 : Int) (x2 : Int) (v : Int) (h : s_X4_livedThere o x1 x2 = some v) : CI l g yX4_livedThere cX4_livedThere 3 (some .boolean) 0 0 (wC g ad o) [.ref (ad 32), iv x1, iv x2] v (wC g ad o) := by
  refine met_I (by decide) (Nat.le_of_ble_eq_true rfl) ?_
  intro X E hQ
  show Go X 0 (wC g ad o) [(0, .ref (ad 32)), (1, iv x1), (2, iv x2)] []
  have j20 : ∀ (y0 : Int), b_X4_livedThere_20 o y0 = some v → Go X 20 (wC g ad o) [] [iv y0] := by
    intro y0 h
    unfold b_X4_livedThere_20 at h
    obtain ⟨hz, h⟩ := qZ_of h
    exact g_zret E hQ hz (Option.some.inj h) rfl gdX4_livedThere_20
  unfold s_X4_livedThere at h
  refine g_aload_n E gdX4_livedThere_0 rfl 0 rfl ?_
  refine g_get (T := TX4) E fw_X4 32 (wC_32 g ad o) rfl 12 (by decide) w_263 rfl rfl gdX4_livedThere_1 ?_
  refine g_iload_n E gdX4_livedThere_4 rfl 1 rfl ?_
  obtain ⟨hi1, h⟩ := qIn_of h
  refine g_lald E 45 (wC_45 g ad o) (by decide) hi1 gdX4_livedThere_5 ?_
  obtain ⟨m2, e_m2, h⟩ := qNm_of h
  refine g_nml e_m2 ?_
  refine g_iload_n E gdX4_livedThere_6 rfl 2 rfl ?_
  refine g_lushr E gdX4_livedThere_7 ?_
  refine g_lconst (v := 1) E gdX4_livedThere_8 (by decide) ?_
  refine g_land E gdX4_livedThere_9 ?_
  refine g_lconst (v := 1) E gdX4_livedThere_10 (by decide) ?_
  refine g_lcmp_ne E 19 gdX4_livedThere_11 gdX4_livedThere_12 (by decide) h (fun h => ?_) (fun h => ?_)
  ·
    refine g_iconst E gdX4_livedThere_19 ?_
    refine g_sub E [] rfl ?_
    exact j20 0 h
  ·
    refine g_iconst E gdX4_livedThere_15 ?_
    refine g_goto E 20 gdX4_livedThere_16 (by decide) ?_
    refine g_sub E [] rfl ?_
    exact j20 1 h
noncomputable def b_X1_roomsLeft_26 (o : OO) (y0 : Int) : Option (Int) := some y0
noncomputable def s_X1_roomsLeft (o : OO) (x1 : Int) : Option (Int) := qB (s_X1_stands o x1 0) (fun r1 => qEq r1 0 (b_X1_roomsLeft_26 o 0) (qIn x1 32 (qNm (o.1 13 x1.toNat) (fun n4 => qIn x1 32 (qNm (o.1 14 x1.toNat) (fun n6 => b_X1_roomsLeft_26 o (n4 - n6)))))))
set_option maxHeartbeats 4000000 in
set_option maxRecDepth 100000 in
theorem c_X1_roomsLeft (l : Launch) (g : GG) (ad : Nat → Nat) (o : OO) (x1 : Int) (v : Int) (h : s_X1_roomsLeft o x1 = some v) : CI l g yX1_roomsLeft cX1_roomsLeft 2 (some .int) 1 22 (wC g ad o) [.ref (ad 10), iv x1] v (wC g ad o) := by
  refine met_I (by decide) (Nat.le_of_ble_eq_true rfl) ?_
  intro X E hQ
  show Go X 0 (wC g ad o) [(0, .ref (ad 10)), (1, iv x1)] []
  have j26 : ∀ (y0 : Int), b_X1_roomsLeft_26 o y0 = some v → Go X 26 (wC g ad o) [] [iv y0] := by
    intro y0 h
    unfold b_X1_roomsLeft_26 at h
    exact g_iret E hQ (Option.some.inj h) rfl gdX1_roomsLeft_26
  unfold s_X1_roomsLeft at h
  refine g_aload_n E gdX1_roomsLeft_0 rfl 0 rfl ?_
  refine g_iload_n E gdX1_roomsLeft_1 rfl 1 rfl ?_
  refine g_iconst E gdX1_roomsLeft_2 ?_
  obtain ⟨r1, hc2, h⟩ := qB_of h
  refine g_Vi (r := r1) (As := [iv x1, iv 0]) (rest := []) (w := wC g ad o) E (c_X1_stands l g ad o x1 0 r1 hc2) okm_X1_stands okw_X1_stands w_711 rfl (wC_10 g ad o) rfl rfl (Nat.le_of_ble_eq_true rfl) ⟨Nat.le_of_ble_eq_true rfl, Nat.le_of_ble_eq_true rfl⟩ gdX1_roomsLeft_3 ?_
  refine g_if_eq E 25 gdX1_roomsLeft_6 (by decide) h (fun h => ?_) (fun h => ?_)
  ·
    refine g_iconst E gdX1_roomsLeft_25 ?_
    refine g_sub E [] rfl ?_
    exact j26 0 h
  ·
    refine g_aload_n E gdX1_roomsLeft_9 rfl 0 rfl ?_
    refine g_get (T := TX1) E fw_X1 10 (wC_10 g ad o) rfl 2 (by decide) w_162 rfl rfl gdX1_roomsLeft_10 ?_
    refine g_iload_n E gdX1_roomsLeft_13 rfl 1 rfl ?_
    obtain ⟨hi3, h⟩ := qIn_of h
    refine g_iald E 13 (wC_13 g ad o) (by decide) hi3 gdX1_roomsLeft_14 ?_
    obtain ⟨n4, e_n4, h⟩ := qNm_of h
    refine g_nmi e_n4 ?_
    refine g_aload_n E gdX1_roomsLeft_15 rfl 0 rfl ?_
    refine g_get (T := TX1) E fw_X1 10 (wC_10 g ad o) rfl 3 (by decide) w_163 rfl rfl gdX1_roomsLeft_16 ?_
    refine g_iload_n E gdX1_roomsLeft_19 rfl 1 rfl ?_
    obtain ⟨hi5, h⟩ := qIn_of h
    refine g_iald E 14 (wC_14 g ad o) (by decide) hi5 gdX1_roomsLeft_20 ?_
    obtain ⟨n6, e_n6, h⟩ := qNm_of h
    refine g_nmi e_n6 ?_
    refine g_isub E gdX1_roomsLeft_21 ?_
    refine g_goto E 26 gdX1_roomsLeft_22 (by decide) ?_
    refine g_sub E [] rfl ?_
    exact j26 (n4 - n6) h
noncomputable def s_X4_setMoved (o : OO) (x1 : Int) (x2 : Int) (x3 : Int) : Option (OO) := qIn x1 24 (qNm (st1 o 41 x1.toNat x2) (fun o2 => qIn x1 24 (qNm (st1 o2 42 x1.toNat x3) (fun o4 => some o4))))
set_option maxHeartbeats 4000000 in
set_option maxRecDepth 100000 in
theorem c_X4_setMoved (l : Launch) (g : GG) (ad : Nat → Nat) (o : OO) (x1 : Int) (x2 : Int) (x3 : Int) (v : OO) (h : s_X4_setMoved o x1 x2 x3 = some v) : CV l g yX4_setMoved cX4_setMoved 4 0 0 (wC g ad o) [.ref (ad 32), iv x1, iv x2, iv x3] (wC g ad v) := by
  refine met_V (by decide) (Nat.le_of_ble_eq_true rfl) ?_
  intro X E hQ
  show Go X 0 (wC g ad o) [(0, .ref (ad 32)), (1, iv x1), (2, iv x2), (3, iv x3)] []
  unfold s_X4_setMoved at h
  refine g_aload_n E gdX4_setMoved_0 rfl 0 rfl ?_
  refine g_get (T := TX4) E fw_X4 32 (wC_32 g ad o) rfl 8 (by decide) w_259 rfl rfl gdX4_setMoved_1 ?_
  refine g_iload_n E gdX4_setMoved_4 rfl 1 rfl ?_
  refine g_iload_n E gdX4_setMoved_5 rfl 2 rfl ?_
  obtain ⟨hi1, h⟩ := qIn_of h
  obtain ⟨o2, e_o2, h⟩ := qNm_of h
  refine g_iast (ws' := wC g ad o2) E 41 (wC_41 g ad o) (by decide) hi1 (by rw [e_o2]; exact wC_s41 g ad o _ _) gdX4_setMoved_6 ?_
  refine g_aload_n E gdX4_setMoved_7 rfl 0 rfl ?_
  refine g_get (T := TX4) E fw_X4 32 (wC_32 g ad o2) rfl 9 (by decide) w_260 rfl rfl gdX4_setMoved_8 ?_
  refine g_iload_n E gdX4_setMoved_11 rfl 1 rfl ?_
  refine g_iload_n E gdX4_setMoved_12 rfl 3 rfl ?_
  obtain ⟨hi3, h⟩ := qIn_of h
  obtain ⟨o4, e_o4, h⟩ := qNm_of h
  refine g_iast (ws' := wC g ad o4) E 42 (wC_42 g ad o2) (by decide) hi3 (by rw [e_o4]; exact wC_s42 g ad o2 _ _) gdX4_setMoved_13 ?_
  exact g_vret E hQ (by rw [← Option.some.inj h]) gdX4_setMoved_14
noncomputable def s_X5_setHome (o : OO) (x1 : Int) (x2 : Int) : Option (OO) := qIn x1 40 (qNm (st1 o 24 x1.toNat x2) (fun o2 => some o2))
set_option maxHeartbeats 4000000 in
set_option maxRecDepth 100000 in
theorem c_X5_setHome (l : Launch) (g : GG) (ad : Nat → Nat) (o : OO) (x1 : Int) (x2 : Int) (v : OO) (h : s_X5_setHome o x1 x2 = some v) : CV l g yX5_setHome cX5_setHome 3 0 0 (wC g ad o) [.ref (ad 23), iv x1, iv x2] (wC g ad v) := by
  refine met_V (by decide) (Nat.le_of_ble_eq_true rfl) ?_
  intro X E hQ
  show Go X 0 (wC g ad o) [(0, .ref (ad 23)), (1, iv x1), (2, iv x2)] []
  unfold s_X5_setHome at h
  refine g_aload_n E gdX5_setHome_0 rfl 0 rfl ?_
  refine g_get (T := TX5) E fw_X5 23 (wC_23 g ad o) rfl 0 (by decide) w_210 rfl rfl gdX5_setHome_1 ?_
  refine g_iload_n E gdX5_setHome_4 rfl 1 rfl ?_
  refine g_iload_n E gdX5_setHome_5 rfl 2 rfl ?_
  obtain ⟨hi1, h⟩ := qIn_of h
  obtain ⟨o2, e_o2, h⟩ := qNm_of h
  refine g_iast (ws' := wC g ad o2) E 24 (wC_24 g ad o) (by decide) hi1 (by rw [e_o2]; exact wC_s24 g ad o _ _) gdX5_setHome_6 ?_
  exact g_vret E hQ (by rw [← Option.some.inj h]) gdX5_setHome_7
noncomputable def s_X1_enter (o : OO) (x1 : Int) : Option (OO) := qIn x1 32 (qNm (o.1 14 x1.toNat) (fun n2 => qIn x1 32 (qNm (st1 o 14 x1.toNat (n2 + 1)) (fun o4 => some o4))))
set_option maxHeartbeats 4000000 in
set_option maxRecDepth 100000 in
theorem c_X1_enter (l : Launch) (g : GG) (ad : Nat → Nat) (o : OO) (x1 : Int) (v : OO) (h : s_X1_enter o x1 = some v) : CV l g yX1_enter cX1_enter 2 0 0 (wC g ad o) [.ref (ad 10), iv x1] (wC g ad v) := by
  refine met_V (by decide) (Nat.le_of_ble_eq_true rfl) ?_
  intro X E hQ
  show Go X 0 (wC g ad o) [(0, .ref (ad 10)), (1, iv x1)] []
  unfold s_X1_enter at h
  refine g_aload_n E gdX1_enter_0 rfl 0 rfl ?_
  refine g_get (T := TX1) E fw_X1 10 (wC_10 g ad o) rfl 3 (by decide) w_163 rfl rfl gdX1_enter_1 ?_
  refine g_iload_n E gdX1_enter_4 rfl 1 rfl ?_
  refine g_dup2 E gdX1_enter_5 rfl rfl ?_
  obtain ⟨hi1, h⟩ := qIn_of h
  refine g_iald E 14 (wC_14 g ad o) (by decide) hi1 gdX1_enter_6 ?_
  obtain ⟨n2, e_n2, h⟩ := qNm_of h
  refine g_nmi e_n2 ?_
  refine g_iconst E gdX1_enter_7 ?_
  refine g_iadd E gdX1_enter_8 ?_
  obtain ⟨hi3, h⟩ := qIn_of h
  obtain ⟨o4, e_o4, h⟩ := qNm_of h
  refine g_iast (ws' := wC g ad o4) E 14 (wC_14 g ad o) (by decide) hi3 (by rw [e_o4]; exact wC_s14 g ad o _ _) gdX1_enter_9 ?_
  exact g_vret E hQ (by rw [← Option.some.inj h]) gdX1_enter_10
noncomputable def s_X11_settle (o : OO) (x1 : Int) (x2 : Int) : Option (OO) := qB (s_X5_setHome o x1 x2) (fun o3 => qB (s_X1_enter o3 x2) (fun o6 => some o6))
set_option maxHeartbeats 4000000 in
set_option maxRecDepth 100000 in
theorem c_X11_settle (l : Launch) (g : GG) (ad : Nat → Nat) (o : OO) (x1 : Int) (x2 : Int) (v : OO) (h : s_X11_settle o x1 x2 = some v) : CV l g yX11_settle cX11_settle 3 1 22 (wC g ad o) [.ref (ad 0), iv x1, iv x2] (wC g ad v) := by
  refine met_V (by decide) (Nat.le_of_ble_eq_true rfl) ?_
  intro X E hQ
  show Go X 0 (wC g ad o) [(0, .ref (ad 0)), (1, iv x1), (2, iv x2)] []
  unfold s_X11_settle at h
  refine g_aload_n E gdX11_settle_0 rfl 0 rfl ?_
  refine g_get (T := TX11) E fw_X11 0 (wC_0 g ad o) rfl 4 (by decide) w_462 rfl rfl gdX11_settle_1 ?_
  refine g_iload_n E gdX11_settle_4 rfl 1 rfl ?_
  refine g_iload_n E gdX11_settle_5 rfl 2 rfl ?_
  obtain ⟨o3, hc2, h⟩ := qB_of h
  refine g_Vv (As := [iv x1, iv x2]) (rest := []) (w := wC g ad o3) E (c_X5_setHome l g ad o x1 x2 o3 hc2) okm_X5_setHome okw_X5_setHome w_723 rfl (wC_23 g ad o) rfl rfl (Nat.le_of_ble_eq_true rfl) ⟨Nat.le_of_ble_eq_true rfl, Nat.le_of_ble_eq_true rfl⟩ gdX11_settle_6 ?_
  refine g_aload_n E gdX11_settle_9 rfl 0 rfl ?_
  refine g_get (T := TX11) E fw_X11 0 (wC_0 g ad o3) rfl 3 (by decide) w_461 rfl rfl gdX11_settle_10 ?_
  refine g_iload_n E gdX11_settle_13 rfl 2 rfl ?_
  obtain ⟨o6, hc5, h⟩ := qB_of h
  refine g_Vv (As := [iv x2]) (rest := []) (w := wC g ad o6) E (c_X1_enter l g ad o3 x2 o6 hc5) okm_X1_enter okw_X1_enter w_727 rfl (wC_10 g ad o3) rfl rfl (Nat.le_of_ble_eq_true rfl) ⟨Nat.le_of_ble_eq_true rfl, Nat.le_of_ble_eq_true rfl⟩ gdX11_settle_14 ?_
  exact g_vret E hQ (by rw [← Option.some.inj h]) gdX11_settle_17
noncomputable def b_X11_moved_33 (o : OO) : Option (Int × OO) := some ((-1), o)
noncomputable def b_X11_moved_105 (o : OO) : Option (Int × OO) := some ((-4), o)
noncomputable def s_X11_moved (o : OO) (x1 : Int) (x2 : Int) (x3 : Int) : Option (Int × OO) := qB (s_X4_exists o x1) (fun r1 => qEq r1 0 (b_X11_moved_33 o) (qB (s_X5_exists o x2) (fun r3 => qEq r3 0 (b_X11_moved_33 o) (qB (s_X1_exists o x3) (fun r5 => qEq r5 0 (b_X11_moved_33 o) (qB (s_X4_number o) (fun r7 => qLt r7 24 (qB (s_X4_kindOf o x1) (fun r9 => qEq r9 3 (qB (s_X4_livedThere o x1 x2) (fun r11 => qEq r11 0 (b_X11_moved_105 o) (qB (s_X5_homeOf o x2) (fun r13 => qEq r13 (-9) (qB (s_X1_roomsLeft o x3) (fun r15 => qLt r15 1 (b_X11_moved_105 o) (qB (s_X11_inForce o 3) (fun r17 => qB2 (s_X4_add o 4 (o.1 0 13) x1) (fun r19 o21 => qB (s_X4_setMoved o21 r19 r17 x2) (fun o24 => qB (s_X11_settle o24 x2 x3) (fun o27 => qB2 (s_X11_tell o27 r17) (fun r28 o30 => some (r19, o30))))))))) (b_X11_moved_105 o))))) (qB2 (s_X11_found o 3) (fun r31 o33 => some (r31, o33))))) (some ((-2), o)))))))))
set_option maxHeartbeats 4000000 in
set_option maxRecDepth 100000 in
theorem c_X11_moved (l : Launch) (g : GG) (ad : Nat → Nat) (o : OO) (x1 : Int) (x2 : Int) (x3 : Int) (v : Int × OO) (h : s_X11_moved o x1 x2 x3 = some v) : CI l g yX11_moved cX11_moved 6 (some .int) 3 70 (wC g ad o) [.ref (ad 0), iv x1, iv x2, iv x3] v.1 (wC g ad v.2) := by
  refine met_I (by decide) (Nat.le_of_ble_eq_true rfl) ?_
  intro X E hQ
  show Go X 0 (wC g ad o) [(0, .ref (ad 0)), (1, iv x1), (2, iv x2), (3, iv x3)] []
  have j33 : ∀ (o : OO), b_X11_moved_33 o = some v → Go X 33 (wC g ad o) [] [] := by
    intro o h
    unfold b_X11_moved_33 at h
    refine g_iconst E gdX11_moved_33 ?_
    exact g_iret E hQ (by rw [← Option.some.inj h]) (by rw [← Option.some.inj h]) gdX11_moved_34
  have j105 : ∀ (o : OO), b_X11_moved_105 o = some v → Go X 105 (wC g ad o) [] [] := by
    intro o h
    unfold b_X11_moved_105 at h
    refine g_bipush E gdX11_moved_105 (by decide) ?_
    exact g_iret E hQ (by rw [← Option.some.inj h]) (by rw [← Option.some.inj h]) gdX11_moved_107
  unfold s_X11_moved at h
  refine g_aload_n E gdX11_moved_0 rfl 0 rfl ?_
  refine g_get (T := TX11) E fw_X11 0 (wC_0 g ad o) rfl 6 (by decide) w_464 rfl rfl gdX11_moved_1 ?_
  refine g_iload_n E gdX11_moved_4 rfl 1 rfl ?_
  obtain ⟨r1, hc2, h⟩ := qB_of h
  refine g_Vi (r := r1) (As := [iv x1]) (rest := []) (w := wC g ad o) E (c_X4_exists l g ad o x1 r1 hc2) okm_X4_exists okw_X4_exists w_882 rfl (wC_32 g ad o) rfl rfl (Nat.le_of_ble_eq_true rfl) ⟨Nat.le_of_ble_eq_true rfl, Nat.le_of_ble_eq_true rfl⟩ gdX11_moved_5 ?_
  refine g_if_eq E 33 gdX11_moved_8 (by decide) h (fun h => ?_) (fun h => ?_)
  ·
    refine g_sub E [] rfl ?_
    exact j33 o h
  ·
    refine g_aload_n E gdX11_moved_11 rfl 0 rfl ?_
    refine g_get (T := TX11) E fw_X11 0 (wC_0 g ad o) rfl 4 (by decide) w_462 rfl rfl gdX11_moved_12 ?_
    refine g_iload_n E gdX11_moved_15 rfl 2 rfl ?_
    obtain ⟨r3, hc4, h⟩ := qB_of h
    refine g_Vi (r := r3) (As := [iv x2]) (rest := []) (w := wC g ad o) E (c_X5_exists l g ad o x2 r3 hc4) okm_X5_exists okw_X5_exists w_735 rfl (wC_23 g ad o) rfl rfl (Nat.le_of_ble_eq_true rfl) ⟨Nat.le_of_ble_eq_true rfl, Nat.le_of_ble_eq_true rfl⟩ gdX11_moved_16 ?_
    refine g_if_eq E 33 gdX11_moved_19 (by decide) h (fun h => ?_) (fun h => ?_)
    ·
      refine g_sub E [] rfl ?_
      exact j33 o h
    ·
      refine g_aload_n E gdX11_moved_22 rfl 0 rfl ?_
      refine g_get (T := TX11) E fw_X11 0 (wC_0 g ad o) rfl 3 (by decide) w_461 rfl rfl gdX11_moved_23 ?_
      refine g_iload_n E gdX11_moved_26 rfl 3 rfl ?_
      obtain ⟨r5, hc6, h⟩ := qB_of h
      refine g_Vi (r := r5) (As := [iv x3]) (rest := []) (w := wC g ad o) E (c_X1_exists l g ad o x3 r5 hc6) okm_X1_exists okw_X1_exists w_667 rfl (wC_10 g ad o) rfl rfl (Nat.le_of_ble_eq_true rfl) ⟨Nat.le_of_ble_eq_true rfl, Nat.le_of_ble_eq_true rfl⟩ gdX11_moved_27 ?_
      refine g_if_ne E 35 gdX11_moved_30 (by decide) h (fun h => ?_) (fun h => ?_)
      ·
        refine g_aload_n E gdX11_moved_35 rfl 0 rfl ?_
        refine g_get (T := TX11) E fw_X11 0 (wC_0 g ad o) rfl 6 (by decide) w_464 rfl rfl gdX11_moved_36 ?_
        obtain ⟨r7, hc8, h⟩ := qB_of h
        refine g_Vi (r := r7) (As := []) (rest := []) (w := wC g ad o) E (c_X4_number l g ad o r7 hc8) okm_X4_number okw_X4_number w_790 rfl (wC_32 g ad o) rfl rfl (Nat.le_of_ble_eq_true rfl) ⟨Nat.le_of_ble_eq_true rfl, Nat.le_of_ble_eq_true rfl⟩ gdX11_moved_39 ?_
        refine g_bipush E gdX11_moved_42 (by decide) ?_
        refine g_icmp_lt E 50 gdX11_moved_44 (by decide) h (fun h => ?_) (fun h => ?_)
        ·
          refine g_aload_n E gdX11_moved_50 rfl 0 rfl ?_
          refine g_get (T := TX11) E fw_X11 0 (wC_0 g ad o) rfl 6 (by decide) w_464 rfl rfl gdX11_moved_51 ?_
          refine g_iload_n E gdX11_moved_54 rfl 1 rfl ?_
          obtain ⟨r9, hc10, h⟩ := qB_of h
          refine g_Vi (r := r9) (As := [iv x1]) (rest := []) (w := wC g ad o) E (c_X4_kindOf l g ad o x1 r9 hc10) okm_X4_kindOf okw_X4_kindOf w_979 rfl (wC_32 g ad o) rfl rfl (Nat.le_of_ble_eq_true rfl) ⟨Nat.le_of_ble_eq_true rfl, Nat.le_of_ble_eq_true rfl⟩ gdX11_moved_55 ?_
          refine g_iconst E gdX11_moved_58 ?_
          refine g_icmp_eq E 68 gdX11_moved_59 (by decide) h (fun h => ?_) (fun h => ?_)
          ·
            refine g_aload_n E gdX11_moved_68 rfl 0 rfl ?_
            refine g_get (T := TX11) E fw_X11 0 (wC_0 g ad o) rfl 6 (by decide) w_464 rfl rfl gdX11_moved_69 ?_
            refine g_iload_n E gdX11_moved_72 rfl 1 rfl ?_
            refine g_iload_n E gdX11_moved_73 rfl 2 rfl ?_
            obtain ⟨r11, hc12, h⟩ := qB_of h
            refine g_Vi (r := r11) (As := [iv x1, iv x2]) (rest := []) (w := wC g ad o) E (c_X4_livedThere l g ad o x1 x2 r11 hc12) okm_X4_livedThere okw_X4_livedThere w_983 rfl (wC_32 g ad o) rfl rfl (Nat.le_of_ble_eq_true rfl) ⟨Nat.le_of_ble_eq_true rfl, Nat.le_of_ble_eq_true rfl⟩ gdX11_moved_74 ?_
            refine g_if_eq E 105 gdX11_moved_77 (by decide) h (fun h => ?_) (fun h => ?_)
            ·
              refine g_sub E [] rfl ?_
              exact j105 o h
            ·
              refine g_aload_n E gdX11_moved_80 rfl 0 rfl ?_
              refine g_get (T := TX11) E fw_X11 0 (wC_0 g ad o) rfl 4 (by decide) w_462 rfl rfl gdX11_moved_81 ?_
              refine g_iload_n E gdX11_moved_84 rfl 2 rfl ?_
              obtain ⟨r13, hc14, h⟩ := qB_of h
              refine g_Vi (r := r13) (As := [iv x2]) (rest := []) (w := wC g ad o) E (c_X5_homeOf l g ad o x2 r13 hc14) okm_X5_homeOf okw_X5_homeOf w_987 rfl (wC_23 g ad o) rfl rfl (Nat.le_of_ble_eq_true rfl) ⟨Nat.le_of_ble_eq_true rfl, Nat.le_of_ble_eq_true rfl⟩ gdX11_moved_85 ?_
              refine g_bipush E gdX11_moved_88 (by decide) ?_
              refine g_icmp_ne E 105 gdX11_moved_90 (by decide) h (fun h => ?_) (fun h => ?_)
              ·
                refine g_sub E [] rfl ?_
                exact j105 o h
              ·
                refine g_aload_n E gdX11_moved_93 rfl 0 rfl ?_
                refine g_get (T := TX11) E fw_X11 0 (wC_0 g ad o) rfl 3 (by decide) w_461 rfl rfl gdX11_moved_94 ?_
                refine g_iload_n E gdX11_moved_97 rfl 3 rfl ?_
                obtain ⟨r15, hc16, h⟩ := qB_of h
                refine g_Vi (r := r15) (As := [iv x3]) (rest := []) (w := wC g ad o) E (c_X1_roomsLeft l g ad o x3 r15 hc16) okm_X1_roomsLeft okw_X1_roomsLeft w_707 rfl (wC_10 g ad o) rfl rfl (Nat.le_of_ble_eq_true rfl) ⟨Nat.le_of_ble_eq_true rfl, Nat.le_of_ble_eq_true rfl⟩ gdX11_moved_98 ?_
                refine g_iconst E gdX11_moved_101 ?_
                refine g_icmp_ge E 108 gdX11_moved_102 (by decide) h (fun h => ?_) (fun h => ?_)
                ·
                  refine g_aload_n E gdX11_moved_108 rfl 0 rfl ?_
                  refine g_iconst E gdX11_moved_109 ?_
                  obtain ⟨r17, hc18, h⟩ := qB_of h
                  refine g_Vi (r := r17) (As := [iv 3]) (rest := []) (w := wC g ad o) E (c_X11_inForce l g ad o 3 r17 hc18) okm_X11_inForce okw_X11_inForce w_809 rfl (wC_0 g ad o) rfl rfl (Nat.le_of_ble_eq_true rfl) ⟨Nat.le_of_ble_eq_true rfl, Nat.le_of_ble_eq_true rfl⟩ gdX11_moved_110 ?_
                  refine g_istore E [(4, iv r17), (0, .ref (ad 0)), (1, iv x1), (2, iv x2), (3, iv x3)] gdX11_moved_113 (by decide) rfl ?_
                  refine g_aload_n E gdX11_moved_115 rfl 1 rfl ?_
                  refine g_get (T := TX11) E fw_X11 0 (wC_0 g ad o) rfl 6 (by decide) w_464 rfl rfl gdX11_moved_116 ?_
                  refine g_iconst E gdX11_moved_119 ?_
                  refine g_aload_n E gdX11_moved_120 rfl 1 rfl ?_
                  refine g_get (T := TX11) E fw_X11 0 (wC_0 g ad o) rfl 13 (by decide) w_471 rfl rfl gdX11_moved_121 ?_
                  refine g_iload_n E gdX11_moved_124 rfl 2 rfl ?_
                  obtain ⟨r19, o21, hc20, h⟩ := qB2_of h
                  refine g_Vi (r := r19) (As := [iv 4, iv (o.1 0 13), iv x1]) (rest := []) (w := wC g ad o21) E (c_X4_add l g ad o 4 (o.1 0 13) x1 (r19, o21) hc20) okm_X4_add okw_X4_add w_869 rfl (wC_32 g ad o) rfl rfl (Nat.le_of_ble_eq_true rfl) ⟨Nat.le_of_ble_eq_true rfl, Nat.le_of_ble_eq_true rfl⟩ gdX11_moved_125 ?_
                  refine g_istore E [(5, iv r19), (4, iv r17), (0, .ref (ad 0)), (1, iv x1), (2, iv x2), (3, iv x3)] gdX11_moved_128 (by decide) rfl ?_
                  refine g_aload_n E gdX11_moved_130 rfl 2 rfl ?_
                  refine g_get (T := TX11) E fw_X11 0 (wC_0 g ad o21) rfl 6 (by decide) w_464 rfl rfl gdX11_moved_131 ?_
                  refine g_iload E gdX11_moved_134 0 rfl ?_
                  refine g_iload E gdX11_moved_136 1 rfl ?_
                  refine g_iload_n E gdX11_moved_138 rfl 4 rfl ?_
                  obtain ⟨o24, hc23, h⟩ := qB_of h
                  refine g_Vv (As := [iv r19, iv r17, iv x2]) (rest := []) (w := wC g ad o24) E (c_X4_setMoved l g ad o21 r19 r17 x2 o24 hc23) okm_X4_setMoved okw_X4_setMoved w_991 rfl (wC_32 g ad o21) rfl rfl (Nat.le_of_ble_eq_true rfl) ⟨Nat.le_of_ble_eq_true rfl, Nat.le_of_ble_eq_true rfl⟩ gdX11_moved_139 ?_
                  refine g_aload_n E gdX11_moved_142 rfl 2 rfl ?_
                  refine g_iload_n E gdX11_moved_143 rfl 4 rfl ?_
                  refine g_iload_n E gdX11_moved_144 rfl 5 rfl ?_
                  obtain ⟨o27, hc26, h⟩ := qB_of h
                  refine g_Vv (As := [iv x2, iv x3]) (rest := []) (w := wC g ad o27) E (c_X11_settle l g ad o24 x2 x3 o27 hc26) okm_X11_settle okw_X11_settle w_719 rfl (wC_0 g ad o24) rfl rfl (Nat.le_of_ble_eq_true rfl) ⟨Nat.le_of_ble_eq_true rfl, Nat.le_of_ble_eq_true rfl⟩ gdX11_moved_145 ?_
                  refine g_aload_n E gdX11_moved_148 rfl 2 rfl ?_
                  refine g_iload E gdX11_moved_149 1 rfl ?_
                  obtain ⟨r28, o30, hc29, h⟩ := qB2_of h
                  refine g_Vi (r := r28) (As := [iv r17]) (rest := []) (w := wC g ad o30) E (c_X11_tell l g ad o27 r17 (r28, o30) hc29) okm_X11_tell okw_X11_tell w_551 rfl (wC_0 g ad o27) rfl rfl (Nat.le_of_ble_eq_true rfl) ⟨Nat.le_of_ble_eq_true rfl, Nat.le_of_ble_eq_true rfl⟩ gdX11_moved_151 ?_
                  refine g_pop E gdX11_moved_154 rfl ?_
                  refine g_iload E gdX11_moved_155 0 rfl ?_
                  exact g_iret E hQ (by rw [← Option.some.inj h]) (by rw [← Option.some.inj h]) gdX11_moved_157
                ·
                  refine g_sub E [] rfl ?_
                  exact j105 o h
          ·
            refine g_aload_n E gdX11_moved_62 rfl 0 rfl ?_
            refine g_iconst E gdX11_moved_63 ?_
            obtain ⟨r31, o33, hc32, h⟩ := qB2_of h
            refine g_Vi (r := r31) (As := [iv 3]) (rest := []) (w := wC g ad o33) E (c_X11_found l g ad o 3 (r31, o33) hc32) okm_X11_found okw_X11_found w_521 rfl (wC_0 g ad o) rfl rfl (Nat.le_of_ble_eq_true rfl) ⟨Nat.le_of_ble_eq_true rfl, Nat.le_of_ble_eq_true rfl⟩ gdX11_moved_64 ?_
            exact g_iret E hQ (by rw [← Option.some.inj h]) (by rw [← Option.some.inj h]) gdX11_moved_67
        ·
          refine g_bipush E gdX11_moved_47 (by decide) ?_
          exact g_iret E hQ (by rw [← Option.some.inj h]) (by rw [← Option.some.inj h]) gdX11_moved_49
      ·
        refine g_sub E [] rfl ?_
        exact j33 o h
noncomputable def b_X11_noise_22 (o : OO) : Option (Int × OO) := some ((-1), o)
noncomputable def s_X11_noise (o : OO) (x1 : Int) (x2 : Int) : Option (Int × OO) := qB (s_X4_exists o x1) (fun r1 => qEq r1 0 (b_X11_noise_22 o) (qB (s_X8_exists o x2) (fun r3 => qEq r3 0 (b_X11_noise_22 o) (qB (s_X4_isOf o x1 1) (fun r5 => qEq r5 0 (qB2 (s_X11_found o 3) (fun r21 o23 => some (r21, o23))) (qB (s_X8_isThere o x2) (fun r7 => qEq r7 0 (qB2 (s_X11_found o 1) (fun r18 o20 => some (r18, o20))) (qB (s_X11_loudCells o x1 x2) (fun p9 => qB (s_X1_dwellersIn o p9) (fun r11 => qB2 (s_X11_tell o r11) (fun r13 o15 => qB (s_X1_housesIn o15 p9) (fun r16 => some (r16, o15)))))))))))))
set_option maxHeartbeats 4000000 in
set_option maxRecDepth 100000 in
theorem c_X11_noise (l : Launch) (g : GG) (ad : Nat → Nat) (o : OO) (x1 : Int) (x2 : Int) (v : Int × OO) (h : s_X11_noise o x1 x2 = some v) : CI l g yX11_noise cX11_noise 5 (some .int) 4 100 (wC g ad o) [.ref (ad 0), iv x1, iv x2] v.1 (wC g ad v.2) := by
  refine met_I (by decide) (Nat.le_of_ble_eq_true rfl) ?_
  intro X E hQ
  show Go X 0 (wC g ad o) [(0, .ref (ad 0)), (1, iv x1), (2, iv x2)] []
  have j22 : ∀ (o : OO), b_X11_noise_22 o = some v → Go X 22 (wC g ad o) [] [] := by
    intro o h
    unfold b_X11_noise_22 at h
    refine g_iconst E gdX11_noise_22 ?_
    exact g_iret E hQ (by rw [← Option.some.inj h]) (by rw [← Option.some.inj h]) gdX11_noise_23
  unfold s_X11_noise at h
  refine g_aload_n E gdX11_noise_0 rfl 0 rfl ?_
  refine g_get (T := TX11) E fw_X11 0 (wC_0 g ad o) rfl 6 (by decide) w_464 rfl rfl gdX11_noise_1 ?_
  refine g_iload_n E gdX11_noise_4 rfl 1 rfl ?_
  obtain ⟨r1, hc2, h⟩ := qB_of h
  refine g_Vi (r := r1) (As := [iv x1]) (rest := []) (w := wC g ad o) E (c_X4_exists l g ad o x1 r1 hc2) okm_X4_exists okw_X4_exists w_882 rfl (wC_32 g ad o) rfl rfl (Nat.le_of_ble_eq_true rfl) ⟨Nat.le_of_ble_eq_true rfl, Nat.le_of_ble_eq_true rfl⟩ gdX11_noise_5 ?_
  refine g_if_eq E 22 gdX11_noise_8 (by decide) h (fun h => ?_) (fun h => ?_)
  ·
    refine g_sub E [] rfl ?_
    exact j22 o h
  ·
    refine g_aload_n E gdX11_noise_11 rfl 0 rfl ?_
    refine g_get (T := TX11) E fw_X11 0 (wC_0 g ad o) rfl 0 (by decide) w_458 rfl rfl gdX11_noise_12 ?_
    refine g_iload_n E gdX11_noise_15 rfl 2 rfl ?_
    obtain ⟨r3, hc4, h⟩ := qB_of h
    refine g_Vi (r := r3) (As := [iv x2]) (rest := []) (w := wC g ad o) E (c_X8_exists l g ad o x2 r3 hc4) okm_X8_exists okw_X8_exists w_517 rfl (wC_1 g ad o) rfl rfl (Nat.le_of_ble_eq_true rfl) ⟨Nat.le_of_ble_eq_true rfl, Nat.le_of_ble_eq_true rfl⟩ gdX11_noise_16 ?_
    refine g_if_ne E 24 gdX11_noise_19 (by decide) h (fun h => ?_) (fun h => ?_)
    ·
      refine g_aload_n E gdX11_noise_24 rfl 0 rfl ?_
      refine g_get (T := TX11) E fw_X11 0 (wC_0 g ad o) rfl 6 (by decide) w_464 rfl rfl gdX11_noise_25 ?_
      refine g_iload_n E gdX11_noise_28 rfl 1 rfl ?_
      refine g_iconst E gdX11_noise_29 ?_
      obtain ⟨r5, hc6, h⟩ := qB_of h
      refine g_Vi (r := r5) (As := [iv x1, iv 1]) (rest := []) (w := wC g ad o) E (c_X4_isOf l g ad o x1 1 r5 hc6) okm_X4_isOf okw_X4_isOf w_886 rfl (wC_32 g ad o) rfl rfl (Nat.le_of_ble_eq_true rfl) ⟨Nat.le_of_ble_eq_true rfl, Nat.le_of_ble_eq_true rfl⟩ gdX11_noise_30 ?_
      refine g_if_ne E 42 gdX11_noise_33 (by decide) h (fun h => ?_) (fun h => ?_)
      ·
        refine g_aload_n E gdX11_noise_42 rfl 0 rfl ?_
        refine g_get (T := TX11) E fw_X11 0 (wC_0 g ad o) rfl 0 (by decide) w_458 rfl rfl gdX11_noise_43 ?_
        refine g_iload_n E gdX11_noise_46 rfl 2 rfl ?_
        obtain ⟨r7, hc8, h⟩ := qB_of h
        refine g_Vi (r := r7) (As := [iv x2]) (rest := []) (w := wC g ad o) E (c_X8_isThere l g ad o x2 r7 hc8) okm_X8_isThere okw_X8_isThere w_539 rfl (wC_1 g ad o) rfl rfl (Nat.le_of_ble_eq_true rfl) ⟨Nat.le_of_ble_eq_true rfl, Nat.le_of_ble_eq_true rfl⟩ gdX11_noise_47 ?_
        refine g_if_ne E 59 gdX11_noise_50 (by decide) h (fun h => ?_) (fun h => ?_)
        ·
          refine g_aload_n E gdX11_noise_59 rfl 0 rfl ?_
          refine g_iload_n E gdX11_noise_60 rfl 1 rfl ?_
          refine g_iload_n E gdX11_noise_61 rfl 2 rfl ?_
          obtain ⟨p9, hc10, h⟩ := qB_of h
          refine g_Vl (r := p9) (As := [iv x1, iv x2]) (rest := []) (w := wC g ad o) E (c_X11_loudCells l g ad o x1 x2 p9 hc10) okm_X11_loudCells okw_X11_loudCells w_1205 rfl (wC_0 g ad o) rfl rfl (Nat.le_of_ble_eq_true rfl) ⟨Nat.le_of_ble_eq_true rfl, Nat.le_of_ble_eq_true rfl⟩ gdX11_noise_62 ?_
          refine g_lstore_n E [(3, .long p9), (0, .ref (ad 0)), (1, iv x1), (2, iv x2)] gdX11_noise_65 rfl (by decide) rfl ?_
          refine g_aload_n E gdX11_noise_66 rfl 1 rfl ?_
          refine g_aload_n E gdX11_noise_67 rfl 1 rfl ?_
          refine g_get (T := TX11) E fw_X11 0 (wC_0 g ad o) rfl 3 (by decide) w_461 rfl rfl gdX11_noise_68 ?_
          refine g_lload_n E gdX11_noise_71 rfl 0 rfl ?_
          obtain ⟨r11, hc12, h⟩ := qB_of h
          refine g_Vi (r := r11) (As := [.long p9]) (rest := [.ref (ad 0)]) (w := wC g ad o) E (c_X1_dwellersIn l g ad o p9 r11 hc12) okm_X1_dwellersIn okw_X1_dwellersIn w_1209 rfl (wC_10 g ad o) rfl rfl (Nat.le_of_ble_eq_true rfl) ⟨Nat.le_of_ble_eq_true rfl, Nat.le_of_ble_eq_true rfl⟩ gdX11_noise_72 ?_
          obtain ⟨r13, o15, hc14, h⟩ := qB2_of h
          refine g_Vi (r := r13) (As := [iv r11]) (rest := []) (w := wC g ad o15) E (c_X11_tell l g ad o r11 (r13, o15) hc14) okm_X11_tell okw_X11_tell w_551 rfl (wC_0 g ad o) rfl rfl (Nat.le_of_ble_eq_true rfl) ⟨Nat.le_of_ble_eq_true rfl, Nat.le_of_ble_eq_true rfl⟩ gdX11_noise_75 ?_
          refine g_pop E gdX11_noise_78 rfl ?_
          refine g_aload_n E gdX11_noise_79 rfl 1 rfl ?_
          refine g_get (T := TX11) E fw_X11 0 (wC_0 g ad o15) rfl 3 (by decide) w_461 rfl rfl gdX11_noise_80 ?_
          refine g_lload_n E gdX11_noise_83 rfl 0 rfl ?_
          obtain ⟨r16, hc17, h⟩ := qB_of h
          refine g_Vi (r := r16) (As := [.long p9]) (rest := []) (w := wC g ad o15) E (c_X1_housesIn l g ad o15 p9 r16 hc17) okm_X1_housesIn okw_X1_housesIn w_1213 rfl (wC_10 g ad o15) rfl rfl (Nat.le_of_ble_eq_true rfl) ⟨Nat.le_of_ble_eq_true rfl, Nat.le_of_ble_eq_true rfl⟩ gdX11_noise_84 ?_
          exact g_iret E hQ (by rw [← Option.some.inj h]) (by rw [← Option.some.inj h]) gdX11_noise_87
        ·
          refine g_aload_n E gdX11_noise_53 rfl 0 rfl ?_
          refine g_iconst E gdX11_noise_54 ?_
          obtain ⟨r18, o20, hc19, h⟩ := qB2_of h
          refine g_Vi (r := r18) (As := [iv 1]) (rest := []) (w := wC g ad o20) E (c_X11_found l g ad o 1 (r18, o20) hc19) okm_X11_found okw_X11_found w_521 rfl (wC_0 g ad o) rfl rfl (Nat.le_of_ble_eq_true rfl) ⟨Nat.le_of_ble_eq_true rfl, Nat.le_of_ble_eq_true rfl⟩ gdX11_noise_55 ?_
          exact g_iret E hQ (by rw [← Option.some.inj h]) (by rw [← Option.some.inj h]) gdX11_noise_58
      ·
        refine g_aload_n E gdX11_noise_36 rfl 0 rfl ?_
        refine g_iconst E gdX11_noise_37 ?_
        obtain ⟨r21, o23, hc22, h⟩ := qB2_of h
        refine g_Vi (r := r21) (As := [iv 3]) (rest := []) (w := wC g ad o23) E (c_X11_found l g ad o 3 (r21, o23) hc22) okm_X11_found okw_X11_found w_521 rfl (wC_0 g ad o) rfl rfl (Nat.le_of_ble_eq_true rfl) ⟨Nat.le_of_ble_eq_true rfl, Nat.le_of_ble_eq_true rfl⟩ gdX11_noise_38 ?_
        exact g_iret E hQ (by rw [← Option.some.inj h]) (by rw [← Option.some.inj h]) gdX11_noise_41
    ·
      refine g_sub E [] rfl ?_
      exact j22 o h
