set_option maxRecDepth 200000 in
theorem w_1511 : Cond.fieldLink "CityRoadModel" 120 "CityRoadModel" "third" "[I" ∈ tb := tb_mem 1511 (by decide +kernel) rfl
set_option maxRecDepth 200000 in
theorem w_1972 : Cond.code yX12_couldCome cX12_couldCome 6 (some .int) ∈ tb := tb_mem 1972 (by rfl) rfl
set_option maxRecDepth 200000 in
theorem w_1971 : Cond.instanceMethod yX12_couldCome ∈ tb := tb_mem 1971 (by decide +kernel) rfl
set_option maxRecDepth 200000 in
theorem w_67 : Cond.selects "CityRoadModel" yX12_couldCome yX12_couldCome ∈ tb := tb_mem 67 (by decide +kernel) rfl
set_option maxRecDepth 200000 in
theorem w_1969 : Cond.methodLink "CityRoadModel" 361 yX12_couldCome ∈ tb := tb_mem 1969 (by decide +kernel) rfl
set_option maxRecDepth 200000 in
theorem w_2057 : Cond.code yX12_isVoidHearing cX12_isVoidHearing 2 (some .boolean) ∈ tb := tb_mem 2057 (by rfl) rfl
set_option maxRecDepth 200000 in
theorem w_2056 : Cond.instanceMethod yX12_isVoidHearing ∈ tb := tb_mem 2056 (by decide +kernel) rfl
set_option maxRecDepth 200000 in
theorem w_77 : Cond.selects "CityRoadModel" yX12_isVoidHearing yX12_isVoidHearing ∈ tb := tb_mem 77 (by decide +kernel) rfl
set_option maxRecDepth 200000 in
theorem w_2054 : Cond.methodLink "CityRoadModel" 407 yX12_isVoidHearing ∈ tb := tb_mem 2054 (by decide +kernel) rfl
set_option maxRecDepth 200000 in
theorem w_2061 : Cond.code yX12_isVoidTaking cX12_isVoidTaking 4 (some .boolean) ∈ tb := tb_mem 2061 (by rfl) rfl
set_option maxRecDepth 200000 in
theorem w_2060 : Cond.instanceMethod yX12_isVoidTaking ∈ tb := tb_mem 2060 (by decide +kernel) rfl
set_option maxRecDepth 200000 in
theorem w_78 : Cond.selects "CityRoadModel" yX12_isVoidTaking yX12_isVoidTaking ∈ tb := tb_mem 78 (by decide +kernel) rfl
set_option maxRecDepth 200000 in
theorem w_2058 : Cond.methodLink "CityRoadModel" 410 yX12_isVoidTaking ∈ tb := tb_mem 2058 (by decide +kernel) rfl
set_option maxRecDepth 200000 in
theorem w_1890 : Cond.code yX12_slope cX12_slope 4 (some .int) ∈ tb := tb_mem 1890 (by rfl) rfl
set_option maxRecDepth 200000 in
theorem w_1889 : Cond.instanceMethod yX12_slope ∈ tb := tb_mem 1889 (by decide +kernel) rfl
set_option maxRecDepth 200000 in
theorem w_57 : Cond.selects "CityRoadModel" yX12_slope yX12_slope ∈ tb := tb_mem 57 (by decide +kernel) rfl
set_option maxRecDepth 200000 in
theorem w_1887 : Cond.methodLink "CityRoadModel" 302 yX12_slope ∈ tb := tb_mem 1887 (by decide +kernel) rfl
set_option maxRecDepth 200000 in
theorem w_1512 : Cond.fieldLink "CityRoadModel" 123 "CityRoadModel" "left" "[I" ∈ tb := tb_mem 1512 (by decide +kernel) rfl
set_option maxRecDepth 200000 in
theorem w_1513 : Cond.fieldLink "CityRoadModel" 126 "CityRoadModel" "cellCosts" "[I" ∈ tb := tb_mem 1513 (by decide +kernel) rfl
set_option maxRecDepth 200000 in
theorem w_1894 : Cond.code yX12_goOn cX12_goOn 5 (some .int) ∈ tb := tb_mem 1894 (by rfl) rfl
set_option maxRecDepth 200000 in
theorem w_1893 : Cond.instanceMethod yX12_goOn ∈ tb := tb_mem 1893 (by decide +kernel) rfl
set_option maxRecDepth 200000 in
theorem w_58 : Cond.selects "CityRoadModel" yX12_goOn yX12_goOn ∈ tb := tb_mem 58 (by decide +kernel) rfl
set_option maxRecDepth 200000 in
theorem w_1891 : Cond.methodLink "CityRoadModel" 321 yX12_goOn ∈ tb := tb_mem 1891 (by decide +kernel) rfl
set_option maxRecDepth 200000 in
theorem w_1886 : Cond.code yX12_leads cX12_leads 4 (some .boolean) ∈ tb := tb_mem 1886 (by rfl) rfl
set_option maxRecDepth 200000 in
theorem w_1885 : Cond.instanceMethod yX12_leads ∈ tb := tb_mem 1885 (by decide +kernel) rfl
set_option maxRecDepth 200000 in
theorem w_56 : Cond.selects "CityRoadModel" yX12_leads yX12_leads ∈ tb := tb_mem 56 (by decide +kernel) rfl
set_option maxRecDepth 200000 in
theorem w_1883 : Cond.methodLink "CityRoadModel" 318 yX12_leads ∈ tb := tb_mem 1883 (by decide +kernel) rfl
set_option maxRecDepth 200000 in
theorem w_1878 : Cond.code yX12_setLeft cX12_setLeft 9 none ∈ tb := tb_mem 1878 (by rfl) rfl
set_option maxRecDepth 200000 in
theorem w_1877 : Cond.instanceMethod yX12_setLeft ∈ tb := tb_mem 1877 (by decide +kernel) rfl
set_option maxRecDepth 200000 in
theorem w_55 : Cond.selects "CityRoadModel" yX12_setLeft yX12_setLeft ∈ tb := tb_mem 55 (by decide +kernel) rfl
set_option maxRecDepth 200000 in
theorem w_1875 : Cond.methodLink "CityRoadModel" 331 yX12_setLeft ∈ tb := tb_mem 1875 (by decide +kernel) rfl
set_option maxRecDepth 200000 in
theorem w_1870 : Cond.code yX12_costOf cX12_costOf 4 (some .int) ∈ tb := tb_mem 1870 (by rfl) rfl
set_option maxRecDepth 200000 in
theorem w_1869 : Cond.instanceMethod yX12_costOf ∈ tb := tb_mem 1869 (by decide +kernel) rfl
set_option maxRecDepth 200000 in
theorem w_53 : Cond.selects "CityRoadModel" yX12_costOf yX12_costOf ∈ tb := tb_mem 53 (by decide +kernel) rfl
set_option maxRecDepth 200000 in
theorem w_1867 : Cond.methodLink "CityRoadModel" 325 yX12_costOf ∈ tb := tb_mem 1867 (by decide +kernel) rfl
set_option maxRecDepth 200000 in
theorem w_1506 : Cond.fieldLink "CityRoadModel" 104 "CityRoadModel" "paid" "[I" ∈ tb := tb_mem 1506 (by decide +kernel) rfl
set_option maxRecDepth 200000 in
theorem w_1507 : Cond.fieldLink "CityRoadModel" 107 "CityRoadModel" "whom" "[I" ∈ tb := tb_mem 1507 (by decide +kernel) rfl
theorem gdX12_hear_16 : decode cX12_hear 16 = .ok (.iconst (-1), 1) := by decide +kernel
theorem gdX12_hear_17 : decode cX12_hear 17 = .ok (.ireturn, 1) := by decide +kernel
theorem gdX12_hear_0 : decode cX12_hear 0 = .ok (.aload_n 0, 1) := by decide +kernel
theorem gdX12_hear_1 : decode cX12_hear 1 = .ok (.iload_n 1, 1) := by decide +kernel
theorem gdX12_hear_2 : decode cX12_hear 2 = .ok (.invokevirtual 296, 3) := by decide +kernel
theorem gdX12_hear_5 : decode cX12_hear 5 = .ok (.ifCond .eq 11, 3) := by decide +kernel
theorem gdX12_hear_8 : decode cX12_hear 8 = .ok (.aload_n 0, 1) := by decide +kernel
theorem gdX12_hear_9 : decode cX12_hear 9 = .ok (.iload_n 2, 1) := by decide +kernel
theorem gdX12_hear_10 : decode cX12_hear 10 = .ok (.invokevirtual 308, 3) := by decide +kernel
theorem gdX12_hear_13 : decode cX12_hear 13 = .ok (.ifCond .ne 5, 3) := by decide +kernel
theorem gdX12_hear_18 : decode cX12_hear 18 = .ok (.aload_n 0, 1) := by decide +kernel
theorem gdX12_hear_19 : decode cX12_hear 19 = .ok (.iload_n 2, 1) := by decide +kernel
theorem gdX12_hear_20 : decode cX12_hear 20 = .ok (.invokevirtual 311, 3) := by decide +kernel
theorem gdX12_hear_23 : decode cX12_hear 23 = .ok (.ifCond .ne 9, 3) := by decide +kernel
theorem gdX12_hear_32 : decode cX12_hear 32 = .ok (.aload_n 0, 1) := by decide +kernel
theorem gdX12_hear_33 : decode cX12_hear 33 = .ok (.iload_n 1, 1) := by decide +kernel
theorem gdX12_hear_34 : decode cX12_hear 34 = .ok (.iload_n 2, 1) := by decide +kernel
theorem gdX12_hear_35 : decode cX12_hear 35 = .ok (.invokevirtual 374, 3) := by decide +kernel
theorem gdX12_hear_38 : decode cX12_hear 38 = .ok (.istore_n 3, 1) := by decide +kernel
theorem gdX12_hear_39 : decode cX12_hear 39 = .ok (.iload_n 3, 1) := by decide +kernel
theorem gdX12_hear_40 : decode cX12_hear 40 = .ok (.ifCond .lt 5, 3) := by decide +kernel
theorem gdX12_hear_45 : decode cX12_hear 45 = .ok (.aload_n 0, 1) := by decide +kernel
theorem gdX12_hear_46 : decode cX12_hear 46 = .ok (.getfield 371, 3) := by decide +kernel
theorem gdX12_hear_49 : decode cX12_hear 49 = .ok (.bipush 60, 2) := by decide +kernel
theorem gdX12_hear_51 : decode cX12_hear 51 = .ok (.if_icmp .ne 6, 3) := by decide +kernel
theorem gdX12_hear_57 : decode cX12_hear 57 = .ok (.aload_n 0, 1) := by decide +kernel
theorem gdX12_hear_58 : decode cX12_hear 58 = .ok (.getfield 138, 3) := by decide +kernel
theorem gdX12_hear_61 : decode cX12_hear 61 = .ok (.aload_n 0, 1) := by decide +kernel
theorem gdX12_hear_62 : decode cX12_hear 62 = .ok (.getfield 371, 3) := by decide +kernel
theorem gdX12_hear_65 : decode cX12_hear 65 = .ok (.iload_n 1, 1) := by decide +kernel
theorem gdX12_hear_66 : decode cX12_hear 66 = .ok (.iastore, 1) := by decide +kernel
theorem gdX12_hear_67 : decode cX12_hear 67 = .ok (.aload_n 0, 1) := by decide +kernel
theorem gdX12_hear_68 : decode cX12_hear 68 = .ok (.getfield 141, 3) := by decide +kernel
theorem gdX12_hear_71 : decode cX12_hear 71 = .ok (.aload_n 0, 1) := by decide +kernel
theorem gdX12_hear_72 : decode cX12_hear 72 = .ok (.getfield 371, 3) := by decide +kernel
theorem gdX12_hear_75 : decode cX12_hear 75 = .ok (.iload_n 2, 1) := by decide +kernel
theorem gdX12_hear_76 : decode cX12_hear 76 = .ok (.iastore, 1) := by decide +kernel
theorem gdX12_hear_77 : decode cX12_hear 77 = .ok (.aload_n 0, 1) := by decide +kernel
theorem gdX12_hear_78 : decode cX12_hear 78 = .ok (.getfield 144, 3) := by decide +kernel
theorem gdX12_hear_81 : decode cX12_hear 81 = .ok (.aload_n 0, 1) := by decide +kernel
theorem gdX12_hear_82 : decode cX12_hear 82 = .ok (.getfield 371, 3) := by decide +kernel
theorem gdX12_hear_85 : decode cX12_hear 85 = .ok (.aload_n 0, 1) := by decide +kernel
theorem gdX12_hear_86 : decode cX12_hear 86 = .ok (.getfield 229, 3) := by decide +kernel
theorem gdX12_hear_89 : decode cX12_hear 89 = .ok (.iastore, 1) := by decide +kernel
theorem gdX12_hear_90 : decode cX12_hear 90 = .ok (.aload_n 0, 1) := by decide +kernel
theorem gdX12_hear_91 : decode cX12_hear 91 = .ok (.dup, 1) := by decide +kernel
theorem gdX12_hear_92 : decode cX12_hear 92 = .ok (.getfield 371, 3) := by decide +kernel
theorem gdX12_hear_95 : decode cX12_hear 95 = .ok (.iconst 1, 1) := by decide +kernel
theorem gdX12_hear_96 : decode cX12_hear 96 = .ok (.iadd, 1) := by decide +kernel
theorem gdX12_hear_97 : decode cX12_hear 97 = .ok (.putfield 371, 3) := by decide +kernel
theorem gdX12_hear_100 : decode cX12_hear 100 = .ok (.aload_n 0, 1) := by decide +kernel
theorem gdX12_hear_101 : decode cX12_hear 101 = .ok (.getfield 229, 3) := by decide +kernel
theorem gdX12_hear_104 : decode cX12_hear 104 = .ok (.ireturn, 1) := by decide +kernel
theorem gdX12_hear_54 : decode cX12_hear 54 = .ok (.bipush (-2), 2) := by decide +kernel
theorem gdX12_hear_56 : decode cX12_hear 56 = .ok (.ireturn, 1) := by decide +kernel
theorem gdX12_hear_43 : decode cX12_hear 43 = .ok (.iload_n 3, 1) := by decide +kernel
theorem gdX12_hear_44 : decode cX12_hear 44 = .ok (.ireturn, 1) := by decide +kernel
theorem gdX12_hear_26 : decode cX12_hear 26 = .ok (.aload_n 0, 1) := by decide +kernel
theorem gdX12_hear_27 : decode cX12_hear 27 = .ok (.iconst 3, 1) := by decide +kernel
theorem gdX12_hear_28 : decode cX12_hear 28 = .ok (.invokevirtual 216, 3) := by decide +kernel
theorem gdX12_hear_31 : decode cX12_hear 31 = .ok (.ireturn, 1) := by decide +kernel
theorem gdX12_hearing_33 : decode cX12_hearing 33 = .ok (.iconst (-1), 1) := by decide +kernel
theorem gdX12_hearing_34 : decode cX12_hearing 34 = .ok (.ireturn, 1) := by decide +kernel
theorem gdX12_hearing_0 : decode cX12_hearing 0 = .ok (.aload_n 0, 1) := by decide +kernel
theorem gdX12_hearing_1 : decode cX12_hearing 1 = .ok (.iload_n 1, 1) := by decide +kernel
theorem gdX12_hearing_2 : decode cX12_hearing 2 = .ok (.invokevirtual 308, 3) := by decide +kernel
theorem gdX12_hearing_5 : decode cX12_hearing 5 = .ok (.ifCond .eq 28, 3) := by decide +kernel
theorem gdX12_hearing_8 : decode cX12_hearing 8 = .ok (.iload_n 2, 1) := by decide +kernel
theorem gdX12_hearing_9 : decode cX12_hearing 9 = .ok (.invokestatic 257, 3) := by decide +kernel
theorem gdX12_hearing_12 : decode cX12_hearing 12 = .ok (.ifCond .eq 21, 3) := by decide +kernel
theorem gdX12_hearing_15 : decode cX12_hearing 15 = .ok (.iload_n 3, 1) := by decide +kernel
theorem gdX12_hearing_16 : decode cX12_hearing 16 = .ok (.iconst 0, 1) := by decide +kernel
theorem gdX12_hearing_17 : decode cX12_hearing 17 = .ok (.bipush 23, 2) := by decide +kernel
theorem gdX12_hearing_19 : decode cX12_hearing 19 = .ok (.invokestatic 208, 3) := by decide +kernel
theorem gdX12_hearing_22 : decode cX12_hearing 22 = .ok (.ifCond .eq 11, 3) := by decide +kernel
theorem gdX12_hearing_25 : decode cX12_hearing 25 = .ok (.iload 4, 2) := by decide +kernel
theorem gdX12_hearing_27 : decode cX12_hearing 27 = .ok (.invokestatic 238, 3) := by decide +kernel
theorem gdX12_hearing_30 : decode cX12_hearing 30 = .ok (.ifCond .ne 5, 3) := by decide +kernel
theorem gdX12_hearing_35 : decode cX12_hearing 35 = .ok (.aload_n 0, 1) := by decide +kernel
theorem gdX12_hearing_36 : decode cX12_hearing 36 = .ok (.getfield 305, 3) := by decide +kernel
theorem gdX12_hearing_39 : decode cX12_hearing 39 = .ok (.bipush 24, 2) := by decide +kernel
theorem gdX12_hearing_41 : decode cX12_hearing 41 = .ok (.if_icmp .ne 6, 3) := by decide +kernel
theorem gdX12_hearing_47 : decode cX12_hearing 47 = .ok (.aload_n 0, 1) := by decide +kernel
theorem gdX12_hearing_48 : decode cX12_hearing 48 = .ok (.iload_n 1, 1) := by decide +kernel
theorem gdX12_hearing_49 : decode cX12_hearing 49 = .ok (.invokevirtual 311, 3) := by decide +kernel
theorem gdX12_hearing_52 : decode cX12_hearing 52 = .ok (.ifCond .ne 9, 3) := by decide +kernel
theorem gdX12_hearing_61 : decode cX12_hearing 61 = .ok (.iload 4, 2) := by decide +kernel
theorem gdX12_hearing_63 : decode cX12_hearing 63 = .ok (.aload_n 0, 1) := by decide +kernel
theorem gdX12_hearing_64 : decode cX12_hearing 64 = .ok (.getfield 229, 3) := by decide +kernel
theorem gdX12_hearing_67 : decode cX12_hearing 67 = .ok (.if_icmp .ge 6, 3) := by decide +kernel
theorem gdX12_hearing_73 : decode cX12_hearing 73 = .ok (.aload_n 0, 1) := by decide +kernel
theorem gdX12_hearing_74 : decode cX12_hearing 74 = .ok (.bipush 6, 2) := by decide +kernel
theorem gdX12_hearing_76 : decode cX12_hearing 76 = .ok (.iload_n 1, 1) := by decide +kernel
theorem gdX12_hearing_77 : decode cX12_hearing 77 = .ok (.invokevirtual 334, 3) := by decide +kernel
theorem gdX12_hearing_80 : decode cX12_hearing 80 = .ok (.istore 5, 2) := by decide +kernel
theorem gdX12_hearing_82 : decode cX12_hearing 82 = .ok (.aload_n 0, 1) := by decide +kernel
theorem gdX12_hearing_83 : decode cX12_hearing 83 = .ok (.getfield 114, 3) := by decide +kernel
theorem gdX12_hearing_86 : decode cX12_hearing 86 = .ok (.iload 5, 2) := by decide +kernel
theorem gdX12_hearing_88 : decode cX12_hearing 88 = .ok (.iload_n 2, 1) := by decide +kernel
theorem gdX12_hearing_89 : decode cX12_hearing 89 = .ok (.iastore, 1) := by decide +kernel
theorem gdX12_hearing_90 : decode cX12_hearing 90 = .ok (.aload_n 0, 1) := by decide +kernel
theorem gdX12_hearing_91 : decode cX12_hearing 91 = .ok (.getfield 117, 3) := by decide +kernel
theorem gdX12_hearing_94 : decode cX12_hearing 94 = .ok (.iload 5, 2) := by decide +kernel
theorem gdX12_hearing_96 : decode cX12_hearing 96 = .ok (.iload_n 3, 1) := by decide +kernel
theorem gdX12_hearing_97 : decode cX12_hearing 97 = .ok (.iastore, 1) := by decide +kernel
theorem gdX12_hearing_98 : decode cX12_hearing 98 = .ok (.aload_n 0, 1) := by decide +kernel
theorem gdX12_hearing_99 : decode cX12_hearing 99 = .ok (.getfield 120, 3) := by decide +kernel
theorem gdX12_hearing_102 : decode cX12_hearing 102 = .ok (.iload 5, 2) := by decide +kernel
theorem gdX12_hearing_104 : decode cX12_hearing 104 = .ok (.iload 4, 2) := by decide +kernel
theorem gdX12_hearing_106 : decode cX12_hearing 106 = .ok (.iastore, 1) := by decide +kernel
theorem gdX12_hearing_107 : decode cX12_hearing 107 = .ok (.iload 5, 2) := by decide +kernel
theorem gdX12_hearing_109 : decode cX12_hearing 109 = .ok (.ireturn, 1) := by decide +kernel
theorem gdX12_hearing_70 : decode cX12_hearing 70 = .ok (.bipush (-4), 2) := by decide +kernel
theorem gdX12_hearing_72 : decode cX12_hearing 72 = .ok (.ireturn, 1) := by decide +kernel
theorem gdX12_hearing_55 : decode cX12_hearing 55 = .ok (.aload_n 0, 1) := by decide +kernel
theorem gdX12_hearing_56 : decode cX12_hearing 56 = .ok (.iconst 3, 1) := by decide +kernel
theorem gdX12_hearing_57 : decode cX12_hearing 57 = .ok (.invokevirtual 216, 3) := by decide +kernel
theorem gdX12_hearing_60 : decode cX12_hearing 60 = .ok (.ireturn, 1) := by decide +kernel
theorem gdX12_hearing_44 : decode cX12_hearing 44 = .ok (.bipush (-2), 2) := by decide +kernel
theorem gdX12_hearing_46 : decode cX12_hearing 46 = .ok (.ireturn, 1) := by decide +kernel
theorem gdX12_house_32 : decode cX12_house 32 = .ok (.ireturn, 1) := by decide +kernel
theorem gdX12_house_31 : decode cX12_house 31 = .ok (.iconst (-1), 1) := by decide +kernel
theorem gdX12_house_0 : decode cX12_house 0 = .ok (.aload_n 0, 1) := by decide +kernel
theorem gdX12_house_1 : decode cX12_house 1 = .ok (.iload_n 1, 1) := by decide +kernel
theorem gdX12_house_2 : decode cX12_house 2 = .ok (.invokevirtual 274, 3) := by decide +kernel
theorem gdX12_house_5 : decode cX12_house 5 = .ok (.ifCond .eq 26, 3) := by decide +kernel
theorem gdX12_house_8 : decode cX12_house 8 = .ok (.iload_n 2, 1) := by decide +kernel
theorem gdX12_house_9 : decode cX12_house 9 = .ok (.iconst 0, 1) := by decide +kernel
theorem gdX12_house_10 : decode cX12_house 10 = .ok (.iconst 5, 1) := by decide +kernel
theorem gdX12_house_11 : decode cX12_house 11 = .ok (.invokestatic 208, 3) := by decide +kernel
theorem gdX12_house_14 : decode cX12_house 14 = .ok (.ifCond .eq 17, 3) := by decide +kernel
theorem gdX12_house_17 : decode cX12_house 17 = .ok (.aload_n 0, 1) := by decide +kernel
theorem gdX12_house_18 : decode cX12_house 18 = .ok (.aload_n 0, 1) := by decide +kernel
theorem gdX12_house_19 : decode cX12_house 19 = .ok (.iload_n 1, 1) := by decide +kernel
theorem gdX12_house_20 : decode cX12_house 20 = .ok (.iload_n 2, 1) := by decide +kernel
theorem gdX12_house_21 : decode cX12_house 21 = .ok (.invokevirtual 287, 3) := by decide +kernel
theorem gdX12_house_24 : decode cX12_house 24 = .ok (.iconst 1, 1) := by decide +kernel
theorem gdX12_house_25 : decode cX12_house 25 = .ok (.invokevirtual 290, 3) := by decide +kernel
theorem gdX12_house_28 : decode cX12_house 28 = .ok (.goto 4, 3) := by decide +kernel
theorem gdX12_couldCome_124 : decode cX12_couldCome 124 = .ok (.iload_n 2, 1) := by decide +kernel
theorem gdX12_couldCome_125 : decode cX12_couldCome 125 = .ok (.ireturn, 1) := by decide +kernel
theorem gdX12_couldCome_118 : decode cX12_couldCome 118 = .ok (.iinc 3 1, 3) := by decide +kernel
theorem gdX12_couldCome_121 : decode cX12_couldCome 121 = .ok (.goto (-117), 3) := by decide +kernel
theorem gdX12_couldCome_116 : decode cX12_couldCome 116 = .ok (.iadd, 1) := by decide +kernel
theorem gdX12_couldCome_117 : decode cX12_couldCome 117 = .ok (.istore_n 2, 1) := by decide +kernel
theorem gdX12_couldCome_115 : decode cX12_couldCome 115 = .ok (.iconst 0, 1) := by decide +kernel
theorem gdX12_couldCome_98 : decode cX12_couldCome 98 = .ok (.istore 5, 2) := by decide +kernel
theorem gdX12_couldCome_100 : decode cX12_couldCome 100 = .ok (.iload_n 2, 1) := by decide +kernel
theorem gdX12_couldCome_101 : decode cX12_couldCome 101 = .ok (.iload 4, 2) := by decide +kernel
theorem gdX12_couldCome_103 : decode cX12_couldCome 103 = .ok (.ifCond .eq 12, 3) := by decide +kernel
theorem gdX12_couldCome_106 : decode cX12_couldCome 106 = .ok (.iload 5, 2) := by decide +kernel
theorem gdX12_couldCome_108 : decode cX12_couldCome 108 = .ok (.ifCond .eq 7, 3) := by decide +kernel
theorem gdX12_couldCome_111 : decode cX12_couldCome 111 = .ok (.iconst 1, 1) := by decide +kernel
theorem gdX12_couldCome_112 : decode cX12_couldCome 112 = .ok (.goto 4, 3) := by decide +kernel
theorem gdX12_couldCome_93 : decode cX12_couldCome 93 = .ok (.iconst 1, 1) := by decide +kernel
theorem gdX12_couldCome_94 : decode cX12_couldCome 94 = .ok (.goto 4, 3) := by decide +kernel
theorem gdX12_couldCome_60 : decode cX12_couldCome 60 = .ok (.istore 4, 2) := by decide +kernel
theorem gdX12_couldCome_62 : decode cX12_couldCome 62 = .ok (.aload_n 0, 1) := by decide +kernel
theorem gdX12_couldCome_63 : decode cX12_couldCome 63 = .ok (.getfield 74, 3) := by decide +kernel
theorem gdX12_couldCome_66 : decode cX12_couldCome 66 = .ok (.iload_n 3, 1) := by decide +kernel
theorem gdX12_couldCome_67 : decode cX12_couldCome 67 = .ok (.iaload, 1) := by decide +kernel
theorem gdX12_couldCome_68 : decode cX12_couldCome 68 = .ok (.ifCond .lt 25, 3) := by decide +kernel
theorem gdX12_couldCome_71 : decode cX12_couldCome 71 = .ok (.aload_n 0, 1) := by decide +kernel
theorem gdX12_couldCome_72 : decode cX12_couldCome 72 = .ok (.getfield 117, 3) := by decide +kernel
theorem gdX12_couldCome_75 : decode cX12_couldCome 75 = .ok (.iload_n 1, 1) := by decide +kernel
theorem gdX12_couldCome_76 : decode cX12_couldCome 76 = .ok (.iaload, 1) := by decide +kernel
theorem gdX12_couldCome_77 : decode cX12_couldCome 77 = .ok (.bipush 9, 2) := by decide +kernel
theorem gdX12_couldCome_79 : decode cX12_couldCome 79 = .ok (.if_icmp .lt 14, 3) := by decide +kernel
theorem gdX12_couldCome_82 : decode cX12_couldCome 82 = .ok (.aload_n 0, 1) := by decide +kernel
theorem gdX12_couldCome_83 : decode cX12_couldCome 83 = .ok (.getfield 117, 3) := by decide +kernel
theorem gdX12_couldCome_86 : decode cX12_couldCome 86 = .ok (.iload_n 1, 1) := by decide +kernel
theorem gdX12_couldCome_87 : decode cX12_couldCome 87 = .ok (.iaload, 1) := by decide +kernel
theorem gdX12_couldCome_88 : decode cX12_couldCome 88 = .ok (.bipush 16, 2) := by decide +kernel
theorem gdX12_couldCome_90 : decode cX12_couldCome 90 = .ok (.if_icmp .le 7, 3) := by decide +kernel
theorem gdX12_couldCome_97 : decode cX12_couldCome 97 = .ok (.iconst 0, 1) := by decide +kernel
theorem gdX12_couldCome_55 : decode cX12_couldCome 55 = .ok (.iconst 1, 1) := by decide +kernel
theorem gdX12_couldCome_56 : decode cX12_couldCome 56 = .ok (.goto 4, 3) := by decide +kernel
theorem gdX12_couldCome_4 : decode cX12_couldCome 4 = .ok (.iload_n 3, 1) := by decide +kernel
theorem gdX12_couldCome_5 : decode cX12_couldCome 5 = .ok (.aload_n 0, 1) := by decide +kernel
theorem gdX12_couldCome_6 : decode cX12_couldCome 6 = .ok (.getfield 281, 3) := by decide +kernel
theorem gdX12_couldCome_9 : decode cX12_couldCome 9 = .ok (.if_icmp .ge 115, 3) := by decide +kernel
theorem gdX12_couldCome_12 : decode cX12_couldCome 12 = .ok (.aload_n 0, 1) := by decide +kernel
theorem gdX12_couldCome_13 : decode cX12_couldCome 13 = .ok (.getfield 71, 3) := by decide +kernel
theorem gdX12_couldCome_16 : decode cX12_couldCome 16 = .ok (.iload_n 3, 1) := by decide +kernel
theorem gdX12_couldCome_17 : decode cX12_couldCome 17 = .ok (.iaload, 1) := by decide +kernel
theorem gdX12_couldCome_18 : decode cX12_couldCome 18 = .ok (.ifCond .lt 100, 3) := by decide +kernel
theorem gdX12_couldCome_21 : decode cX12_couldCome 21 = .ok (.aload_n 0, 1) := by decide +kernel
theorem gdX12_couldCome_22 : decode cX12_couldCome 22 = .ok (.getfield 77, 3) := by decide +kernel
theorem gdX12_couldCome_25 : decode cX12_couldCome 25 = .ok (.iload_n 3, 1) := by decide +kernel
theorem gdX12_couldCome_26 : decode cX12_couldCome 26 = .ok (.baload, 1) := by decide +kernel
theorem gdX12_couldCome_27 : decode cX12_couldCome 27 = .ok (.ifCond .ne 28, 3) := by decide +kernel
theorem gdX12_couldCome_30 : decode cX12_couldCome 30 = .ok (.aload_n 0, 1) := by decide +kernel
theorem gdX12_couldCome_31 : decode cX12_couldCome 31 = .ok (.getfield 46, 3) := by decide +kernel
theorem gdX12_couldCome_34 : decode cX12_couldCome 34 = .ok (.aload_n 0, 1) := by decide +kernel
theorem gdX12_couldCome_35 : decode cX12_couldCome 35 = .ok (.getfield 71, 3) := by decide +kernel
theorem gdX12_couldCome_38 : decode cX12_couldCome 38 = .ok (.iload_n 3, 1) := by decide +kernel
theorem gdX12_couldCome_39 : decode cX12_couldCome 39 = .ok (.iaload, 1) := by decide +kernel
theorem gdX12_couldCome_40 : decode cX12_couldCome 40 = .ok (.iaload, 1) := by decide +kernel
theorem gdX12_couldCome_41 : decode cX12_couldCome 41 = .ok (.aload_n 0, 1) := by decide +kernel
theorem gdX12_couldCome_42 : decode cX12_couldCome 42 = .ok (.getfield 114, 3) := by decide +kernel
theorem gdX12_couldCome_45 : decode cX12_couldCome 45 = .ok (.iload_n 1, 1) := by decide +kernel
theorem gdX12_couldCome_46 : decode cX12_couldCome 46 = .ok (.iaload, 1) := by decide +kernel
theorem gdX12_couldCome_47 : decode cX12_couldCome 47 = .ok (.invokestatic 337, 3) := by decide +kernel
theorem gdX12_couldCome_50 : decode cX12_couldCome 50 = .ok (.bipush 6, 2) := by decide +kernel
theorem gdX12_couldCome_52 : decode cX12_couldCome 52 = .ok (.if_icmp .gt 7, 3) := by decide +kernel
theorem gdX12_couldCome_59 : decode cX12_couldCome 59 = .ok (.iconst 0, 1) := by decide +kernel
theorem gdX12_couldCome_0 : decode cX12_couldCome 0 = .ok (.iconst 0, 1) := by decide +kernel
theorem gdX12_couldCome_1 : decode cX12_couldCome 1 = .ok (.istore_n 2, 1) := by decide +kernel
theorem gdX12_couldCome_2 : decode cX12_couldCome 2 = .ok (.iconst 0, 1) := by decide +kernel
theorem gdX12_couldCome_3 : decode cX12_couldCome 3 = .ok (.istore_n 3, 1) := by decide +kernel
theorem gdX12_isVoidHearing_47 : decode cX12_isVoidHearing 47 = .ok (.ireturn, 1) := by decide +kernel
theorem gdX12_isVoidHearing_42 : decode cX12_isVoidHearing 42 = .ok (.iconst 1, 1) := by decide +kernel
theorem gdX12_isVoidHearing_43 : decode cX12_isVoidHearing 43 = .ok (.goto 4, 3) := by decide +kernel
theorem gdX12_isVoidHearing_0 : decode cX12_isVoidHearing 0 = .ok (.aload_n 0, 1) := by decide +kernel
theorem gdX12_isVoidHearing_1 : decode cX12_isVoidHearing 1 = .ok (.getfield 120, 3) := by decide +kernel
theorem gdX12_isVoidHearing_4 : decode cX12_isVoidHearing 4 = .ok (.iload_n 1, 1) := by decide +kernel
theorem gdX12_isVoidHearing_5 : decode cX12_isVoidHearing 5 = .ok (.iaload, 1) := by decide +kernel
theorem gdX12_isVoidHearing_6 : decode cX12_isVoidHearing 6 = .ok (.aload_n 0, 1) := by decide +kernel
theorem gdX12_isVoidHearing_7 : decode cX12_isVoidHearing 7 = .ok (.getfield 86, 3) := by decide +kernel
theorem gdX12_isVoidHearing_10 : decode cX12_isVoidHearing 10 = .ok (.iload_n 1, 1) := by decide +kernel
theorem gdX12_isVoidHearing_11 : decode cX12_isVoidHearing 11 = .ok (.iaload, 1) := by decide +kernel
theorem gdX12_isVoidHearing_12 : decode cX12_isVoidHearing 12 = .ok (.isub, 1) := by decide +kernel
theorem gdX12_isVoidHearing_13 : decode cX12_isVoidHearing 13 = .ok (.aload_n 0, 1) := by decide +kernel
theorem gdX12_isVoidHearing_14 : decode cX12_isVoidHearing 14 = .ok (.bipush 7, 2) := by decide +kernel
theorem gdX12_isVoidHearing_16 : decode cX12_isVoidHearing 16 = .ok (.aload_n 0, 1) := by decide +kernel
theorem gdX12_isVoidHearing_17 : decode cX12_isVoidHearing 17 = .ok (.getfield 86, 3) := by decide +kernel
theorem gdX12_isVoidHearing_20 : decode cX12_isVoidHearing 20 = .ok (.iload_n 1, 1) := by decide +kernel
theorem gdX12_isVoidHearing_21 : decode cX12_isVoidHearing 21 = .ok (.iaload, 1) := by decide +kernel
theorem gdX12_isVoidHearing_22 : decode cX12_isVoidHearing 22 = .ok (.aload_n 0, 1) := by decide +kernel
theorem gdX12_isVoidHearing_23 : decode cX12_isVoidHearing 23 = .ok (.getfield 86, 3) := by decide +kernel
theorem gdX12_isVoidHearing_26 : decode cX12_isVoidHearing 26 = .ok (.iload_n 1, 1) := by decide +kernel
theorem gdX12_isVoidHearing_27 : decode cX12_isVoidHearing 27 = .ok (.iaload, 1) := by decide +kernel
theorem gdX12_isVoidHearing_28 : decode cX12_isVoidHearing 28 = .ok (.invokevirtual 248, 3) := by decide +kernel
theorem gdX12_isVoidHearing_31 : decode cX12_isVoidHearing 31 = .ok (.if_icmp .lt 11, 3) := by decide +kernel
theorem gdX12_isVoidHearing_34 : decode cX12_isVoidHearing 34 = .ok (.aload_n 0, 1) := by decide +kernel
theorem gdX12_isVoidHearing_35 : decode cX12_isVoidHearing 35 = .ok (.iload_n 1, 1) := by decide +kernel
theorem gdX12_isVoidHearing_36 : decode cX12_isVoidHearing 36 = .ok (.invokevirtual 361, 3) := by decide +kernel
theorem gdX12_isVoidHearing_39 : decode cX12_isVoidHearing 39 = .ok (.ifCond .ne 7, 3) := by decide +kernel
theorem gdX12_isVoidHearing_46 : decode cX12_isVoidHearing 46 = .ok (.iconst 0, 1) := by decide +kernel
theorem gdX12_isVoidTaking_86 : decode cX12_isVoidTaking 86 = .ok (.ireturn, 1) := by decide +kernel
theorem gdX12_isVoidTaking_77 : decode cX12_isVoidTaking 77 = .ok (.iload_n 2, 1) := by decide +kernel
theorem gdX12_isVoidTaking_78 : decode cX12_isVoidTaking 78 = .ok (.ifCond .ne 7, 3) := by decide +kernel
theorem gdX12_isVoidTaking_85 : decode cX12_isVoidTaking 85 = .ok (.iconst 0, 1) := by decide +kernel
theorem gdX12_isVoidTaking_81 : decode cX12_isVoidTaking 81 = .ok (.iconst 1, 1) := by decide +kernel
theorem gdX12_isVoidTaking_82 : decode cX12_isVoidTaking 82 = .ok (.goto 4, 3) := by decide +kernel
theorem gdX12_isVoidTaking_70 : decode cX12_isVoidTaking 70 = .ok (.istore_n 2, 1) := by decide +kernel
theorem gdX12_isVoidTaking_71 : decode cX12_isVoidTaking 71 = .ok (.iinc 3 1, 3) := by decide +kernel
theorem gdX12_isVoidTaking_74 : decode cX12_isVoidTaking 74 = .ok (.goto (-70), 3) := by decide +kernel
theorem gdX12_isVoidTaking_65 : decode cX12_isVoidTaking 65 = .ok (.iconst 1, 1) := by decide +kernel
theorem gdX12_isVoidTaking_66 : decode cX12_isVoidTaking 66 = .ok (.goto 4, 3) := by decide +kernel
theorem gdX12_isVoidTaking_69 : decode cX12_isVoidTaking 69 = .ok (.iconst 0, 1) := by decide +kernel
theorem gdX12_isVoidTaking_4 : decode cX12_isVoidTaking 4 = .ok (.iload_n 3, 1) := by decide +kernel
theorem gdX12_isVoidTaking_5 : decode cX12_isVoidTaking 5 = .ok (.aload_n 0, 1) := by decide +kernel
theorem gdX12_isVoidTaking_6 : decode cX12_isVoidTaking 6 = .ok (.getfield 305, 3) := by decide +kernel
theorem gdX12_isVoidTaking_9 : decode cX12_isVoidTaking 9 = .ok (.if_icmp .ge 68, 3) := by decide +kernel
theorem gdX12_isVoidTaking_12 : decode cX12_isVoidTaking 12 = .ok (.iload_n 2, 1) := by decide +kernel
theorem gdX12_isVoidTaking_13 : decode cX12_isVoidTaking 13 = .ok (.ifCond .ne 52, 3) := by decide +kernel
theorem gdX12_isVoidTaking_16 : decode cX12_isVoidTaking 16 = .ok (.aload_n 0, 1) := by decide +kernel
theorem gdX12_isVoidTaking_17 : decode cX12_isVoidTaking 17 = .ok (.getfield 83, 3) := by decide +kernel
theorem gdX12_isVoidTaking_20 : decode cX12_isVoidTaking 20 = .ok (.iload_n 3, 1) := by decide +kernel
theorem gdX12_isVoidTaking_21 : decode cX12_isVoidTaking 21 = .ok (.iaload, 1) := by decide +kernel
theorem gdX12_isVoidTaking_22 : decode cX12_isVoidTaking 22 = .ok (.bipush 6, 2) := by decide +kernel
theorem gdX12_isVoidTaking_24 : decode cX12_isVoidTaking 24 = .ok (.if_icmp .ne 45, 3) := by decide +kernel
theorem gdX12_isVoidTaking_27 : decode cX12_isVoidTaking 27 = .ok (.aload_n 0, 1) := by decide +kernel
theorem gdX12_isVoidTaking_28 : decode cX12_isVoidTaking 28 = .ok (.getfield 89, 3) := by decide +kernel
theorem gdX12_isVoidTaking_31 : decode cX12_isVoidTaking 31 = .ok (.iload_n 3, 1) := by decide +kernel
theorem gdX12_isVoidTaking_32 : decode cX12_isVoidTaking 32 = .ok (.iaload, 1) := by decide +kernel
theorem gdX12_isVoidTaking_33 : decode cX12_isVoidTaking 33 = .ok (.aload_n 0, 1) := by decide +kernel
theorem gdX12_isVoidTaking_34 : decode cX12_isVoidTaking 34 = .ok (.getfield 89, 3) := by decide +kernel
theorem gdX12_isVoidTaking_37 : decode cX12_isVoidTaking 37 = .ok (.iload_n 1, 1) := by decide +kernel
theorem gdX12_isVoidTaking_38 : decode cX12_isVoidTaking 38 = .ok (.iaload, 1) := by decide +kernel
theorem gdX12_isVoidTaking_39 : decode cX12_isVoidTaking 39 = .ok (.if_icmp .ne 30, 3) := by decide +kernel
theorem gdX12_isVoidTaking_42 : decode cX12_isVoidTaking 42 = .ok (.aload_n 0, 1) := by decide +kernel
theorem gdX12_isVoidTaking_43 : decode cX12_isVoidTaking 43 = .ok (.getfield 120, 3) := by decide +kernel
theorem gdX12_isVoidTaking_46 : decode cX12_isVoidTaking 46 = .ok (.iload_n 3, 1) := by decide +kernel
theorem gdX12_isVoidTaking_47 : decode cX12_isVoidTaking 47 = .ok (.iaload, 1) := by decide +kernel
theorem gdX12_isVoidTaking_48 : decode cX12_isVoidTaking 48 = .ok (.aload_n 0, 1) := by decide +kernel
theorem gdX12_isVoidTaking_49 : decode cX12_isVoidTaking 49 = .ok (.getfield 86, 3) := by decide +kernel
theorem gdX12_isVoidTaking_52 : decode cX12_isVoidTaking 52 = .ok (.iload_n 1, 1) := by decide +kernel
theorem gdX12_isVoidTaking_53 : decode cX12_isVoidTaking 53 = .ok (.iaload, 1) := by decide +kernel
theorem gdX12_isVoidTaking_54 : decode cX12_isVoidTaking 54 = .ok (.if_icmp .gt 15, 3) := by decide +kernel
theorem gdX12_isVoidTaking_57 : decode cX12_isVoidTaking 57 = .ok (.aload_n 0, 1) := by decide +kernel
theorem gdX12_isVoidTaking_58 : decode cX12_isVoidTaking 58 = .ok (.iload_n 3, 1) := by decide +kernel
theorem gdX12_isVoidTaking_59 : decode cX12_isVoidTaking 59 = .ok (.invokevirtual 407, 3) := by decide +kernel
theorem gdX12_isVoidTaking_62 : decode cX12_isVoidTaking 62 = .ok (.ifCond .ne 7, 3) := by decide +kernel
theorem gdX12_isVoidTaking_0 : decode cX12_isVoidTaking 0 = .ok (.iconst 0, 1) := by decide +kernel
theorem gdX12_isVoidTaking_1 : decode cX12_isVoidTaking 1 = .ok (.istore_n 2, 1) := by decide +kernel
theorem gdX12_isVoidTaking_2 : decode cX12_isVoidTaking 2 = .ok (.iconst 0, 1) := by decide +kernel
theorem gdX12_isVoidTaking_3 : decode cX12_isVoidTaking 3 = .ok (.istore_n 3, 1) := by decide +kernel
theorem gdX12_isVoid_72 : decode cX12_isVoid 72 = .ok (.ireturn, 1) := by decide +kernel
theorem gdX12_isVoid_67 : decode cX12_isVoid 67 = .ok (.iconst 1, 1) := by decide +kernel
theorem gdX12_isVoid_68 : decode cX12_isVoid 68 = .ok (.goto 4, 3) := by decide +kernel
theorem gdX12_isVoid_71 : decode cX12_isVoid 71 = .ok (.iconst 0, 1) := by decide +kernel
theorem gdX12_isVoid_37 : decode cX12_isVoid 37 = .ok (.aload_n 0, 1) := by decide +kernel
theorem gdX12_isVoid_38 : decode cX12_isVoid 38 = .ok (.getfield 83, 3) := by decide +kernel
theorem gdX12_isVoid_41 : decode cX12_isVoid 41 = .ok (.iload_n 1, 1) := by decide +kernel
theorem gdX12_isVoid_42 : decode cX12_isVoid 42 = .ok (.iaload, 1) := by decide +kernel
theorem gdX12_isVoid_43 : decode cX12_isVoid 43 = .ok (.bipush 6, 2) := by decide +kernel
theorem gdX12_isVoid_45 : decode cX12_isVoid 45 = .ok (.if_icmp .ne 14, 3) := by decide +kernel
theorem gdX12_isVoid_59 : decode cX12_isVoid 59 = .ok (.aload_n 0, 1) := by decide +kernel
theorem gdX12_isVoid_60 : decode cX12_isVoid 60 = .ok (.iload_n 1, 1) := by decide +kernel
theorem gdX12_isVoid_61 : decode cX12_isVoid 61 = .ok (.invokevirtual 410, 3) := by decide +kernel
theorem gdX12_isVoid_64 : decode cX12_isVoid 64 = .ok (.ifCond .eq 7, 3) := by decide +kernel
theorem gdX12_isVoid_48 : decode cX12_isVoid 48 = .ok (.aload_n 0, 1) := by decide +kernel
theorem gdX12_isVoid_49 : decode cX12_isVoid 49 = .ok (.iload_n 1, 1) := by decide +kernel
theorem gdX12_isVoid_50 : decode cX12_isVoid 50 = .ok (.invokevirtual 407, 3) := by decide +kernel
theorem gdX12_isVoid_53 : decode cX12_isVoid 53 = .ok (.ifCond .eq 18, 3) := by decide +kernel
theorem gdX12_isVoid_56 : decode cX12_isVoid 56 = .ok (.goto 11, 3) := by decide +kernel
theorem gdX12_isVoid_0 : decode cX12_isVoid 0 = .ok (.aload_n 0, 1) := by decide +kernel
theorem gdX12_isVoid_1 : decode cX12_isVoid 1 = .ok (.iload_n 1, 1) := by decide +kernel
theorem gdX12_isVoid_2 : decode cX12_isVoid 2 = .ok (.invokevirtual 308, 3) := by decide +kernel
theorem gdX12_isVoid_5 : decode cX12_isVoid 5 = .ok (.ifCond .ne 5, 3) := by decide +kernel
theorem gdX12_isVoid_10 : decode cX12_isVoid 10 = .ok (.aload_n 0, 1) := by decide +kernel
theorem gdX12_isVoid_11 : decode cX12_isVoid 11 = .ok (.getfield 83, 3) := by decide +kernel
theorem gdX12_isVoid_14 : decode cX12_isVoid 14 = .ok (.iload_n 1, 1) := by decide +kernel
theorem gdX12_isVoid_15 : decode cX12_isVoid 15 = .ok (.iaload, 1) := by decide +kernel
theorem gdX12_isVoid_16 : decode cX12_isVoid 16 = .ok (.bipush 6, 2) := by decide +kernel
theorem gdX12_isVoid_18 : decode cX12_isVoid 18 = .ok (.if_icmp .eq 19, 3) := by decide +kernel
theorem gdX12_isVoid_21 : decode cX12_isVoid 21 = .ok (.aload_n 0, 1) := by decide +kernel
theorem gdX12_isVoid_22 : decode cX12_isVoid 22 = .ok (.getfield 83, 3) := by decide +kernel
theorem gdX12_isVoid_25 : decode cX12_isVoid 25 = .ok (.iload_n 1, 1) := by decide +kernel
theorem gdX12_isVoid_26 : decode cX12_isVoid 26 = .ok (.iaload, 1) := by decide +kernel
theorem gdX12_isVoid_27 : decode cX12_isVoid 27 = .ok (.iconst 3, 1) := by decide +kernel
theorem gdX12_isVoid_28 : decode cX12_isVoid 28 = .ok (.if_icmp .eq 9, 3) := by decide +kernel
theorem gdX12_isVoid_31 : decode cX12_isVoid 31 = .ok (.aload_n 0, 1) := by decide +kernel
theorem gdX12_isVoid_32 : decode cX12_isVoid 32 = .ok (.iconst 3, 1) := by decide +kernel
theorem gdX12_isVoid_33 : decode cX12_isVoid 33 = .ok (.invokevirtual 216, 3) := by decide +kernel
theorem gdX12_isVoid_36 : decode cX12_isVoid 36 = .ok (.ireturn, 1) := by decide +kernel
theorem gdX12_isVoid_8 : decode cX12_isVoid 8 = .ok (.iconst (-1), 1) := by decide +kernel
theorem gdX12_isVoid_9 : decode cX12_isVoid 9 = .ok (.ireturn, 1) := by decide +kernel
theorem gdX12_judge_22 : decode cX12_judge 22 = .ok (.iconst (-1), 1) := by decide +kernel
theorem gdX12_judge_23 : decode cX12_judge 23 = .ok (.ireturn, 1) := by decide +kernel
theorem gdX12_judge_68 : decode cX12_judge 68 = .ok (.ireturn, 1) := by decide +kernel
theorem gdX12_judge_0 : decode cX12_judge 0 = .ok (.aload_n 0, 1) := by decide +kernel
theorem gdX12_judge_1 : decode cX12_judge 1 = .ok (.iload_n 1, 1) := by decide +kernel
theorem gdX12_judge_2 : decode cX12_judge 2 = .ok (.invokevirtual 308, 3) := by decide +kernel
theorem gdX12_judge_5 : decode cX12_judge 5 = .ok (.ifCond .eq 17, 3) := by decide +kernel
theorem gdX12_judge_8 : decode cX12_judge 8 = .ok (.iload_n 2, 1) := by decide +kernel
theorem gdX12_judge_9 : decode cX12_judge 9 = .ok (.invokestatic 212, 3) := by decide +kernel
theorem gdX12_judge_12 : decode cX12_judge 12 = .ok (.ifCond .eq 10, 3) := by decide +kernel
theorem gdX12_judge_15 : decode cX12_judge 15 = .ok (.iload_n 3, 1) := by decide +kernel
theorem gdX12_judge_16 : decode cX12_judge 16 = .ok (.invokestatic 212, 3) := by decide +kernel
theorem gdX12_judge_19 : decode cX12_judge 19 = .ok (.ifCond .ne 5, 3) := by decide +kernel
theorem gdX12_judge_24 : decode cX12_judge 24 = .ok (.aload_n 0, 1) := by decide +kernel
theorem gdX12_judge_25 : decode cX12_judge 25 = .ok (.iload_n 1, 1) := by decide +kernel
theorem gdX12_judge_26 : decode cX12_judge 26 = .ok (.invokevirtual 311, 3) := by decide +kernel
theorem gdX12_judge_29 : decode cX12_judge 29 = .ok (.ifCond .ne 9, 3) := by decide +kernel
theorem gdX12_judge_38 : decode cX12_judge 38 = .ok (.aload_n 0, 1) := by decide +kernel
theorem gdX12_judge_39 : decode cX12_judge 39 = .ok (.iload_n 2, 1) := by decide +kernel
theorem gdX12_judge_40 : decode cX12_judge 40 = .ok (.iload_n 3, 1) := by decide +kernel
theorem gdX12_judge_41 : decode cX12_judge 41 = .ok (.invokevirtual 437, 3) := by decide +kernel
theorem gdX12_judge_44 : decode cX12_judge 44 = .ok (.istore 4, 2) := by decide +kernel
theorem gdX12_judge_46 : decode cX12_judge 46 = .ok (.iload 4, 2) := by decide +kernel
theorem gdX12_judge_48 : decode cX12_judge 48 = .ok (.ifCond .ge 8, 3) := by decide +kernel
theorem gdX12_judge_56 : decode cX12_judge 56 = .ok (.aload_n 0, 1) := by decide +kernel
theorem gdX12_judge_57 : decode cX12_judge 57 = .ok (.aload_n 0, 1) := by decide +kernel
theorem gdX12_judge_58 : decode cX12_judge 58 = .ok (.iload_n 1, 1) := by decide +kernel
theorem gdX12_judge_59 : decode cX12_judge 59 = .ok (.iload_n 2, 1) := by decide +kernel
theorem gdX12_judge_60 : decode cX12_judge 60 = .ok (.iload_n 3, 1) := by decide +kernel
theorem gdX12_judge_61 : decode cX12_judge 61 = .ok (.invokevirtual 440, 3) := by decide +kernel
theorem gdX12_judge_64 : decode cX12_judge 64 = .ok (.iconst 1, 1) := by decide +kernel
theorem gdX12_judge_65 : decode cX12_judge 65 = .ok (.invokevirtual 290, 3) := by decide +kernel
theorem gdX12_judge_51 : decode cX12_judge 51 = .ok (.iload 4, 2) := by decide +kernel
theorem gdX12_judge_53 : decode cX12_judge 53 = .ok (.goto 15, 3) := by decide +kernel
theorem gdX12_judge_32 : decode cX12_judge 32 = .ok (.aload_n 0, 1) := by decide +kernel
theorem gdX12_judge_33 : decode cX12_judge 33 = .ok (.iconst 3, 1) := by decide +kernel
theorem gdX12_judge_34 : decode cX12_judge 34 = .ok (.invokevirtual 216, 3) := by decide +kernel
theorem gdX12_judge_37 : decode cX12_judge 37 = .ok (.ireturn, 1) := by decide +kernel
theorem gdX12_later_16 : decode cX12_later 16 = .ok (.iconst (-1), 1) := by decide +kernel
theorem gdX12_later_17 : decode cX12_later 17 = .ok (.ireturn, 1) := by decide +kernel
theorem gdX12_later_0 : decode cX12_later 0 = .ok (.iload_n 1, 1) := by decide +kernel
theorem gdX12_later_1 : decode cX12_later 1 = .ok (.ifCond .lt 15, 3) := by decide +kernel
theorem gdX12_later_4 : decode cX12_later 4 = .ok (.iload_n 1, 1) := by decide +kernel
theorem gdX12_later_5 : decode cX12_later 5 = .ok (.sipush 999, 3) := by decide +kernel
theorem gdX12_later_8 : decode cX12_later 8 = .ok (.aload_n 0, 1) := by decide +kernel
theorem gdX12_later_9 : decode cX12_later 9 = .ok (.getfield 229, 3) := by decide +kernel
theorem gdX12_later_12 : decode cX12_later 12 = .ok (.isub, 1) := by decide +kernel
theorem gdX12_later_13 : decode cX12_later 13 = .ok (.if_icmp .le 5, 3) := by decide +kernel
theorem gdX12_later_18 : decode cX12_later 18 = .ok (.aload_n 0, 1) := by decide +kernel
theorem gdX12_later_19 : decode cX12_later 19 = .ok (.dup, 1) := by decide +kernel
theorem gdX12_later_20 : decode cX12_later 20 = .ok (.getfield 229, 3) := by decide +kernel
theorem gdX12_later_23 : decode cX12_later 23 = .ok (.iload_n 1, 1) := by decide +kernel
theorem gdX12_later_24 : decode cX12_later 24 = .ok (.iadd, 1) := by decide +kernel
theorem gdX12_later_25 : decode cX12_later 25 = .ok (.putfield 229, 3) := by decide +kernel
theorem gdX12_later_28 : decode cX12_later 28 = .ok (.aload_n 0, 1) := by decide +kernel
theorem gdX12_later_29 : decode cX12_later 29 = .ok (.getfield 229, 3) := by decide +kernel
theorem gdX12_later_32 : decode cX12_later 32 = .ok (.ireturn, 1) := by decide +kernel
theorem gdX12_lay_0 : decode cX12_lay 0 = .ok (.aload_n 0, 1) := by decide +kernel
theorem gdX12_lay_1 : decode cX12_lay 1 = .ok (.iload_n 1, 1) := by decide +kernel
theorem gdX12_lay_2 : decode cX12_lay 2 = .ok (.invokevirtual 223, 3) := by decide +kernel
theorem gdX12_lay_5 : decode cX12_lay 5 = .ok (.istore 4, 2) := by decide +kernel
theorem gdX12_lay_7 : decode cX12_lay 7 = .ok (.iload 4, 2) := by decide +kernel
theorem gdX12_lay_9 : decode cX12_lay 9 = .ok (.ifCond .ge 6, 3) := by decide +kernel
theorem gdX12_lay_15 : decode cX12_lay 15 = .ok (.iload_n 2, 1) := by decide +kernel
theorem gdX12_lay_16 : decode cX12_lay 16 = .ok (.iconst 0, 1) := by decide +kernel
theorem gdX12_lay_17 : decode cX12_lay 17 = .ok (.aload_n 0, 1) := by decide +kernel
theorem gdX12_lay_18 : decode cX12_lay 18 = .ok (.getfield 13, 3) := by decide +kernel
theorem gdX12_lay_21 : decode cX12_lay 21 = .ok (.iload_n 1, 1) := by decide +kernel
theorem gdX12_lay_22 : decode cX12_lay 22 = .ok (.iaload, 1) := by decide +kernel
theorem gdX12_lay_23 : decode cX12_lay 23 = .ok (.iconst 1, 1) := by decide +kernel
theorem gdX12_lay_24 : decode cX12_lay 24 = .ok (.isub, 1) := by decide +kernel
theorem gdX12_lay_25 : decode cX12_lay 25 = .ok (.invokestatic 208, 3) := by decide +kernel
theorem gdX12_lay_28 : decode cX12_lay 28 = .ok (.ifCond .ne 9, 3) := by decide +kernel
theorem gdX12_lay_37 : decode cX12_lay 37 = .ok (.aload_n 0, 1) := by decide +kernel
theorem gdX12_lay_38 : decode cX12_lay 38 = .ok (.aload_n 0, 1) := by decide +kernel
theorem gdX12_lay_39 : decode cX12_lay 39 = .ok (.getfield 16, 3) := by decide +kernel
theorem gdX12_lay_42 : decode cX12_lay 42 = .ok (.bipush 40, 2) := by decide +kernel
theorem gdX12_lay_44 : decode cX12_lay 44 = .ok (.iload_n 1, 1) := by decide +kernel
theorem gdX12_lay_45 : decode cX12_lay 45 = .ok (.imul, 1) := by decide +kernel
theorem gdX12_lay_46 : decode cX12_lay 46 = .ok (.iload_n 2, 1) := by decide +kernel
theorem gdX12_lay_47 : decode cX12_lay 47 = .ok (.iadd, 1) := by decide +kernel
theorem gdX12_lay_48 : decode cX12_lay 48 = .ok (.iaload, 1) := by decide +kernel
theorem gdX12_lay_49 : decode cX12_lay 49 = .ok (.putfield 205, 3) := by decide +kernel
theorem gdX12_lay_52 : decode cX12_lay 52 = .ok (.aload_n 0, 1) := by decide +kernel
theorem gdX12_lay_53 : decode cX12_lay 53 = .ok (.getfield 16, 3) := by decide +kernel
theorem gdX12_lay_56 : decode cX12_lay 56 = .ok (.bipush 40, 2) := by decide +kernel
theorem gdX12_lay_58 : decode cX12_lay 58 = .ok (.iload_n 1, 1) := by decide +kernel
theorem gdX12_lay_59 : decode cX12_lay 59 = .ok (.imul, 1) := by decide +kernel
theorem gdX12_lay_60 : decode cX12_lay 60 = .ok (.iload_n 2, 1) := by decide +kernel
theorem gdX12_lay_61 : decode cX12_lay 61 = .ok (.iadd, 1) := by decide +kernel
theorem gdX12_lay_62 : decode cX12_lay 62 = .ok (.iload_n 3, 1) := by decide +kernel
theorem gdX12_lay_63 : decode cX12_lay 63 = .ok (.iastore, 1) := by decide +kernel
theorem gdX12_lay_64 : decode cX12_lay 64 = .ok (.iconst 1, 1) := by decide +kernel
theorem gdX12_lay_65 : decode cX12_lay 65 = .ok (.ireturn, 1) := by decide +kernel
theorem gdX12_lay_31 : decode cX12_lay 31 = .ok (.aload_n 0, 1) := by decide +kernel
theorem gdX12_lay_32 : decode cX12_lay 32 = .ok (.iconst 2, 1) := by decide +kernel
theorem gdX12_lay_33 : decode cX12_lay 33 = .ok (.invokevirtual 216, 3) := by decide +kernel
theorem gdX12_lay_36 : decode cX12_lay 36 = .ok (.ireturn, 1) := by decide +kernel
theorem gdX12_lay_12 : decode cX12_lay 12 = .ok (.iload 4, 2) := by decide +kernel
theorem gdX12_lay_14 : decode cX12_lay 14 = .ok (.ireturn, 1) := by decide +kernel
theorem gdX12_costOf_42 : decode cX12_costOf 42 = .ok (.iadd, 1) := by decide +kernel
theorem gdX12_costOf_43 : decode cX12_costOf 43 = .ok (.ireturn, 1) := by decide +kernel
theorem gdX12_costOf_0 : decode cX12_costOf 0 = .ok (.aload_n 0, 1) := by decide +kernel
theorem gdX12_costOf_1 : decode cX12_costOf 1 = .ok (.iload_n 1, 1) := by decide +kernel
theorem gdX12_costOf_2 : decode cX12_costOf 2 = .ok (.invokevirtual 260, 3) := by decide +kernel
theorem gdX12_costOf_5 : decode cX12_costOf 5 = .ok (.istore_n 3, 1) := by decide +kernel
theorem gdX12_costOf_6 : decode cX12_costOf 6 = .ok (.aload_n 0, 1) := by decide +kernel
theorem gdX12_costOf_7 : decode cX12_costOf 7 = .ok (.getfield 16, 3) := by decide +kernel
theorem gdX12_costOf_10 : decode cX12_costOf 10 = .ok (.bipush 40, 2) := by decide +kernel
theorem gdX12_costOf_12 : decode cX12_costOf 12 = .ok (.iload_n 2, 1) := by decide +kernel
theorem gdX12_costOf_13 : decode cX12_costOf 13 = .ok (.imul, 1) := by decide +kernel
theorem gdX12_costOf_14 : decode cX12_costOf 14 = .ok (.aload_n 0, 1) := by decide +kernel
theorem gdX12_costOf_15 : decode cX12_costOf 15 = .ok (.getfield 40, 3) := by decide +kernel
theorem gdX12_costOf_18 : decode cX12_costOf 18 = .ok (.iload_n 1, 1) := by decide +kernel
theorem gdX12_costOf_19 : decode cX12_costOf 19 = .ok (.iaload, 1) := by decide +kernel
theorem gdX12_costOf_20 : decode cX12_costOf 20 = .ok (.iadd, 1) := by decide +kernel
theorem gdX12_costOf_21 : decode cX12_costOf 21 = .ok (.iaload, 1) := by decide +kernel
theorem gdX12_costOf_22 : decode cX12_costOf 22 = .ok (.iload_n 3, 1) := by decide +kernel
theorem gdX12_costOf_23 : decode cX12_costOf 23 = .ok (.ifCond .ge 7, 3) := by decide +kernel
theorem gdX12_costOf_30 : decode cX12_costOf 30 = .ok (.aload_n 0, 1) := by decide +kernel
theorem gdX12_costOf_31 : decode cX12_costOf 31 = .ok (.iload_n 3, 1) := by decide +kernel
theorem gdX12_costOf_32 : decode cX12_costOf 32 = .ok (.aload_n 0, 1) := by decide +kernel
theorem gdX12_costOf_33 : decode cX12_costOf 33 = .ok (.getfield 229, 3) := by decide +kernel
theorem gdX12_costOf_36 : decode cX12_costOf 36 = .ok (.invokevirtual 277, 3) := by decide +kernel
theorem gdX12_costOf_39 : decode cX12_costOf 39 = .ok (.bipush 100, 2) := by decide +kernel
theorem gdX12_costOf_41 : decode cX12_costOf 41 = .ok (.idiv, 1) := by decide +kernel
theorem gdX12_costOf_26 : decode cX12_costOf 26 = .ok (.iconst 0, 1) := by decide +kernel
theorem gdX12_costOf_27 : decode cX12_costOf 27 = .ok (.goto 15, 3) := by decide +kernel
theorem gdX12_slope_24 : decode cX12_slope 24 = .ok (.ireturn, 1) := by decide +kernel
theorem gdX12_slope_0 : decode cX12_slope 0 = .ok (.aload_n 0, 1) := by decide +kernel
theorem gdX12_slope_1 : decode cX12_slope 1 = .ok (.getfield 43, 3) := by decide +kernel
theorem gdX12_slope_4 : decode cX12_slope 4 = .ok (.iload_n 1, 1) := by decide +kernel
theorem gdX12_slope_5 : decode cX12_slope 5 = .ok (.iaload, 1) := by decide +kernel
theorem gdX12_slope_6 : decode cX12_slope 6 = .ok (.aload_n 0, 1) := by decide +kernel
theorem gdX12_slope_7 : decode cX12_slope 7 = .ok (.getfield 43, 3) := by decide +kernel
theorem gdX12_slope_10 : decode cX12_slope 10 = .ok (.iload_n 2, 1) := by decide +kernel
theorem gdX12_slope_11 : decode cX12_slope 11 = .ok (.iaload, 1) := by decide +kernel
theorem gdX12_slope_12 : decode cX12_slope 12 = .ok (.isub, 1) := by decide +kernel
theorem gdX12_slope_13 : decode cX12_slope 13 = .ok (.istore_n 3, 1) := by decide +kernel
theorem gdX12_slope_14 : decode cX12_slope 14 = .ok (.iload_n 3, 1) := by decide +kernel
theorem gdX12_slope_15 : decode cX12_slope 15 = .ok (.ifCond .ge 8, 3) := by decide +kernel
theorem gdX12_slope_23 : decode cX12_slope 23 = .ok (.iload_n 3, 1) := by decide +kernel
theorem gdX12_slope_18 : decode cX12_slope 18 = .ok (.iload_n 3, 1) := by decide +kernel
theorem gdX12_slope_19 : decode cX12_slope 19 = .ok (.ineg, 1) := by decide +kernel
theorem gdX12_slope_20 : decode cX12_slope 20 = .ok (.goto 4, 3) := by decide +kernel
theorem gdX12_leads_39 : decode cX12_leads 39 = .ok (.ireturn, 1) := by decide +kernel
theorem gdX12_leads_38 : decode cX12_leads 38 = .ok (.iconst 0, 1) := by decide +kernel
theorem gdX12_leads_0 : decode cX12_leads 0 = .ok (.iload_n 2, 1) := by decide +kernel
theorem gdX12_leads_1 : decode cX12_leads 1 = .ok (.ifCond .lt 37, 3) := by decide +kernel
theorem gdX12_leads_4 : decode cX12_leads 4 = .ok (.aload_n 0, 1) := by decide +kernel
theorem gdX12_leads_5 : decode cX12_leads 5 = .ok (.getfield 40, 3) := by decide +kernel
theorem gdX12_leads_8 : decode cX12_leads 8 = .ok (.iload_n 1, 1) := by decide +kernel
theorem gdX12_leads_9 : decode cX12_leads 9 = .ok (.iaload, 1) := by decide +kernel
theorem gdX12_leads_10 : decode cX12_leads 10 = .ok (.iconst 4, 1) := by decide +kernel
theorem gdX12_leads_11 : decode cX12_leads 11 = .ok (.if_icmp .eq 27, 3) := by decide +kernel
theorem gdX12_leads_14 : decode cX12_leads 14 = .ok (.aload_n 0, 1) := by decide +kernel
theorem gdX12_leads_15 : decode cX12_leads 15 = .ok (.getfield 40, 3) := by decide +kernel
theorem gdX12_leads_18 : decode cX12_leads 18 = .ok (.iload_n 2, 1) := by decide +kernel
theorem gdX12_leads_19 : decode cX12_leads 19 = .ok (.iaload, 1) := by decide +kernel
theorem gdX12_leads_20 : decode cX12_leads 20 = .ok (.iconst 4, 1) := by decide +kernel
theorem gdX12_leads_21 : decode cX12_leads 21 = .ok (.if_icmp .eq 17, 3) := by decide +kernel
theorem gdX12_leads_24 : decode cX12_leads 24 = .ok (.aload_n 0, 1) := by decide +kernel
theorem gdX12_leads_25 : decode cX12_leads 25 = .ok (.iload_n 1, 1) := by decide +kernel
theorem gdX12_leads_26 : decode cX12_leads 26 = .ok (.iload_n 2, 1) := by decide +kernel
theorem gdX12_leads_27 : decode cX12_leads 27 = .ok (.invokevirtual 302, 3) := by decide +kernel
theorem gdX12_leads_30 : decode cX12_leads 30 = .ok (.iload_n 3, 1) := by decide +kernel
theorem gdX12_leads_31 : decode cX12_leads 31 = .ok (.if_icmp .gt 7, 3) := by decide +kernel
theorem gdX12_leads_34 : decode cX12_leads 34 = .ok (.iconst 1, 1) := by decide +kernel
theorem gdX12_leads_35 : decode cX12_leads 35 = .ok (.goto 4, 3) := by decide +kernel
theorem gdX12_goOn_33 : decode cX12_goOn 33 = .ok (.iadd, 1) := by decide +kernel
theorem gdX12_goOn_34 : decode cX12_goOn 34 = .ok (.aload_n 0, 1) := by decide +kernel
theorem gdX12_goOn_35 : decode cX12_goOn 35 = .ok (.getfield 123, 3) := by decide +kernel
theorem gdX12_goOn_38 : decode cX12_goOn 38 = .ok (.iconst 5, 1) := by decide +kernel
theorem gdX12_goOn_39 : decode cX12_goOn 39 = .ok (.iload 4, 2) := by decide +kernel
theorem gdX12_goOn_41 : decode cX12_goOn 41 = .ok (.imul, 1) := by decide +kernel
theorem gdX12_goOn_42 : decode cX12_goOn 42 = .ok (.iload_n 3, 1) := by decide +kernel
theorem gdX12_goOn_43 : decode cX12_goOn 43 = .ok (.iadd, 1) := by decide +kernel
theorem gdX12_goOn_44 : decode cX12_goOn 44 = .ok (.iaload, 1) := by decide +kernel
theorem gdX12_goOn_45 : decode cX12_goOn 45 = .ok (.iadd, 1) := by decide +kernel
theorem gdX12_goOn_46 : decode cX12_goOn 46 = .ok (.ireturn, 1) := by decide +kernel
theorem gdX12_goOn_32 : decode cX12_goOn 32 = .ok (.iconst 0, 1) := by decide +kernel
theorem gdX12_goOn_0 : decode cX12_goOn 0 = .ok (.bipush 10, 2) := by decide +kernel
theorem gdX12_goOn_2 : decode cX12_goOn 2 = .ok (.aload_n 0, 1) := by decide +kernel
theorem gdX12_goOn_3 : decode cX12_goOn 3 = .ok (.iload_n 1, 1) := by decide +kernel
theorem gdX12_goOn_4 : decode cX12_goOn 4 = .ok (.iload 4, 2) := by decide +kernel
theorem gdX12_goOn_6 : decode cX12_goOn 6 = .ok (.invokevirtual 302, 3) := by decide +kernel
theorem gdX12_goOn_9 : decode cX12_goOn 9 = .ok (.imul, 1) := by decide +kernel
theorem gdX12_goOn_10 : decode cX12_goOn 10 = .ok (.aload_n 0, 1) := by decide +kernel
theorem gdX12_goOn_11 : decode cX12_goOn 11 = .ok (.getfield 126, 3) := by decide +kernel
theorem gdX12_goOn_14 : decode cX12_goOn 14 = .ok (.iload 4, 2) := by decide +kernel
theorem gdX12_goOn_16 : decode cX12_goOn 16 = .ok (.iaload, 1) := by decide +kernel
theorem gdX12_goOn_17 : decode cX12_goOn 17 = .ok (.iadd, 1) := by decide +kernel
theorem gdX12_goOn_18 : decode cX12_goOn 18 = .ok (.iload_n 2, 1) := by decide +kernel
theorem gdX12_goOn_19 : decode cX12_goOn 19 = .ok (.iconst 4, 1) := by decide +kernel
theorem gdX12_goOn_20 : decode cX12_goOn 20 = .ok (.if_icmp .ge 12, 3) := by decide +kernel
theorem gdX12_goOn_23 : decode cX12_goOn 23 = .ok (.iload_n 2, 1) := by decide +kernel
theorem gdX12_goOn_24 : decode cX12_goOn 24 = .ok (.iload_n 3, 1) := by decide +kernel
theorem gdX12_goOn_25 : decode cX12_goOn 25 = .ok (.if_icmp .eq 7, 3) := by decide +kernel
theorem gdX12_goOn_28 : decode cX12_goOn 28 = .ok (.iconst 5, 1) := by decide +kernel
theorem gdX12_goOn_29 : decode cX12_goOn 29 = .ok (.goto 4, 3) := by decide +kernel
theorem gdX12_setLeft_224 : decode cX12_setLeft 224 = .ok (.return_, 1) := by decide +kernel
theorem gdX12_setLeft_221 : decode cX12_setLeft 221 = .ok (.goto (-184), 3) := by decide +kernel
theorem gdX12_setLeft_215 : decode cX12_setLeft 215 = .ok (.iinc 4 1, 3) := by decide +kernel
theorem gdX12_setLeft_218 : decode cX12_setLeft 218 = .ok (.goto (-172), 3) := by decide +kernel
theorem gdX12_setLeft_209 : decode cX12_setLeft 209 = .ok (.iinc 5 1, 3) := by decide +kernel
theorem gdX12_setLeft_212 : decode cX12_setLeft 212 = .ok (.goto (-156), 3) := by decide +kernel
theorem gdX12_setLeft_202 : decode cX12_setLeft 202 = .ok (.iastore, 1) := by decide +kernel
theorem gdX12_setLeft_203 : decode cX12_setLeft 203 = .ok (.iinc 7 1, 3) := by decide +kernel
theorem gdX12_setLeft_206 : decode cX12_setLeft 206 = .ok (.goto (-96), 3) := by decide +kernel
theorem gdX12_setLeft_156 : decode cX12_setLeft 156 = .ok (.istore_n 3, 1) := by decide +kernel
theorem gdX12_setLeft_157 : decode cX12_setLeft 157 = .ok (.aload_n 0, 1) := by decide +kernel
theorem gdX12_setLeft_158 : decode cX12_setLeft 158 = .ok (.getfield 123, 3) := by decide +kernel
theorem gdX12_setLeft_161 : decode cX12_setLeft 161 = .ok (.iconst 5, 1) := by decide +kernel
theorem gdX12_setLeft_162 : decode cX12_setLeft 162 = .ok (.iload 4, 2) := by decide +kernel
theorem gdX12_setLeft_164 : decode cX12_setLeft 164 = .ok (.imul, 1) := by decide +kernel
theorem gdX12_setLeft_165 : decode cX12_setLeft 165 = .ok (.iload 7, 2) := by decide +kernel
theorem gdX12_setLeft_167 : decode cX12_setLeft 167 = .ok (.iadd, 1) := by decide +kernel
theorem gdX12_setLeft_168 : decode cX12_setLeft 168 = .ok (.iload 8, 2) := by decide +kernel
theorem gdX12_setLeft_170 : decode cX12_setLeft 170 = .ok (.aload_n 0, 1) := by decide +kernel
theorem gdX12_setLeft_171 : decode cX12_setLeft 171 = .ok (.getfield 123, 3) := by decide +kernel
theorem gdX12_setLeft_174 : decode cX12_setLeft 174 = .ok (.iconst 5, 1) := by decide +kernel
theorem gdX12_setLeft_175 : decode cX12_setLeft 175 = .ok (.iload 4, 2) := by decide +kernel
theorem gdX12_setLeft_177 : decode cX12_setLeft 177 = .ok (.imul, 1) := by decide +kernel
theorem gdX12_setLeft_178 : decode cX12_setLeft 178 = .ok (.iload 7, 2) := by decide +kernel
theorem gdX12_setLeft_180 : decode cX12_setLeft 180 = .ok (.iadd, 1) := by decide +kernel
theorem gdX12_setLeft_181 : decode cX12_setLeft 181 = .ok (.iaload, 1) := by decide +kernel
theorem gdX12_setLeft_182 : decode cX12_setLeft 182 = .ok (.if_icmp .ge 8, 3) := by decide +kernel
theorem gdX12_setLeft_190 : decode cX12_setLeft 190 = .ok (.aload_n 0, 1) := by decide +kernel
theorem gdX12_setLeft_191 : decode cX12_setLeft 191 = .ok (.getfield 123, 3) := by decide +kernel
theorem gdX12_setLeft_194 : decode cX12_setLeft 194 = .ok (.iconst 5, 1) := by decide +kernel
theorem gdX12_setLeft_195 : decode cX12_setLeft 195 = .ok (.iload 4, 2) := by decide +kernel
theorem gdX12_setLeft_197 : decode cX12_setLeft 197 = .ok (.imul, 1) := by decide +kernel
theorem gdX12_setLeft_198 : decode cX12_setLeft 198 = .ok (.iload 7, 2) := by decide +kernel
theorem gdX12_setLeft_200 : decode cX12_setLeft 200 = .ok (.iadd, 1) := by decide +kernel
theorem gdX12_setLeft_201 : decode cX12_setLeft 201 = .ok (.iaload, 1) := by decide +kernel
theorem gdX12_setLeft_185 : decode cX12_setLeft 185 = .ok (.iload 8, 2) := by decide +kernel
theorem gdX12_setLeft_187 : decode cX12_setLeft 187 = .ok (.goto 15, 3) := by decide +kernel
theorem gdX12_setLeft_151 : decode cX12_setLeft 151 = .ok (.iconst 1, 1) := by decide +kernel
theorem gdX12_setLeft_152 : decode cX12_setLeft 152 = .ok (.goto 4, 3) := by decide +kernel
theorem gdX12_setLeft_110 : decode cX12_setLeft 110 = .ok (.iload 7, 2) := by decide +kernel
theorem gdX12_setLeft_112 : decode cX12_setLeft 112 = .ok (.iconst 5, 1) := by decide +kernel
theorem gdX12_setLeft_113 : decode cX12_setLeft 113 = .ok (.if_icmp .ge 96, 3) := by decide +kernel
theorem gdX12_setLeft_116 : decode cX12_setLeft 116 = .ok (.aload_n 0, 1) := by decide +kernel
theorem gdX12_setLeft_117 : decode cX12_setLeft 117 = .ok (.iload 4, 2) := by decide +kernel
theorem gdX12_setLeft_119 : decode cX12_setLeft 119 = .ok (.iload 7, 2) := by decide +kernel
theorem gdX12_setLeft_121 : decode cX12_setLeft 121 = .ok (.iload 5, 2) := by decide +kernel
theorem gdX12_setLeft_123 : decode cX12_setLeft 123 = .ok (.iload 6, 2) := by decide +kernel
theorem gdX12_setLeft_125 : decode cX12_setLeft 125 = .ok (.invokevirtual 321, 3) := by decide +kernel
theorem gdX12_setLeft_128 : decode cX12_setLeft 128 = .ok (.istore 8, 2) := by decide +kernel
theorem gdX12_setLeft_130 : decode cX12_setLeft 130 = .ok (.iload_n 3, 1) := by decide +kernel
theorem gdX12_setLeft_131 : decode cX12_setLeft 131 = .ok (.ifCond .ne 20, 3) := by decide +kernel
theorem gdX12_setLeft_134 : decode cX12_setLeft 134 = .ok (.iload 8, 2) := by decide +kernel
theorem gdX12_setLeft_136 : decode cX12_setLeft 136 = .ok (.aload_n 0, 1) := by decide +kernel
theorem gdX12_setLeft_137 : decode cX12_setLeft 137 = .ok (.getfield 123, 3) := by decide +kernel
theorem gdX12_setLeft_140 : decode cX12_setLeft 140 = .ok (.iconst 5, 1) := by decide +kernel
theorem gdX12_setLeft_141 : decode cX12_setLeft 141 = .ok (.iload 4, 2) := by decide +kernel
theorem gdX12_setLeft_143 : decode cX12_setLeft 143 = .ok (.imul, 1) := by decide +kernel
theorem gdX12_setLeft_144 : decode cX12_setLeft 144 = .ok (.iload 7, 2) := by decide +kernel
theorem gdX12_setLeft_146 : decode cX12_setLeft 146 = .ok (.iadd, 1) := by decide +kernel
theorem gdX12_setLeft_147 : decode cX12_setLeft 147 = .ok (.iaload, 1) := by decide +kernel
theorem gdX12_setLeft_148 : decode cX12_setLeft 148 = .ok (.if_icmp .ge 7, 3) := by decide +kernel
theorem gdX12_setLeft_155 : decode cX12_setLeft 155 = .ok (.iconst 0, 1) := by decide +kernel
theorem gdX12_setLeft_56 : decode cX12_setLeft 56 = .ok (.iload 5, 2) := by decide +kernel
theorem gdX12_setLeft_58 : decode cX12_setLeft 58 = .ok (.iconst 4, 1) := by decide +kernel
theorem gdX12_setLeft_59 : decode cX12_setLeft 59 = .ok (.if_icmp .ge 156, 3) := by decide +kernel
theorem gdX12_setLeft_62 : decode cX12_setLeft 62 = .ok (.iload 4, 2) := by decide +kernel
theorem gdX12_setLeft_64 : decode cX12_setLeft 64 = .ok (.iload 5, 2) := by decide +kernel
theorem gdX12_setLeft_66 : decode cX12_setLeft 66 = .ok (.invokestatic 315, 3) := by decide +kernel
theorem gdX12_setLeft_69 : decode cX12_setLeft 69 = .ok (.istore 6, 2) := by decide +kernel
theorem gdX12_setLeft_71 : decode cX12_setLeft 71 = .ok (.iload 4, 2) := by decide +kernel
theorem gdX12_setLeft_73 : decode cX12_setLeft 73 = .ok (.iload_n 1, 1) := by decide +kernel
theorem gdX12_setLeft_74 : decode cX12_setLeft 74 = .ok (.if_icmp .eq 135, 3) := by decide +kernel
theorem gdX12_setLeft_77 : decode cX12_setLeft 77 = .ok (.aload_n 0, 1) := by decide +kernel
theorem gdX12_setLeft_78 : decode cX12_setLeft 78 = .ok (.iload 4, 2) := by decide +kernel
theorem gdX12_setLeft_80 : decode cX12_setLeft 80 = .ok (.iload 6, 2) := by decide +kernel
theorem gdX12_setLeft_82 : decode cX12_setLeft 82 = .ok (.iload_n 2, 1) := by decide +kernel
theorem gdX12_setLeft_83 : decode cX12_setLeft 83 = .ok (.invokevirtual 318, 3) := by decide +kernel
theorem gdX12_setLeft_86 : decode cX12_setLeft 86 = .ok (.ifCond .eq 123, 3) := by decide +kernel
theorem gdX12_setLeft_89 : decode cX12_setLeft 89 = .ok (.aload_n 0, 1) := by decide +kernel
theorem gdX12_setLeft_90 : decode cX12_setLeft 90 = .ok (.getfield 123, 3) := by decide +kernel
theorem gdX12_setLeft_93 : decode cX12_setLeft 93 = .ok (.iconst 5, 1) := by decide +kernel
theorem gdX12_setLeft_94 : decode cX12_setLeft 94 = .ok (.iload 6, 2) := by decide +kernel
theorem gdX12_setLeft_96 : decode cX12_setLeft 96 = .ok (.imul, 1) := by decide +kernel
theorem gdX12_setLeft_97 : decode cX12_setLeft 97 = .ok (.iload 5, 2) := by decide +kernel
theorem gdX12_setLeft_99 : decode cX12_setLeft 99 = .ok (.iadd, 1) := by decide +kernel
theorem gdX12_setLeft_100 : decode cX12_setLeft 100 = .ok (.iaload, 1) := by decide +kernel
theorem gdX12_setLeft_101 : decode cX12_setLeft 101 = .ok (.ldc_w 314, 3) := by decide +kernel
theorem gdX12_setLeft_104 : decode cX12_setLeft 104 = .ok (.if_icmp .ge 105, 3) := by decide +kernel
theorem gdX12_setLeft_107 : decode cX12_setLeft 107 = .ok (.iconst 0, 1) := by decide +kernel
theorem gdX12_setLeft_108 : decode cX12_setLeft 108 = .ok (.istore 7, 2) := by decide +kernel
theorem gdX12_setLeft_46 : decode cX12_setLeft 46 = .ok (.iload 4, 2) := by decide +kernel
theorem gdX12_setLeft_48 : decode cX12_setLeft 48 = .ok (.bipush 64, 2) := by decide +kernel
theorem gdX12_setLeft_50 : decode cX12_setLeft 50 = .ok (.if_icmp .ge 171, 3) := by decide +kernel
theorem gdX12_setLeft_53 : decode cX12_setLeft 53 = .ok (.iconst 0, 1) := by decide +kernel
theorem gdX12_setLeft_54 : decode cX12_setLeft 54 = .ok (.istore 5, 2) := by decide +kernel
theorem gdX12_setLeft_37 : decode cX12_setLeft 37 = .ok (.iload_n 3, 1) := by decide +kernel
theorem gdX12_setLeft_38 : decode cX12_setLeft 38 = .ok (.ifCond .eq 186, 3) := by decide +kernel
theorem gdX12_setLeft_41 : decode cX12_setLeft 41 = .ok (.iconst 0, 1) := by decide +kernel
theorem gdX12_setLeft_42 : decode cX12_setLeft 42 = .ok (.istore_n 3, 1) := by decide +kernel
theorem gdX12_setLeft_43 : decode cX12_setLeft 43 = .ok (.iconst 0, 1) := by decide +kernel
theorem gdX12_setLeft_44 : decode cX12_setLeft 44 = .ok (.istore 4, 2) := by decide +kernel
theorem gdX12_setLeft_35 : decode cX12_setLeft 35 = .ok (.iconst 1, 1) := by decide +kernel
theorem gdX12_setLeft_36 : decode cX12_setLeft 36 = .ok (.istore_n 3, 1) := by decide +kernel
theorem gdX12_setLeft_28 : decode cX12_setLeft 28 = .ok (.iastore, 1) := by decide +kernel
theorem gdX12_setLeft_29 : decode cX12_setLeft 29 = .ok (.iinc 3 1, 3) := by decide +kernel
theorem gdX12_setLeft_32 : decode cX12_setLeft 32 = .ok (.goto (-30), 3) := by decide +kernel
theorem gdX12_setLeft_2 : decode cX12_setLeft 2 = .ok (.iload_n 3, 1) := by decide +kernel
theorem gdX12_setLeft_3 : decode cX12_setLeft 3 = .ok (.sipush 320, 3) := by decide +kernel
theorem gdX12_setLeft_6 : decode cX12_setLeft 6 = .ok (.if_icmp .ge 29, 3) := by decide +kernel
theorem gdX12_setLeft_9 : decode cX12_setLeft 9 = .ok (.aload_n 0, 1) := by decide +kernel
theorem gdX12_setLeft_10 : decode cX12_setLeft 10 = .ok (.getfield 123, 3) := by decide +kernel
theorem gdX12_setLeft_13 : decode cX12_setLeft 13 = .ok (.iload_n 3, 1) := by decide +kernel
theorem gdX12_setLeft_14 : decode cX12_setLeft 14 = .ok (.iload_n 3, 1) := by decide +kernel
theorem gdX12_setLeft_15 : decode cX12_setLeft 15 = .ok (.iconst 5, 1) := by decide +kernel
theorem gdX12_setLeft_16 : decode cX12_setLeft 16 = .ok (.idiv, 1) := by decide +kernel
theorem gdX12_setLeft_17 : decode cX12_setLeft 17 = .ok (.iload_n 1, 1) := by decide +kernel
theorem gdX12_setLeft_18 : decode cX12_setLeft 18 = .ok (.if_icmp .ne 7, 3) := by decide +kernel
theorem gdX12_setLeft_25 : decode cX12_setLeft 25 = .ok (.ldc_w 314, 3) := by decide +kernel
theorem gdX12_setLeft_21 : decode cX12_setLeft 21 = .ok (.iconst 0, 1) := by decide +kernel
theorem gdX12_setLeft_22 : decode cX12_setLeft 22 = .ok (.goto 6, 3) := by decide +kernel
theorem gdX12_setLeft_0 : decode cX12_setLeft 0 = .ok (.iconst 0, 1) := by decide +kernel
theorem gdX12_setLeft_1 : decode cX12_setLeft 1 = .ok (.istore_n 3, 1) := by decide +kernel
theorem gdX12_line_26 : decode cX12_line 26 = .ok (.iconst (-1), 1) := by decide +kernel
theorem gdX12_line_27 : decode cX12_line 27 = .ok (.ireturn, 1) := by decide +kernel
theorem gdX12_line_102 : decode cX12_line 102 = .ok (.aload_n 0, 1) := by decide +kernel
theorem gdX12_line_103 : decode cX12_line 103 = .ok (.iconst 3, 1) := by decide +kernel
theorem gdX12_line_104 : decode cX12_line 104 = .ok (.invokevirtual 216, 3) := by decide +kernel
theorem gdX12_line_107 : decode cX12_line 107 = .ok (.ireturn, 1) := by decide +kernel
theorem gdX12_line_134 : decode cX12_line 134 = .ok (.bipush (-4), 2) := by decide +kernel
theorem gdX12_line_136 : decode cX12_line 136 = .ok (.ireturn, 1) := by decide +kernel
theorem gdX12_line_426 : decode cX12_line 426 = .ok (.iload 5, 2) := by decide +kernel
theorem gdX12_line_428 : decode cX12_line 428 = .ok (.ireturn, 1) := by decide +kernel
theorem gdX12_line_384 : decode cX12_line 384 = .ok (.iload 8, 2) := by decide +kernel
theorem gdX12_line_386 : decode cX12_line 386 = .ok (.istore 6, 2) := by decide +kernel
theorem gdX12_line_388 : decode cX12_line 388 = .ok (.iload 9, 2) := by decide +kernel
theorem gdX12_line_390 : decode cX12_line 390 = .ok (.istore 7, 2) := by decide +kernel
theorem gdX12_line_392 : decode cX12_line 392 = .ok (.aload_n 0, 1) := by decide +kernel
theorem gdX12_line_393 : decode cX12_line 393 = .ok (.getfield 101, 3) := by decide +kernel
theorem gdX12_line_396 : decode cX12_line 396 = .ok (.bipush 64, 2) := by decide +kernel
theorem gdX12_line_398 : decode cX12_line 398 = .ok (.iload 5, 2) := by decide +kernel
theorem gdX12_line_400 : decode cX12_line 400 = .ok (.imul, 1) := by decide +kernel
theorem gdX12_line_401 : decode cX12_line 401 = .ok (.aload_n 0, 1) := by decide +kernel
theorem gdX12_line_402 : decode cX12_line 402 = .ok (.getfield 98, 3) := by decide +kernel
theorem gdX12_line_405 : decode cX12_line 405 = .ok (.iload 5, 2) := by decide +kernel
theorem gdX12_line_407 : decode cX12_line 407 = .ok (.iaload, 1) := by decide +kernel
theorem gdX12_line_408 : decode cX12_line 408 = .ok (.iadd, 1) := by decide +kernel
theorem gdX12_line_409 : decode cX12_line 409 = .ok (.iload 6, 2) := by decide +kernel
theorem gdX12_line_411 : decode cX12_line 411 = .ok (.iastore, 1) := by decide +kernel
theorem gdX12_line_412 : decode cX12_line 412 = .ok (.aload_n 0, 1) := by decide +kernel
theorem gdX12_line_413 : decode cX12_line 413 = .ok (.getfield 98, 3) := by decide +kernel
theorem gdX12_line_416 : decode cX12_line 416 = .ok (.iload 5, 2) := by decide +kernel
theorem gdX12_line_418 : decode cX12_line 418 = .ok (.dup2, 1) := by decide +kernel
theorem gdX12_line_419 : decode cX12_line 419 = .ok (.iaload, 1) := by decide +kernel
theorem gdX12_line_420 : decode cX12_line 420 = .ok (.iconst 1, 1) := by decide +kernel
theorem gdX12_line_421 : decode cX12_line 421 = .ok (.iadd, 1) := by decide +kernel
theorem gdX12_line_422 : decode cX12_line 422 = .ok (.iastore, 1) := by decide +kernel
theorem gdX12_line_423 : decode cX12_line 423 = .ok (.goto (-147), 3) := by decide +kernel
theorem gdX12_line_378 : decode cX12_line 378 = .ok (.iinc 10 1, 3) := by decide +kernel
theorem gdX12_line_381 : decode cX12_line 381 = .ok (.goto (-89), 3) := by decide +kernel
theorem gdX12_line_292 : decode cX12_line 292 = .ok (.iload 10, 2) := by decide +kernel
theorem gdX12_line_294 : decode cX12_line 294 = .ok (.iconst 4, 1) := by decide +kernel
theorem gdX12_line_295 : decode cX12_line 295 = .ok (.if_icmp .ge 89, 3) := by decide +kernel
theorem gdX12_line_298 : decode cX12_line 298 = .ok (.iload 8, 2) := by decide +kernel
theorem gdX12_line_300 : decode cX12_line 300 = .ok (.ifCond .ge 84, 3) := by decide +kernel
theorem gdX12_line_303 : decode cX12_line 303 = .ok (.iload 6, 2) := by decide +kernel
theorem gdX12_line_305 : decode cX12_line 305 = .ok (.iload 10, 2) := by decide +kernel
theorem gdX12_line_307 : decode cX12_line 307 = .ok (.invokestatic 315, 3) := by decide +kernel
theorem gdX12_line_310 : decode cX12_line 310 = .ok (.istore 11, 2) := by decide +kernel
theorem gdX12_line_312 : decode cX12_line 312 = .ok (.aload_n 0, 1) := by decide +kernel
theorem gdX12_line_313 : decode cX12_line 313 = .ok (.iload 6, 2) := by decide +kernel
theorem gdX12_line_315 : decode cX12_line 315 = .ok (.iload 11, 2) := by decide +kernel
theorem gdX12_line_317 : decode cX12_line 317 = .ok (.iload 4, 2) := by decide +kernel
theorem gdX12_line_319 : decode cX12_line 319 = .ok (.invokevirtual 318, 3) := by decide +kernel
theorem gdX12_line_322 : decode cX12_line 322 = .ok (.ifCond .eq 56, 3) := by decide +kernel
theorem gdX12_line_325 : decode cX12_line 325 = .ok (.aload_n 0, 1) := by decide +kernel
theorem gdX12_line_326 : decode cX12_line 326 = .ok (.getfield 123, 3) := by decide +kernel
theorem gdX12_line_329 : decode cX12_line 329 = .ok (.iconst 5, 1) := by decide +kernel
theorem gdX12_line_330 : decode cX12_line 330 = .ok (.iload 11, 2) := by decide +kernel
theorem gdX12_line_332 : decode cX12_line 332 = .ok (.imul, 1) := by decide +kernel
theorem gdX12_line_333 : decode cX12_line 333 = .ok (.iload 10, 2) := by decide +kernel
theorem gdX12_line_335 : decode cX12_line 335 = .ok (.iadd, 1) := by decide +kernel
theorem gdX12_line_336 : decode cX12_line 336 = .ok (.iaload, 1) := by decide +kernel
theorem gdX12_line_337 : decode cX12_line 337 = .ok (.ldc_w 314, 3) := by decide +kernel
theorem gdX12_line_340 : decode cX12_line 340 = .ok (.if_icmp .ge 38, 3) := by decide +kernel
theorem gdX12_line_343 : decode cX12_line 343 = .ok (.aload_n 0, 1) := by decide +kernel
theorem gdX12_line_344 : decode cX12_line 344 = .ok (.iload 6, 2) := by decide +kernel
theorem gdX12_line_346 : decode cX12_line 346 = .ok (.iload 7, 2) := by decide +kernel
theorem gdX12_line_348 : decode cX12_line 348 = .ok (.iload 10, 2) := by decide +kernel
theorem gdX12_line_350 : decode cX12_line 350 = .ok (.iload 11, 2) := by decide +kernel
theorem gdX12_line_352 : decode cX12_line 352 = .ok (.invokevirtual 321, 3) := by decide +kernel
theorem gdX12_line_355 : decode cX12_line 355 = .ok (.aload_n 0, 1) := by decide +kernel
theorem gdX12_line_356 : decode cX12_line 356 = .ok (.getfield 123, 3) := by decide +kernel
theorem gdX12_line_359 : decode cX12_line 359 = .ok (.iconst 5, 1) := by decide +kernel
theorem gdX12_line_360 : decode cX12_line 360 = .ok (.iload 6, 2) := by decide +kernel
theorem gdX12_line_362 : decode cX12_line 362 = .ok (.imul, 1) := by decide +kernel
theorem gdX12_line_363 : decode cX12_line 363 = .ok (.iload 7, 2) := by decide +kernel
theorem gdX12_line_365 : decode cX12_line 365 = .ok (.iadd, 1) := by decide +kernel
theorem gdX12_line_366 : decode cX12_line 366 = .ok (.iaload, 1) := by decide +kernel
theorem gdX12_line_367 : decode cX12_line 367 = .ok (.if_icmp .ne 11, 3) := by decide +kernel
theorem gdX12_line_370 : decode cX12_line 370 = .ok (.iload 11, 2) := by decide +kernel
theorem gdX12_line_372 : decode cX12_line 372 = .ok (.istore 8, 2) := by decide +kernel
theorem gdX12_line_374 : decode cX12_line 374 = .ok (.iload 10, 2) := by decide +kernel
theorem gdX12_line_376 : decode cX12_line 376 = .ok (.istore 9, 2) := by decide +kernel
theorem gdX12_line_276 : decode cX12_line 276 = .ok (.iload 6, 2) := by decide +kernel
theorem gdX12_line_278 : decode cX12_line 278 = .ok (.iload_n 2, 1) := by decide +kernel
theorem gdX12_line_279 : decode cX12_line 279 = .ok (.if_icmp .eq 147, 3) := by decide +kernel
theorem gdX12_line_282 : decode cX12_line 282 = .ok (.bipush (-9), 2) := by decide +kernel
theorem gdX12_line_284 : decode cX12_line 284 = .ok (.istore 8, 2) := by decide +kernel
theorem gdX12_line_286 : decode cX12_line 286 = .ok (.iconst 0, 1) := by decide +kernel
theorem gdX12_line_287 : decode cX12_line 287 = .ok (.istore 9, 2) := by decide +kernel
theorem gdX12_line_289 : decode cX12_line 289 = .ok (.iconst 0, 1) := by decide +kernel
theorem gdX12_line_290 : decode cX12_line 290 = .ok (.istore 10, 2) := by decide +kernel
theorem gdX12_line_182 : decode cX12_line 182 = .ok (.aload_n 0, 1) := by decide +kernel
theorem gdX12_line_183 : decode cX12_line 183 = .ok (.iconst 0, 1) := by decide +kernel
theorem gdX12_line_184 : decode cX12_line 184 = .ok (.invokevirtual 328, 3) := by decide +kernel
theorem gdX12_line_187 : decode cX12_line 187 = .ok (.istore 4, 2) := by decide +kernel
theorem gdX12_line_189 : decode cX12_line 189 = .ok (.aload_n 0, 1) := by decide +kernel
theorem gdX12_line_190 : decode cX12_line 190 = .ok (.iload_n 2, 1) := by decide +kernel
theorem gdX12_line_191 : decode cX12_line 191 = .ok (.iload 4, 2) := by decide +kernel
theorem gdX12_line_193 : decode cX12_line 193 = .ok (.invokevirtual 331, 3) := by decide +kernel
theorem gdX12_line_196 : decode cX12_line 196 = .ok (.aload_n 0, 1) := by decide +kernel
theorem gdX12_line_197 : decode cX12_line 197 = .ok (.getfield 123, 3) := by decide +kernel
theorem gdX12_line_200 : decode cX12_line 200 = .ok (.iconst 5, 1) := by decide +kernel
theorem gdX12_line_201 : decode cX12_line 201 = .ok (.iload_n 1, 1) := by decide +kernel
theorem gdX12_line_202 : decode cX12_line 202 = .ok (.imul, 1) := by decide +kernel
theorem gdX12_line_203 : decode cX12_line 203 = .ok (.iconst 4, 1) := by decide +kernel
theorem gdX12_line_204 : decode cX12_line 204 = .ok (.iadd, 1) := by decide +kernel
theorem gdX12_line_205 : decode cX12_line 205 = .ok (.iaload, 1) := by decide +kernel
theorem gdX12_line_206 : decode cX12_line 206 = .ok (.ldc_w 314, 3) := by decide +kernel
theorem gdX12_line_209 : decode cX12_line 209 = .ok (.if_icmp .ne 9, 3) := by decide +kernel
theorem gdX12_line_218 : decode cX12_line 218 = .ok (.aload_n 0, 1) := by decide +kernel
theorem gdX12_line_219 : decode cX12_line 219 = .ok (.iconst 1, 1) := by decide +kernel
theorem gdX12_line_220 : decode cX12_line 220 = .ok (.bipush (-9), 2) := by decide +kernel
theorem gdX12_line_222 : decode cX12_line 222 = .ok (.invokevirtual 334, 3) := by decide +kernel
theorem gdX12_line_225 : decode cX12_line 225 = .ok (.istore 5, 2) := by decide +kernel
theorem gdX12_line_227 : decode cX12_line 227 = .ok (.aload_n 0, 1) := by decide +kernel
theorem gdX12_line_228 : decode cX12_line 228 = .ok (.getfield 92, 3) := by decide +kernel
theorem gdX12_line_231 : decode cX12_line 231 = .ok (.iload 5, 2) := by decide +kernel
theorem gdX12_line_233 : decode cX12_line 233 = .ok (.aload_n 0, 1) := by decide +kernel
theorem gdX12_line_234 : decode cX12_line 234 = .ok (.getfield 126, 3) := by decide +kernel
theorem gdX12_line_237 : decode cX12_line 237 = .ok (.iload_n 1, 1) := by decide +kernel
theorem gdX12_line_238 : decode cX12_line 238 = .ok (.iaload, 1) := by decide +kernel
theorem gdX12_line_239 : decode cX12_line 239 = .ok (.aload_n 0, 1) := by decide +kernel
theorem gdX12_line_240 : decode cX12_line 240 = .ok (.getfield 123, 3) := by decide +kernel
theorem gdX12_line_243 : decode cX12_line 243 = .ok (.iconst 5, 1) := by decide +kernel
theorem gdX12_line_244 : decode cX12_line 244 = .ok (.iload_n 1, 1) := by decide +kernel
theorem gdX12_line_245 : decode cX12_line 245 = .ok (.imul, 1) := by decide +kernel
theorem gdX12_line_246 : decode cX12_line 246 = .ok (.iconst 4, 1) := by decide +kernel
theorem gdX12_line_247 : decode cX12_line 247 = .ok (.iadd, 1) := by decide +kernel
theorem gdX12_line_248 : decode cX12_line 248 = .ok (.iaload, 1) := by decide +kernel
theorem gdX12_line_249 : decode cX12_line 249 = .ok (.iadd, 1) := by decide +kernel
theorem gdX12_line_250 : decode cX12_line 250 = .ok (.iastore, 1) := by decide +kernel
theorem gdX12_line_251 : decode cX12_line 251 = .ok (.iload_n 1, 1) := by decide +kernel
theorem gdX12_line_252 : decode cX12_line 252 = .ok (.istore 6, 2) := by decide +kernel
theorem gdX12_line_254 : decode cX12_line 254 = .ok (.iconst 4, 1) := by decide +kernel
theorem gdX12_line_255 : decode cX12_line 255 = .ok (.istore 7, 2) := by decide +kernel
theorem gdX12_line_257 : decode cX12_line 257 = .ok (.aload_n 0, 1) := by decide +kernel
theorem gdX12_line_258 : decode cX12_line 258 = .ok (.getfield 101, 3) := by decide +kernel
theorem gdX12_line_261 : decode cX12_line 261 = .ok (.bipush 64, 2) := by decide +kernel
theorem gdX12_line_263 : decode cX12_line 263 = .ok (.iload 5, 2) := by decide +kernel
theorem gdX12_line_265 : decode cX12_line 265 = .ok (.imul, 1) := by decide +kernel
theorem gdX12_line_266 : decode cX12_line 266 = .ok (.iload_n 1, 1) := by decide +kernel
theorem gdX12_line_267 : decode cX12_line 267 = .ok (.iastore, 1) := by decide +kernel
theorem gdX12_line_268 : decode cX12_line 268 = .ok (.aload_n 0, 1) := by decide +kernel
theorem gdX12_line_269 : decode cX12_line 269 = .ok (.getfield 98, 3) := by decide +kernel
theorem gdX12_line_272 : decode cX12_line 272 = .ok (.iload 5, 2) := by decide +kernel
theorem gdX12_line_274 : decode cX12_line 274 = .ok (.iconst 1, 1) := by decide +kernel
theorem gdX12_line_275 : decode cX12_line 275 = .ok (.iastore, 1) := by decide +kernel
theorem gdX12_line_212 : decode cX12_line 212 = .ok (.aload_n 0, 1) := by decide +kernel
theorem gdX12_line_213 : decode cX12_line 213 = .ok (.iconst 1, 1) := by decide +kernel
theorem gdX12_line_214 : decode cX12_line 214 = .ok (.invokevirtual 216, 3) := by decide +kernel
theorem gdX12_line_217 : decode cX12_line 217 = .ok (.ireturn, 1) := by decide +kernel
theorem gdX12_line_175 : decode cX12_line 175 = .ok (.iastore, 1) := by decide +kernel
theorem gdX12_line_176 : decode cX12_line 176 = .ok (.iinc 4 1, 3) := by decide +kernel
theorem gdX12_line_179 : decode cX12_line 179 = .ok (.goto (-39), 3) := by decide +kernel
theorem gdX12_line_140 : decode cX12_line 140 = .ok (.iload 4, 2) := by decide +kernel
theorem gdX12_line_142 : decode cX12_line 142 = .ok (.bipush 64, 2) := by decide +kernel
theorem gdX12_line_144 : decode cX12_line 144 = .ok (.if_icmp .ge 38, 3) := by decide +kernel
theorem gdX12_line_147 : decode cX12_line 147 = .ok (.aload_n 0, 1) := by decide +kernel
theorem gdX12_line_148 : decode cX12_line 148 = .ok (.getfield 126, 3) := by decide +kernel
theorem gdX12_line_151 : decode cX12_line 151 = .ok (.iload 4, 2) := by decide +kernel
theorem gdX12_line_153 : decode cX12_line 153 = .ok (.aload_n 0, 1) := by decide +kernel
theorem gdX12_line_154 : decode cX12_line 154 = .ok (.getfield 40, 3) := by decide +kernel
theorem gdX12_line_157 : decode cX12_line 157 = .ok (.iload 4, 2) := by decide +kernel
theorem gdX12_line_159 : decode cX12_line 159 = .ok (.iaload, 1) := by decide +kernel
theorem gdX12_line_160 : decode cX12_line 160 = .ok (.iconst 4, 1) := by decide +kernel
theorem gdX12_line_161 : decode cX12_line 161 = .ok (.if_icmp .ne 7, 3) := by decide +kernel
theorem gdX12_line_168 : decode cX12_line 168 = .ok (.aload_n 0, 1) := by decide +kernel
theorem gdX12_line_169 : decode cX12_line 169 = .ok (.iload 4, 2) := by decide +kernel
theorem gdX12_line_171 : decode cX12_line 171 = .ok (.iload_n 3, 1) := by decide +kernel
theorem gdX12_line_172 : decode cX12_line 172 = .ok (.invokevirtual 325, 3) := by decide +kernel
theorem gdX12_line_164 : decode cX12_line 164 = .ok (.iconst 0, 1) := by decide +kernel
theorem gdX12_line_165 : decode cX12_line 165 = .ok (.goto 10, 3) := by decide +kernel
theorem gdX12_line_114 : decode cX12_line 114 = .ok (.aload_n 0, 1) := by decide +kernel
theorem gdX12_line_115 : decode cX12_line 115 = .ok (.getfield 40, 3) := by decide +kernel
theorem gdX12_line_118 : decode cX12_line 118 = .ok (.iload_n 1, 1) := by decide +kernel
theorem gdX12_line_119 : decode cX12_line 119 = .ok (.iaload, 1) := by decide +kernel
theorem gdX12_line_120 : decode cX12_line 120 = .ok (.iconst 4, 1) := by decide +kernel
theorem gdX12_line_121 : decode cX12_line 121 = .ok (.if_icmp .eq 13, 3) := by decide +kernel
theorem gdX12_line_124 : decode cX12_line 124 = .ok (.aload_n 0, 1) := by decide +kernel
theorem gdX12_line_125 : decode cX12_line 125 = .ok (.getfield 40, 3) := by decide +kernel
theorem gdX12_line_128 : decode cX12_line 128 = .ok (.iload_n 2, 1) := by decide +kernel
theorem gdX12_line_129 : decode cX12_line 129 = .ok (.iaload, 1) := by decide +kernel
theorem gdX12_line_130 : decode cX12_line 130 = .ok (.iconst 4, 1) := by decide +kernel
theorem gdX12_line_131 : decode cX12_line 131 = .ok (.if_icmp .ne 6, 3) := by decide +kernel
theorem gdX12_line_137 : decode cX12_line 137 = .ok (.iconst 0, 1) := by decide +kernel
theorem gdX12_line_138 : decode cX12_line 138 = .ok (.istore 4, 2) := by decide +kernel
theorem gdX12_line_74 : decode cX12_line 74 = .ok (.iload 4, 2) := by decide +kernel
theorem gdX12_line_76 : decode cX12_line 76 = .ok (.iconst 4, 1) := by decide +kernel
theorem gdX12_line_77 : decode cX12_line 77 = .ok (.if_icmp .ge 37, 3) := by decide +kernel
theorem gdX12_line_80 : decode cX12_line 80 = .ok (.aload_n 0, 1) := by decide +kernel
theorem gdX12_line_81 : decode cX12_line 81 = .ok (.getfield 16, 3) := by decide +kernel
theorem gdX12_line_84 : decode cX12_line 84 = .ok (.bipush 40, 2) := by decide +kernel
theorem gdX12_line_86 : decode cX12_line 86 = .ok (.iload_n 3, 1) := by decide +kernel
theorem gdX12_line_87 : decode cX12_line 87 = .ok (.imul, 1) := by decide +kernel
theorem gdX12_line_88 : decode cX12_line 88 = .ok (.iload 4, 2) := by decide +kernel
theorem gdX12_line_90 : decode cX12_line 90 = .ok (.iadd, 1) := by decide +kernel
theorem gdX12_line_91 : decode cX12_line 91 = .ok (.iaload, 1) := by decide +kernel
theorem gdX12_line_92 : decode cX12_line 92 = .ok (.iconst 0, 1) := by decide +kernel
theorem gdX12_line_93 : decode cX12_line 93 = .ok (.sipush 1000, 3) := by decide +kernel
theorem gdX12_line_96 : decode cX12_line 96 = .ok (.invokestatic 208, 3) := by decide +kernel
theorem gdX12_line_99 : decode cX12_line 99 = .ok (.ifCond .ne 9, 3) := by decide +kernel
theorem gdX12_line_108 : decode cX12_line 108 = .ok (.iinc 4 1, 3) := by decide +kernel
theorem gdX12_line_111 : decode cX12_line 111 = .ok (.goto (-37), 3) := by decide +kernel
theorem gdX12_line_0 : decode cX12_line 0 = .ok (.iload_n 1, 1) := by decide +kernel
theorem gdX12_line_1 : decode cX12_line 1 = .ok (.invokestatic 257, 3) := by decide +kernel
theorem gdX12_line_4 : decode cX12_line 4 = .ok (.ifCond .eq 22, 3) := by decide +kernel
theorem gdX12_line_7 : decode cX12_line 7 = .ok (.iload_n 2, 1) := by decide +kernel
theorem gdX12_line_8 : decode cX12_line 8 = .ok (.invokestatic 257, 3) := by decide +kernel
theorem gdX12_line_11 : decode cX12_line 11 = .ok (.ifCond .eq 15, 3) := by decide +kernel
theorem gdX12_line_14 : decode cX12_line 14 = .ok (.iload_n 1, 1) := by decide +kernel
theorem gdX12_line_15 : decode cX12_line 15 = .ok (.iload_n 2, 1) := by decide +kernel
theorem gdX12_line_16 : decode cX12_line 16 = .ok (.if_icmp .eq 10, 3) := by decide +kernel
theorem gdX12_line_19 : decode cX12_line 19 = .ok (.iload_n 3, 1) := by decide +kernel
theorem gdX12_line_20 : decode cX12_line 20 = .ok (.invokestatic 212, 3) := by decide +kernel
theorem gdX12_line_23 : decode cX12_line 23 = .ok (.ifCond .ne 5, 3) := by decide +kernel
theorem gdX12_line_28 : decode cX12_line 28 = .ok (.aload_n 0, 1) := by decide +kernel
theorem gdX12_line_29 : decode cX12_line 29 = .ok (.getfield 305, 3) := by decide +kernel
theorem gdX12_line_32 : decode cX12_line 32 = .ok (.bipush 24, 2) := by decide +kernel
theorem gdX12_line_34 : decode cX12_line 34 = .ok (.if_icmp .ne 6, 3) := by decide +kernel
theorem gdX12_line_40 : decode cX12_line 40 = .ok (.aload_n 0, 1) := by decide +kernel
theorem gdX12_line_41 : decode cX12_line 41 = .ok (.getfield 13, 3) := by decide +kernel
theorem gdX12_line_44 : decode cX12_line 44 = .ok (.iload_n 3, 1) := by decide +kernel
theorem gdX12_line_45 : decode cX12_line 45 = .ok (.iaload, 1) := by decide +kernel
theorem gdX12_line_46 : decode cX12_line 46 = .ok (.ifCond .ge 9, 3) := by decide +kernel
theorem gdX12_line_55 : decode cX12_line 55 = .ok (.aload_n 0, 1) := by decide +kernel
theorem gdX12_line_56 : decode cX12_line 56 = .ok (.getfield 13, 3) := by decide +kernel
theorem gdX12_line_59 : decode cX12_line 59 = .ok (.iload_n 3, 1) := by decide +kernel
theorem gdX12_line_60 : decode cX12_line 60 = .ok (.iaload, 1) := by decide +kernel
theorem gdX12_line_61 : decode cX12_line 61 = .ok (.iconst 4, 1) := by decide +kernel
theorem gdX12_line_62 : decode cX12_line 62 = .ok (.if_icmp .eq 9, 3) := by decide +kernel
theorem gdX12_line_71 : decode cX12_line 71 = .ok (.iconst 0, 1) := by decide +kernel
theorem gdX12_line_72 : decode cX12_line 72 = .ok (.istore 4, 2) := by decide +kernel
theorem gdX12_line_65 : decode cX12_line 65 = .ok (.aload_n 0, 1) := by decide +kernel
theorem gdX12_line_66 : decode cX12_line 66 = .ok (.iconst 5, 1) := by decide +kernel
theorem gdX12_line_67 : decode cX12_line 67 = .ok (.invokevirtual 216, 3) := by decide +kernel
theorem gdX12_line_70 : decode cX12_line 70 = .ok (.ireturn, 1) := by decide +kernel
theorem gdX12_line_49 : decode cX12_line 49 = .ok (.aload_n 0, 1) := by decide +kernel
theorem gdX12_line_50 : decode cX12_line 50 = .ok (.iconst 1, 1) := by decide +kernel
theorem gdX12_line_51 : decode cX12_line 51 = .ok (.invokevirtual 216, 3) := by decide +kernel
theorem gdX12_line_54 : decode cX12_line 54 = .ok (.ireturn, 1) := by decide +kernel
theorem gdX12_line_37 : decode cX12_line 37 = .ok (.bipush (-2), 2) := by decide +kernel
theorem gdX12_line_39 : decode cX12_line 39 = .ok (.ireturn, 1) := by decide +kernel
theorem gdX12_mark_18 : decode cX12_mark 18 = .ok (.iconst (-1), 1) := by decide +kernel
theorem gdX12_mark_19 : decode cX12_mark 19 = .ok (.ireturn, 1) := by decide +kernel
theorem gdX12_mark_65 : decode cX12_mark 65 = .ok (.istore_n 3, 1) := by decide +kernel
theorem gdX12_mark_66 : decode cX12_mark 66 = .ok (.iload_n 3, 1) := by decide +kernel
theorem gdX12_mark_67 : decode cX12_mark 67 = .ok (.ifCond .ne 9, 3) := by decide +kernel
theorem gdX12_mark_76 : decode cX12_mark 76 = .ok (.iload_n 2, 1) := by decide +kernel
theorem gdX12_mark_77 : decode cX12_mark 77 = .ok (.tableswitch 73 1 5 #[35, 42, 52, 59, 66], 35) := by decide +kernel
theorem gdX12_mark_112 : decode cX12_mark 112 = .ok (.aload_n 0, 1) := by decide +kernel
theorem gdX12_mark_113 : decode cX12_mark 113 = .ok (.getfield 98, 3) := by decide +kernel
theorem gdX12_mark_116 : decode cX12_mark 116 = .ok (.iload_n 1, 1) := by decide +kernel
theorem gdX12_mark_117 : decode cX12_mark 117 = .ok (.iaload, 1) := by decide +kernel
theorem gdX12_mark_118 : decode cX12_mark 118 = .ok (.ireturn, 1) := by decide +kernel
theorem gdX12_mark_119 : decode cX12_mark 119 = .ok (.aload_n 0, 1) := by decide +kernel
theorem gdX12_mark_120 : decode cX12_mark 120 = .ok (.getfield 101, 3) := by decide +kernel
theorem gdX12_mark_123 : decode cX12_mark 123 = .ok (.bipush 64, 2) := by decide +kernel
theorem gdX12_mark_125 : decode cX12_mark 125 = .ok (.iload_n 1, 1) := by decide +kernel
theorem gdX12_mark_126 : decode cX12_mark 126 = .ok (.imul, 1) := by decide +kernel
theorem gdX12_mark_127 : decode cX12_mark 127 = .ok (.iaload, 1) := by decide +kernel
theorem gdX12_mark_128 : decode cX12_mark 128 = .ok (.ireturn, 1) := by decide +kernel
theorem gdX12_mark_129 : decode cX12_mark 129 = .ok (.aload_n 0, 1) := by decide +kernel
theorem gdX12_mark_130 : decode cX12_mark 130 = .ok (.getfield 104, 3) := by decide +kernel
theorem gdX12_mark_133 : decode cX12_mark 133 = .ok (.iload_n 1, 1) := by decide +kernel
theorem gdX12_mark_134 : decode cX12_mark 134 = .ok (.iaload, 1) := by decide +kernel
theorem gdX12_mark_135 : decode cX12_mark 135 = .ok (.ireturn, 1) := by decide +kernel
theorem gdX12_mark_136 : decode cX12_mark 136 = .ok (.aload_n 0, 1) := by decide +kernel
theorem gdX12_mark_137 : decode cX12_mark 137 = .ok (.getfield 107, 3) := by decide +kernel
theorem gdX12_mark_140 : decode cX12_mark 140 = .ok (.iload_n 1, 1) := by decide +kernel
theorem gdX12_mark_141 : decode cX12_mark 141 = .ok (.iaload, 1) := by decide +kernel
theorem gdX12_mark_142 : decode cX12_mark 142 = .ok (.ireturn, 1) := by decide +kernel
theorem gdX12_mark_143 : decode cX12_mark 143 = .ok (.aload_n 0, 1) := by decide +kernel
theorem gdX12_mark_144 : decode cX12_mark 144 = .ok (.getfield 114, 3) := by decide +kernel
theorem gdX12_mark_147 : decode cX12_mark 147 = .ok (.iload_n 1, 1) := by decide +kernel
theorem gdX12_mark_148 : decode cX12_mark 148 = .ok (.iaload, 1) := by decide +kernel
theorem gdX12_mark_149 : decode cX12_mark 149 = .ok (.ireturn, 1) := by decide +kernel
theorem gdX12_mark_150 : decode cX12_mark 150 = .ok (.aload_n 0, 1) := by decide +kernel
theorem gdX12_mark_151 : decode cX12_mark 151 = .ok (.iload_n 1, 1) := by decide +kernel
theorem gdX12_mark_152 : decode cX12_mark 152 = .ok (.invokevirtual 361, 3) := by decide +kernel
theorem gdX12_mark_155 : decode cX12_mark 155 = .ok (.ireturn, 1) := by decide +kernel
theorem gdX12_mark_70 : decode cX12_mark 70 = .ok (.aload_n 0, 1) := by decide +kernel
theorem gdX12_mark_71 : decode cX12_mark 71 = .ok (.iconst 3, 1) := by decide +kernel
theorem gdX12_mark_72 : decode cX12_mark 72 = .ok (.invokevirtual 216, 3) := by decide +kernel
theorem gdX12_mark_75 : decode cX12_mark 75 = .ok (.ireturn, 1) := by decide +kernel
theorem gdX12_mark_60 : decode cX12_mark 60 = .ok (.iconst 1, 1) := by decide +kernel
theorem gdX12_mark_61 : decode cX12_mark 61 = .ok (.goto 4, 3) := by decide +kernel
theorem gdX12_mark_64 : decode cX12_mark 64 = .ok (.iconst 0, 1) := by decide +kernel
theorem gdX12_mark_45 : decode cX12_mark 45 = .ok (.iload_n 2, 1) := by decide +kernel
theorem gdX12_mark_46 : decode cX12_mark 46 = .ok (.iconst 3, 1) := by decide +kernel
theorem gdX12_mark_47 : decode cX12_mark 47 = .ok (.if_icmp .ne 17, 3) := by decide +kernel
theorem gdX12_mark_50 : decode cX12_mark 50 = .ok (.aload_n 0, 1) := by decide +kernel
theorem gdX12_mark_51 : decode cX12_mark 51 = .ok (.getfield 83, 3) := by decide +kernel
theorem gdX12_mark_54 : decode cX12_mark 54 = .ok (.iload_n 1, 1) := by decide +kernel
theorem gdX12_mark_55 : decode cX12_mark 55 = .ok (.iaload, 1) := by decide +kernel
theorem gdX12_mark_56 : decode cX12_mark 56 = .ok (.iconst 4, 1) := by decide +kernel
theorem gdX12_mark_57 : decode cX12_mark 57 = .ok (.if_icmp .ne 7, 3) := by decide +kernel
theorem gdX12_mark_0 : decode cX12_mark 0 = .ok (.aload_n 0, 1) := by decide +kernel
theorem gdX12_mark_1 : decode cX12_mark 1 = .ok (.iload_n 1, 1) := by decide +kernel
theorem gdX12_mark_2 : decode cX12_mark 2 = .ok (.invokevirtual 308, 3) := by decide +kernel
theorem gdX12_mark_5 : decode cX12_mark 5 = .ok (.ifCond .eq 13, 3) := by decide +kernel
theorem gdX12_mark_8 : decode cX12_mark 8 = .ok (.iload_n 2, 1) := by decide +kernel
theorem gdX12_mark_9 : decode cX12_mark 9 = .ok (.iconst 1, 1) := by decide +kernel
theorem gdX12_mark_10 : decode cX12_mark 10 = .ok (.bipush 6, 2) := by decide +kernel
theorem gdX12_mark_12 : decode cX12_mark 12 = .ok (.invokestatic 208, 3) := by decide +kernel
theorem gdX12_mark_15 : decode cX12_mark 15 = .ok (.ifCond .ne 5, 3) := by decide +kernel
theorem gdX12_mark_20 : decode cX12_mark 20 = .ok (.aload_n 0, 1) := by decide +kernel
theorem gdX12_mark_21 : decode cX12_mark 21 = .ok (.getfield 83, 3) := by decide +kernel
theorem gdX12_mark_24 : decode cX12_mark 24 = .ok (.iload_n 1, 1) := by decide +kernel
theorem gdX12_mark_25 : decode cX12_mark 25 = .ok (.iaload, 1) := by decide +kernel
theorem gdX12_mark_26 : decode cX12_mark 26 = .ok (.iload_n 2, 1) := by decide +kernel
theorem gdX12_mark_27 : decode cX12_mark 27 = .ok (.if_icmp .eq 33, 3) := by decide +kernel
theorem gdX12_mark_30 : decode cX12_mark 30 = .ok (.iload_n 2, 1) := by decide +kernel
theorem gdX12_mark_31 : decode cX12_mark 31 = .ok (.iconst 1, 1) := by decide +kernel
theorem gdX12_mark_32 : decode cX12_mark 32 = .ok (.if_icmp .ne 13, 3) := by decide +kernel
theorem gdX12_mark_35 : decode cX12_mark 35 = .ok (.aload_n 0, 1) := by decide +kernel
theorem gdX12_mark_36 : decode cX12_mark 36 = .ok (.getfield 83, 3) := by decide +kernel
theorem gdX12_mark_39 : decode cX12_mark 39 = .ok (.iload_n 1, 1) := by decide +kernel
theorem gdX12_mark_40 : decode cX12_mark 40 = .ok (.iaload, 1) := by decide +kernel
theorem gdX12_mark_41 : decode cX12_mark 41 = .ok (.iconst 2, 1) := by decide +kernel
theorem gdX12_mark_42 : decode cX12_mark 42 = .ok (.if_icmp .eq 18, 3) := by decide +kernel
theorem gdX12_mean_116 : decode cX12_mean 116 = .ok (.ireturn, 1) := by decide +kernel
theorem gdX12_mean_96 : decode cX12_mean 96 = .ok (.iload_n 2, 1) := by decide +kernel
theorem gdX12_mean_97 : decode cX12_mean 97 = .ok (.ifCond .ne 11, 3) := by decide +kernel
theorem gdX12_mean_108 : decode cX12_mean 108 = .ok (.aload_n 0, 1) := by decide +kernel
theorem gdX12_mean_109 : decode cX12_mean 109 = .ok (.iload_n 3, 1) := by decide +kernel
theorem gdX12_mean_110 : decode cX12_mean 110 = .ok (.iload_n 2, 1) := by decide +kernel
theorem gdX12_mean_111 : decode cX12_mean 111 = .ok (.idiv, 1) := by decide +kernel
theorem gdX12_mean_112 : decode cX12_mean 112 = .ok (.iconst 1, 1) := by decide +kernel
theorem gdX12_mean_113 : decode cX12_mean 113 = .ok (.invokevirtual 290, 3) := by decide +kernel
theorem gdX12_mean_100 : decode cX12_mean 100 = .ok (.aload_n 0, 1) := by decide +kernel
theorem gdX12_mean_101 : decode cX12_mean 101 = .ok (.iconst 4, 1) := by decide +kernel
theorem gdX12_mean_102 : decode cX12_mean 102 = .ok (.invokevirtual 216, 3) := by decide +kernel
theorem gdX12_mean_105 : decode cX12_mean 105 = .ok (.goto 11, 3) := by decide +kernel
theorem gdX12_mean_88 : decode cX12_mean 88 = .ok (.iadd, 1) := by decide +kernel
theorem gdX12_mean_89 : decode cX12_mean 89 = .ok (.istore_n 3, 1) := by decide +kernel
theorem gdX12_mean_90 : decode cX12_mean 90 = .ok (.iinc 4 1, 3) := by decide +kernel
theorem gdX12_mean_93 : decode cX12_mean 93 = .ok (.goto (-75), 3) := by decide +kernel
theorem gdX12_mean_66 : decode cX12_mean 66 = .ok (.iadd, 1) := by decide +kernel
theorem gdX12_mean_67 : decode cX12_mean 67 = .ok (.istore_n 2, 1) := by decide +kernel
theorem gdX12_mean_68 : decode cX12_mean 68 = .ok (.iload_n 3, 1) := by decide +kernel
theorem gdX12_mean_69 : decode cX12_mean 69 = .ok (.iload 5, 2) := by decide +kernel
theorem gdX12_mean_71 : decode cX12_mean 71 = .ok (.ifCond .eq 16, 3) := by decide +kernel
theorem gdX12_mean_87 : decode cX12_mean 87 = .ok (.iconst 0, 1) := by decide +kernel
theorem gdX12_mean_74 : decode cX12_mean 74 = .ok (.aload_n 0, 1) := by decide +kernel
theorem gdX12_mean_75 : decode cX12_mean 75 = .ok (.iload 4, 2) := by decide +kernel
theorem gdX12_mean_77 : decode cX12_mean 77 = .ok (.aload_n 0, 1) := by decide +kernel
theorem gdX12_mean_78 : decode cX12_mean 78 = .ok (.getfield 229, 3) := by decide +kernel
theorem gdX12_mean_81 : decode cX12_mean 81 = .ok (.invokevirtual 277, 3) := by decide +kernel
theorem gdX12_mean_84 : decode cX12_mean 84 = .ok (.goto 4, 3) := by decide +kernel
theorem gdX12_mean_53 : decode cX12_mean 53 = .ok (.istore 5, 2) := by decide +kernel
theorem gdX12_mean_55 : decode cX12_mean 55 = .ok (.iload_n 2, 1) := by decide +kernel
theorem gdX12_mean_56 : decode cX12_mean 56 = .ok (.iload 5, 2) := by decide +kernel
theorem gdX12_mean_58 : decode cX12_mean 58 = .ok (.ifCond .eq 7, 3) := by decide +kernel
theorem gdX12_mean_65 : decode cX12_mean 65 = .ok (.iconst 0, 1) := by decide +kernel
theorem gdX12_mean_61 : decode cX12_mean 61 = .ok (.iconst 1, 1) := by decide +kernel
theorem gdX12_mean_62 : decode cX12_mean 62 = .ok (.goto 4, 3) := by decide +kernel
theorem gdX12_mean_52 : decode cX12_mean 52 = .ok (.iconst 0, 1) := by decide +kernel
theorem gdX12_mean_18 : decode cX12_mean 18 = .ok (.iload 4, 2) := by decide +kernel
theorem gdX12_mean_20 : decode cX12_mean 20 = .ok (.aload_n 0, 1) := by decide +kernel
theorem gdX12_mean_21 : decode cX12_mean 21 = .ok (.getfield 254, 3) := by decide +kernel
theorem gdX12_mean_24 : decode cX12_mean 24 = .ok (.if_icmp .ge 72, 3) := by decide +kernel
theorem gdX12_mean_27 : decode cX12_mean 27 = .ok (.aload_n 0, 1) := by decide +kernel
theorem gdX12_mean_28 : decode cX12_mean 28 = .ok (.getfield 49, 3) := by decide +kernel
theorem gdX12_mean_31 : decode cX12_mean 31 = .ok (.iload 4, 2) := by decide +kernel
theorem gdX12_mean_33 : decode cX12_mean 33 = .ok (.iaload, 1) := by decide +kernel
theorem gdX12_mean_34 : decode cX12_mean 34 = .ok (.iload_n 1, 1) := by decide +kernel
theorem gdX12_mean_35 : decode cX12_mean 35 = .ok (.if_icmp .ne 17, 3) := by decide +kernel
theorem gdX12_mean_38 : decode cX12_mean 38 = .ok (.aload_n 0, 1) := by decide +kernel
theorem gdX12_mean_39 : decode cX12_mean 39 = .ok (.getfield 55, 3) := by decide +kernel
theorem gdX12_mean_42 : decode cX12_mean 42 = .ok (.iload 4, 2) := by decide +kernel
theorem gdX12_mean_44 : decode cX12_mean 44 = .ok (.baload, 1) := by decide +kernel
theorem gdX12_mean_45 : decode cX12_mean 45 = .ok (.ifCond .ne 7, 3) := by decide +kernel
theorem gdX12_mean_48 : decode cX12_mean 48 = .ok (.iconst 1, 1) := by decide +kernel
theorem gdX12_mean_49 : decode cX12_mean 49 = .ok (.goto 4, 3) := by decide +kernel
theorem gdX12_mean_0 : decode cX12_mean 0 = .ok (.iload_n 1, 1) := by decide +kernel
theorem gdX12_mean_1 : decode cX12_mean 1 = .ok (.iconst 0, 1) := by decide +kernel
theorem gdX12_mean_2 : decode cX12_mean 2 = .ok (.iconst 2, 1) := by decide +kernel
theorem gdX12_mean_3 : decode cX12_mean 3 = .ok (.invokestatic 208, 3) := by decide +kernel
theorem gdX12_mean_6 : decode cX12_mean 6 = .ok (.ifCond .ne 5, 3) := by decide +kernel
theorem gdX12_mean_11 : decode cX12_mean 11 = .ok (.iconst 0, 1) := by decide +kernel
theorem gdX12_mean_12 : decode cX12_mean 12 = .ok (.istore_n 2, 1) := by decide +kernel
theorem gdX12_mean_13 : decode cX12_mean 13 = .ok (.iconst 0, 1) := by decide +kernel
theorem gdX12_mean_14 : decode cX12_mean 14 = .ok (.istore_n 3, 1) := by decide +kernel
theorem gdX12_mean_15 : decode cX12_mean 15 = .ok (.iconst 0, 1) := by decide +kernel
theorem gdX12_mean_16 : decode cX12_mean 16 = .ok (.istore 4, 2) := by decide +kernel
theorem gdX12_mean_9 : decode cX12_mean 9 = .ok (.iconst (-1), 1) := by decide +kernel
theorem gdX12_mean_10 : decode cX12_mean 10 = .ok (.ireturn, 1) := by decide +kernel
theorem okm_X12_couldCome : okM yX12_couldCome cX12_couldCome 6 (some .int) 1 := ⟨w_1972, w_103, by decide +kernel, by decide +kernel, by decide +kernel⟩
theorem okw_X12_couldCome : okV yX12_couldCome := ⟨w_1971, w_67⟩
theorem okm_X12_isVoidHearing : okM yX12_isVoidHearing cX12_isVoidHearing 2 (some .boolean) 1 := ⟨w_2057, w_103, by decide +kernel, by decide +kernel, by decide +kernel⟩
theorem okw_X12_isVoidHearing : okV yX12_isVoidHearing := ⟨w_2056, w_77⟩
theorem okm_X12_isVoidTaking : okM yX12_isVoidTaking cX12_isVoidTaking 4 (some .boolean) 1 := ⟨w_2061, w_103, by decide +kernel, by decide +kernel, by decide +kernel⟩
theorem okw_X12_isVoidTaking : okV yX12_isVoidTaking := ⟨w_2060, w_78⟩
theorem okm_X12_slope : okM yX12_slope cX12_slope 4 (some .int) 2 := ⟨w_1890, w_103, by decide +kernel, by decide +kernel, by decide +kernel⟩
theorem okw_X12_slope : okV yX12_slope := ⟨w_1889, w_57⟩
theorem okm_X12_goOn : okM yX12_goOn cX12_goOn 5 (some .int) 4 := ⟨w_1894, w_103, by decide +kernel, by decide +kernel, by decide +kernel⟩
theorem okw_X12_goOn : okV yX12_goOn := ⟨w_1893, w_58⟩
theorem okm_X12_leads : okM yX12_leads cX12_leads 4 (some .boolean) 3 := ⟨w_1886, w_103, by decide +kernel, by decide +kernel, by decide +kernel⟩
theorem okw_X12_leads : okV yX12_leads := ⟨w_1885, w_56⟩
theorem okm_X12_setLeft : okM yX12_setLeft cX12_setLeft 9 none 2 := ⟨w_1878, w_103, by decide +kernel, by decide +kernel, by decide +kernel⟩
theorem okw_X12_setLeft : okV yX12_setLeft := ⟨w_1877, w_55⟩
theorem okm_X12_costOf : okM yX12_costOf cX12_costOf 4 (some .int) 2 := ⟨w_1870, w_103, by decide +kernel, by decide +kernel, by decide +kernel⟩
theorem okw_X12_costOf : okV yX12_costOf := ⟨w_1869, w_53⟩
set_option maxHeartbeats 4000000 in
set_option maxRecDepth 100000 in
theorem c_X12_hear (l : Launch) (g : GG) (ad : Nat → Nat) (o : OO) (x1 : Int) (x2 : Int) (v : Int × OO) (h : s_X12_hear o x1 x2 = some v) : CI l g yX12_hear cX12_hear 4 (some .int) 2 43 (wM g ad o) [.ref (ad 0), iv x1, iv x2] v.1 (wM g ad v.2) := by
  refine met_I (by decide) (Nat.le_of_ble_eq_true rfl) ?_
  intro X E hQ
  show Go X 0 (wM g ad o) [(0, .ref (ad 0)), (1, iv x1), (2, iv x2)] []
  have j16 : ∀ (o : OO), b_X12_hear_16 o = some v → Go X 16 (wM g ad o) [] [] := by
    intro o h
    unfold b_X12_hear_16 at h
    refine g_iconst E gdX12_hear_16 ?_
    exact g_iret E hQ (by rw [← Option.some.inj h]) (by rw [← Option.some.inj h]) gdX12_hear_17
  unfold s_X12_hear at h
  refine g_aload_n E gdX12_hear_0 rfl 0 rfl ?_
  refine g_iload_n E gdX12_hear_1 rfl 1 rfl ?_
  obtain ⟨r1, hc2, h⟩ := qB_of h
  refine g_Vi (r := r1) (As := [iv x1]) (rest := []) (w := wM g ad o) E (c_X12_isPerson l g ad o x1 r1 hc2) okm_X12_isPerson okw_X12_isPerson w_1851 rfl (wM_0 g ad o) rfl rfl (Nat.le_of_ble_eq_true rfl) ⟨Nat.le_of_ble_eq_true rfl, Nat.le_of_ble_eq_true rfl⟩ gdX12_hear_2 ?_
  refine g_if_eq E 16 gdX12_hear_5 (by decide) h (fun h => ?_) (fun h => ?_)
  ·
    refine g_sub E [] rfl ?_
    exact j16 o h
  ·
    refine g_aload_n E gdX12_hear_8 rfl 0 rfl ?_
    refine g_iload_n E gdX12_hear_9 rfl 2 rfl ?_
    obtain ⟨r3, hc4, h⟩ := qB_of h
    refine g_Vi (r := r3) (As := [iv x2]) (rest := []) (w := wM g ad o) E (c_X12_isMark l g ad o x2 r3 hc4) okm_X12_isMark okw_X12_isMark w_1903 rfl (wM_0 g ad o) rfl rfl (Nat.le_of_ble_eq_true rfl) ⟨Nat.le_of_ble_eq_true rfl, Nat.le_of_ble_eq_true rfl⟩ gdX12_hear_10 ?_
    refine g_if_ne E 18 gdX12_hear_13 (by decide) h (fun h => ?_) (fun h => ?_)
    ·
      refine g_aload_n E gdX12_hear_18 rfl 0 rfl ?_
      refine g_iload_n E gdX12_hear_19 rfl 2 rfl ?_
      obtain ⟨r5, hc6, h⟩ := qB_of h
      refine g_Vi (r := r5) (As := [iv x2]) (rest := []) (w := wM g ad o) E (c_X12_isLine l g ad o x2 r5 hc6) okm_X12_isLine okw_X12_isLine w_1907 rfl (wM_0 g ad o) rfl rfl (Nat.le_of_ble_eq_true rfl) ⟨Nat.le_of_ble_eq_true rfl, Nat.le_of_ble_eq_true rfl⟩ gdX12_hear_20 ?_
      refine g_if_ne E 32 gdX12_hear_23 (by decide) h (fun h => ?_) (fun h => ?_)
      ·
        refine g_aload_n E gdX12_hear_32 rfl 0 rfl ?_
        refine g_iload_n E gdX12_hear_33 rfl 1 rfl ?_
        refine g_iload_n E gdX12_hear_34 rfl 2 rfl ?_
        obtain ⟨r7, hc8, h⟩ := qB_of h
        refine g_Vi (r := r7) (As := [iv x1, iv x2]) (rest := []) (w := wM g ad o) E (c_X12_heard l g ad o x1 x2 r7 hc8) okm_X12_heard okw_X12_heard w_1993 rfl (wM_0 g ad o) rfl rfl (Nat.le_of_ble_eq_true rfl) ⟨Nat.le_of_ble_eq_true rfl, Nat.le_of_ble_eq_true rfl⟩ gdX12_hear_35 ?_
        refine g_istore_n E [(3, iv r7), (0, .ref (ad 0)), (1, iv x1), (2, iv x2)] gdX12_hear_38 rfl (by decide) rfl ?_
        refine g_iload_n E gdX12_hear_39 rfl 0 rfl ?_
        refine g_if_lt E 45 gdX12_hear_40 (by decide) h (fun h => ?_) (fun h => ?_)
        ·
          refine g_aload_n E gdX12_hear_45 rfl 1 rfl ?_
          refine g_get (T := TX12) E fw_X12 0 (wM_0 g ad o) rfl 52 (by decide) w_1518 rfl rfl gdX12_hear_46 ?_
          refine g_bipush E gdX12_hear_49 (by decide) ?_
          refine g_icmp_ne E 57 gdX12_hear_51 (by decide) h (fun h => ?_) (fun h => ?_)
          ·
            refine g_aload_n E gdX12_hear_57 rfl 1 rfl ?_
            refine g_get (T := TX12) E fw_X12 0 (wM_0 g ad o) rfl 53 (by decide) w_1519 rfl rfl gdX12_hear_58 ?_
            refine g_aload_n E gdX12_hear_61 rfl 1 rfl ?_
            refine g_get (T := TX12) E fw_X12 0 (wM_0 g ad o) rfl 52 (by decide) w_1518 rfl rfl gdX12_hear_62 ?_
            refine g_iload_n E gdX12_hear_65 rfl 2 rfl ?_
            obtain ⟨hi9, h⟩ := qIn_of h
            obtain ⟨o10, e_o10, h⟩ := qNm_of h
            refine g_iast (ws' := wM g ad o10) E 43 (wM_43 g ad o) (by decide) hi9 (by rw [e_o10]; exact wM_s43 g ad o _ _) gdX12_hear_66 ?_
            refine g_aload_n E gdX12_hear_67 rfl 1 rfl ?_
            refine g_get (T := TX12) E fw_X12 0 (wM_0 g ad o10) rfl 54 (by decide) w_1520 rfl rfl gdX12_hear_68 ?_
            refine g_aload_n E gdX12_hear_71 rfl 1 rfl ?_
            refine g_get (T := TX12) E fw_X12 0 (wM_0 g ad o10) rfl 52 (by decide) w_1518 rfl rfl gdX12_hear_72 ?_
            refine g_iload_n E gdX12_hear_75 rfl 3 rfl ?_
            obtain ⟨hi11, h⟩ := qIn_of h
            obtain ⟨o12, e_o12, h⟩ := qNm_of h
            refine g_iast (ws' := wM g ad o12) E 44 (wM_44 g ad o10) (by decide) hi11 (by rw [e_o12]; exact wM_s44 g ad o10 _ _) gdX12_hear_76 ?_
            refine g_aload_n E gdX12_hear_77 rfl 1 rfl ?_
            refine g_get (T := TX12) E fw_X12 0 (wM_0 g ad o12) rfl 55 (by decide) w_1521 rfl rfl gdX12_hear_78 ?_
            refine g_aload_n E gdX12_hear_81 rfl 1 rfl ?_
            refine g_get (T := TX12) E fw_X12 0 (wM_0 g ad o12) rfl 52 (by decide) w_1518 rfl rfl gdX12_hear_82 ?_
            refine g_aload_n E gdX12_hear_85 rfl 1 rfl ?_
            refine g_get (T := TX12) E fw_X12 0 (wM_0 g ad o12) rfl 4 (by decide) w_1470 rfl rfl gdX12_hear_86 ?_
            obtain ⟨hi13, h⟩ := qIn_of h
            obtain ⟨o14, e_o14, h⟩ := qNm_of h
            refine g_iast (ws' := wM g ad o14) E 45 (wM_45 g ad o12) (by decide) hi13 (by rw [e_o14]; exact wM_s45 g ad o12 _ _) gdX12_hear_89 ?_
            refine g_aload_n E gdX12_hear_90 rfl 1 rfl ?_
            refine g_dup E gdX12_hear_91 rfl ?_
            refine g_get (T := TX12) E fw_X12 0 (wM_0 g ad o14) rfl 52 (by decide) w_1518 rfl rfl gdX12_hear_92 ?_
            refine g_iconst E gdX12_hear_95 ?_
            refine g_iadd E gdX12_hear_96 ?_
            obtain ⟨o15, e_o15, h⟩ := qNm_of h
            refine g_puti (T := TX12) (ws' := wM g ad o15) E fw_X12 tyX12 tyX12_ok nmX12 0 (wM_0 g ad o14) rfl 52 (by decide) w_1518 rfl rfl (by decide +kernel) (Nat.le_of_ble_eq_true rfl) (by rw [e_o15]; exact wM_p0_52 g ad o14 _) gdX12_hear_97 ?_
            refine g_aload_n E gdX12_hear_100 rfl 1 rfl ?_
            refine g_get (T := TX12) E fw_X12 0 (wM_0 g ad o15) rfl 4 (by decide) w_1470 rfl rfl gdX12_hear_101 ?_
            exact g_iret E hQ (by rw [← Option.some.inj h]) (by rw [← Option.some.inj h]) gdX12_hear_104
          ·
            refine g_bipush E gdX12_hear_54 (by decide) ?_
            exact g_iret E hQ (by rw [← Option.some.inj h]) (by rw [← Option.some.inj h]) gdX12_hear_56
        ·
          refine g_iload_n E gdX12_hear_43 rfl 0 rfl ?_
          exact g_iret E hQ (by rw [← Option.some.inj h]) (by rw [← Option.some.inj h]) gdX12_hear_44
      ·
        refine g_aload_n E gdX12_hear_26 rfl 0 rfl ?_
        refine g_iconst E gdX12_hear_27 ?_
        obtain ⟨r16, o18, hc17, h⟩ := qB2_of h
        refine g_Vi (r := r16) (As := [iv 3]) (rest := []) (w := wM g ad o18) E (c_X12_meets l g ad o 3 (r16, o18) hc17) okm_X12_meets okw_X12_meets w_1708 rfl (wM_0 g ad o) rfl rfl (Nat.le_of_ble_eq_true rfl) ⟨Nat.le_of_ble_eq_true rfl, Nat.le_of_ble_eq_true rfl⟩ gdX12_hear_28 ?_
        exact g_iret E hQ (by rw [← Option.some.inj h]) (by rw [← Option.some.inj h]) gdX12_hear_31
    ·
      refine g_sub E [] rfl ?_
      exact j16 o h
set_option maxHeartbeats 4000000 in
set_option maxRecDepth 100000 in
theorem c_X12_hearing (l : Launch) (g : GG) (ad : Nat → Nat) (o : OO) (x1 : Int) (x2 : Int) (x3 : Int) (x4 : Int) (v : Int × OO) (h : s_X12_hearing o x1 x2 x3 x4 = some v) : CI l g yX12_hearing cX12_hearing 6 (some .int) 2 43 (wM g ad o) [.ref (ad 0), iv x1, iv x2, iv x3, iv x4] v.1 (wM g ad v.2) := by
  refine met_I (by decide) (Nat.le_of_ble_eq_true rfl) ?_
  intro X E hQ
  show Go X 0 (wM g ad o) [(0, .ref (ad 0)), (1, iv x1), (2, iv x2), (3, iv x3), (4, iv x4)] []
  have j33 : ∀ (o : OO), b_X12_hearing_33 o = some v → Go X 33 (wM g ad o) [] [] := by
    intro o h
    unfold b_X12_hearing_33 at h
    refine g_iconst E gdX12_hearing_33 ?_
    exact g_iret E hQ (by rw [← Option.some.inj h]) (by rw [← Option.some.inj h]) gdX12_hearing_34
  unfold s_X12_hearing at h
  refine g_aload_n E gdX12_hearing_0 rfl 0 rfl ?_
  refine g_iload_n E gdX12_hearing_1 rfl 1 rfl ?_
  obtain ⟨r1, hc2, h⟩ := qB_of h
  refine g_Vi (r := r1) (As := [iv x1]) (rest := []) (w := wM g ad o) E (c_X12_isMark l g ad o x1 r1 hc2) okm_X12_isMark okw_X12_isMark w_1903 rfl (wM_0 g ad o) rfl rfl (Nat.le_of_ble_eq_true rfl) ⟨Nat.le_of_ble_eq_true rfl, Nat.le_of_ble_eq_true rfl⟩ gdX12_hearing_2 ?_
  refine g_if_eq E 33 gdX12_hearing_5 (by decide) h (fun h => ?_) (fun h => ?_)
  ·
    refine g_sub E [] rfl ?_
    exact j33 o h
  ·
    refine g_iload_n E gdX12_hearing_8 rfl 2 rfl ?_
    obtain ⟨r3, hc4, h⟩ := qB_of h
    refine g_Si (r := r3) (As := [iv x2]) (rest := []) (w := wM g ad o) E (c_X12_isCell l g (wM g ad o) x2 r3 hc4) okm_X12_isCell w_1789 w_1788 rfl rfl (Nat.le_of_ble_eq_true rfl) ⟨Nat.le_of_ble_eq_true rfl, Nat.le_of_ble_eq_true rfl⟩ gdX12_hearing_9 ?_
    refine g_if_eq E 33 gdX12_hearing_12 (by decide) h (fun h => ?_) (fun h => ?_)
    ·
      refine g_sub E [] rfl ?_
      exact j33 o h
    ·
      refine g_iload_n E gdX12_hearing_15 rfl 3 rfl ?_
      refine g_iconst E gdX12_hearing_16 ?_
      refine g_bipush E gdX12_hearing_17 (by decide) ?_
      obtain ⟨r5, hc6, h⟩ := qB_of h
      refine g_Si (r := r5) (As := [iv x3, iv 0, iv 23]) (rest := []) (w := wM g ad o) E (c_X12_in l g (wM g ad o) x3 0 23 r5 hc6) okm_X12_in w_1706 w_1705 rfl rfl (Nat.le_of_ble_eq_true rfl) ⟨Nat.le_of_ble_eq_true rfl, Nat.le_of_ble_eq_true rfl⟩ gdX12_hearing_19 ?_
      refine g_if_eq E 33 gdX12_hearing_22 (by decide) h (fun h => ?_) (fun h => ?_)
      ·
        refine g_sub E [] rfl ?_
        exact j33 o h
      ·
        refine g_iload E gdX12_hearing_25 4 rfl ?_
        obtain ⟨r7, hc8, h⟩ := qB_of h
        refine g_Si (r := r7) (As := [iv x4]) (rest := []) (w := wM g ad o) E (c_X12_isDay l g (wM g ad o) x4 r7 hc8) okm_X12_isDay w_1763 w_1762 rfl rfl (Nat.le_of_ble_eq_true rfl) ⟨Nat.le_of_ble_eq_true rfl, Nat.le_of_ble_eq_true rfl⟩ gdX12_hearing_27 ?_
        refine g_if_ne E 35 gdX12_hearing_30 (by decide) h (fun h => ?_) (fun h => ?_)
        ·
          refine g_aload_n E gdX12_hearing_35 rfl 0 rfl ?_
          refine g_get (T := TX12) E fw_X12 0 (wM_0 g ad o) rfl 32 (by decide) w_1498 rfl rfl gdX12_hearing_36 ?_
          refine g_bipush E gdX12_hearing_39 (by decide) ?_
          refine g_icmp_ne E 47 gdX12_hearing_41 (by decide) h (fun h => ?_) (fun h => ?_)
          ·
            refine g_aload_n E gdX12_hearing_47 rfl 0 rfl ?_
            refine g_iload_n E gdX12_hearing_48 rfl 1 rfl ?_
            obtain ⟨r9, hc10, h⟩ := qB_of h
            refine g_Vi (r := r9) (As := [iv x1]) (rest := []) (w := wM g ad o) E (c_X12_isLine l g ad o x1 r9 hc10) okm_X12_isLine okw_X12_isLine w_1907 rfl (wM_0 g ad o) rfl rfl (Nat.le_of_ble_eq_true rfl) ⟨Nat.le_of_ble_eq_true rfl, Nat.le_of_ble_eq_true rfl⟩ gdX12_hearing_49 ?_
            refine g_if_ne E 61 gdX12_hearing_52 (by decide) h (fun h => ?_) (fun h => ?_)
            ·
              refine g_iload E gdX12_hearing_61 4 rfl ?_
              refine g_aload_n E gdX12_hearing_63 rfl 0 rfl ?_
              refine g_get (T := TX12) E fw_X12 0 (wM_0 g ad o) rfl 4 (by decide) w_1470 rfl rfl gdX12_hearing_64 ?_
              refine g_icmp_ge E 73 gdX12_hearing_67 (by decide) h (fun h => ?_) (fun h => ?_)
              ·
                refine g_aload_n E gdX12_hearing_73 rfl 0 rfl ?_
                refine g_bipush E gdX12_hearing_74 (by decide) ?_
                refine g_iload_n E gdX12_hearing_76 rfl 1 rfl ?_
                obtain ⟨r11, o13, hc12, h⟩ := qB2_of h
                refine g_Vi (r := r11) (As := [iv 6, iv x1]) (rest := []) (w := wM g ad o13) E (c_X12_enter l g ad o 6 x1 (r11, o13) hc12) okm_X12_enter okw_X12_enter w_1895 rfl (wM_0 g ad o) rfl rfl (Nat.le_of_ble_eq_true rfl) ⟨Nat.le_of_ble_eq_true rfl, Nat.le_of_ble_eq_true rfl⟩ gdX12_hearing_77 ?_
                refine g_istore E [(5, iv r11), (0, .ref (ad 0)), (1, iv x1), (2, iv x2), (3, iv x3), (4, iv x4)] gdX12_hearing_80 (by decide) rfl ?_
                refine g_aload_n E gdX12_hearing_82 rfl 1 rfl ?_
                refine g_get (T := TX12) E fw_X12 0 (wM_0 g ad o13) rfl 43 (by decide) w_1509 rfl rfl gdX12_hearing_83 ?_
                refine g_iload E gdX12_hearing_86 0 rfl ?_
                refine g_iload_n E gdX12_hearing_88 rfl 3 rfl ?_
                obtain ⟨hi14, h⟩ := qIn_of h
                obtain ⟨o15, e_o15, h⟩ := qNm_of h
                refine g_iast (ws' := wM g ad o15) E 35 (wM_35 g ad o13) (by decide) hi14 (by rw [e_o15]; exact wM_s35 g ad o13 _ _) gdX12_hearing_89 ?_
                refine g_aload_n E gdX12_hearing_90 rfl 1 rfl ?_
                refine g_get (T := TX12) E fw_X12 0 (wM_0 g ad o15) rfl 44 (by decide) w_1510 rfl rfl gdX12_hearing_91 ?_
                refine g_iload E gdX12_hearing_94 0 rfl ?_
                refine g_iload_n E gdX12_hearing_96 rfl 4 rfl ?_
                obtain ⟨hi16, h⟩ := qIn_of h
                obtain ⟨o17, e_o17, h⟩ := qNm_of h
                refine g_iast (ws' := wM g ad o17) E 36 (wM_36 g ad o15) (by decide) hi16 (by rw [e_o17]; exact wM_s36 g ad o15 _ _) gdX12_hearing_97 ?_
                refine g_aload_n E gdX12_hearing_98 rfl 1 rfl ?_
                refine g_get (T := TX12) E fw_X12 0 (wM_0 g ad o17) rfl 45 (by decide) w_1511 rfl rfl gdX12_hearing_99 ?_
                refine g_iload E gdX12_hearing_102 0 rfl ?_
                refine g_iload E gdX12_hearing_104 5 rfl ?_
                obtain ⟨hi18, h⟩ := qIn_of h
                obtain ⟨o19, e_o19, h⟩ := qNm_of h
                refine g_iast (ws' := wM g ad o19) E 37 (wM_37 g ad o17) (by decide) hi18 (by rw [e_o19]; exact wM_s37 g ad o17 _ _) gdX12_hearing_106 ?_
                refine g_iload E gdX12_hearing_107 0 rfl ?_
                exact g_iret E hQ (by rw [← Option.some.inj h]) (by rw [← Option.some.inj h]) gdX12_hearing_109
              ·
                refine g_bipush E gdX12_hearing_70 (by decide) ?_
                exact g_iret E hQ (by rw [← Option.some.inj h]) (by rw [← Option.some.inj h]) gdX12_hearing_72
            ·
              refine g_aload_n E gdX12_hearing_55 rfl 0 rfl ?_
              refine g_iconst E gdX12_hearing_56 ?_
              obtain ⟨r20, o22, hc21, h⟩ := qB2_of h
              refine g_Vi (r := r20) (As := [iv 3]) (rest := []) (w := wM g ad o22) E (c_X12_meets l g ad o 3 (r20, o22) hc21) okm_X12_meets okw_X12_meets w_1708 rfl (wM_0 g ad o) rfl rfl (Nat.le_of_ble_eq_true rfl) ⟨Nat.le_of_ble_eq_true rfl, Nat.le_of_ble_eq_true rfl⟩ gdX12_hearing_57 ?_
              exact g_iret E hQ (by rw [← Option.some.inj h]) (by rw [← Option.some.inj h]) gdX12_hearing_60
          ·
            refine g_bipush E gdX12_hearing_44 (by decide) ?_
            exact g_iret E hQ (by rw [← Option.some.inj h]) (by rw [← Option.some.inj h]) gdX12_hearing_46
        ·
          refine g_sub E [] rfl ?_
          exact j33 o h
set_option maxHeartbeats 4000000 in
set_option maxRecDepth 100000 in
theorem c_X12_house (l : Launch) (g : GG) (ad : Nat → Nat) (o : OO) (x1 : Int) (x2 : Int) (v : Int × OO) (h : s_X12_house o x1 x2 = some v) : CI l g yX12_house cX12_house 3 (some .int) 2 45 (wM g ad o) [.ref (ad 0), iv x1, iv x2] v.1 (wM g ad v.2) := by
  refine met_I (by decide) (Nat.le_of_ble_eq_true rfl) ?_
  intro X E hQ
  show Go X 0 (wM g ad o) [(0, .ref (ad 0)), (1, iv x1), (2, iv x2)] []
  have j32 : ∀ (o : OO) (y0 : Int), b_X12_house_32 o y0 = some v → Go X 32 (wM g ad o) [] [iv y0] := by
    intro o y0 h
    unfold b_X12_house_32 at h
    exact g_iret E hQ (by rw [← Option.some.inj h]) (by rw [← Option.some.inj h]) gdX12_house_32
  have j31 : ∀ (o : OO), b_X12_house_31 o = some v → Go X 31 (wM g ad o) [] [] := by
    intro o h
    unfold b_X12_house_31 at h
    refine g_iconst E gdX12_house_31 ?_
    exact j32 o (-1) h
  unfold s_X12_house at h
  refine g_aload_n E gdX12_house_0 rfl 0 rfl ?_
  refine g_iload_n E gdX12_house_1 rfl 1 rfl ?_
  obtain ⟨r1, hc2, h⟩ := qB_of h
  refine g_Vi (r := r1) (As := [iv x1]) (rest := []) (w := wM g ad o) E (c_X12_isBuilding l g ad o x1 r1 hc2) okm_X12_isBuilding okw_X12_isBuilding w_1811 rfl (wM_0 g ad o) rfl rfl (Nat.le_of_ble_eq_true rfl) ⟨Nat.le_of_ble_eq_true rfl, Nat.le_of_ble_eq_true rfl⟩ gdX12_house_2 ?_
  refine g_if_eq E 31 gdX12_house_5 (by decide) h (fun h => ?_) (fun h => ?_)
  ·
    refine g_sub E [] rfl ?_
    exact j31 o h
  ·
    refine g_iload_n E gdX12_house_8 rfl 2 rfl ?_
    refine g_iconst E gdX12_house_9 ?_
    refine g_iconst E gdX12_house_10 ?_
    obtain ⟨r3, hc4, h⟩ := qB_of h
    refine g_Si (r := r3) (As := [iv x2, iv 0, iv 5]) (rest := []) (w := wM g ad o) E (c_X12_in l g (wM g ad o) x2 0 5 r3 hc4) okm_X12_in w_1706 w_1705 rfl rfl (Nat.le_of_ble_eq_true rfl) ⟨Nat.le_of_ble_eq_true rfl, Nat.le_of_ble_eq_true rfl⟩ gdX12_house_11 ?_
    refine g_if_eq E 31 gdX12_house_14 (by decide) h (fun h => ?_) (fun h => ?_)
    ·
      refine g_sub E [] rfl ?_
      exact j31 o h
    ·
      refine g_aload_n E gdX12_house_17 rfl 0 rfl ?_
      refine g_aload_n E gdX12_house_18 rfl 0 rfl ?_
      refine g_iload_n E gdX12_house_19 rfl 1 rfl ?_
      refine g_iload_n E gdX12_house_20 rfl 2 rfl ?_
      obtain ⟨r5, hc6, h⟩ := qB_of h
      refine g_Vi (r := r5) (As := [iv x1, iv x2]) (rest := [.ref (ad 0)]) (w := wM g ad o) E (c_X12_houseTells l g ad o x1 x2 r5 hc6) okm_X12_houseTells okw_X12_houseTells w_1827 rfl (wM_0 g ad o) rfl rfl (Nat.le_of_ble_eq_true rfl) ⟨Nat.le_of_ble_eq_true rfl, Nat.le_of_ble_eq_true rfl⟩ gdX12_house_21 ?_
      refine g_iconst E gdX12_house_24 ?_
      obtain ⟨r7, o9, hc8, h⟩ := qB2_of h
      refine g_Vi (r := r7) (As := [iv r5, iv 1]) (rest := []) (w := wM g ad o9) E (c_X12_ask l g ad o r5 1 (r7, o9) hc8) okm_X12_ask okw_X12_ask w_1835 rfl (wM_0 g ad o) rfl rfl (Nat.le_of_ble_eq_true rfl) ⟨Nat.le_of_ble_eq_true rfl, Nat.le_of_ble_eq_true rfl⟩ gdX12_house_25 ?_
      refine g_goto E 32 gdX12_house_28 (by decide) ?_
      refine g_sub E [] rfl ?_
      exact j32 o9 r7 h
set_option maxHeartbeats 4000000 in
set_option maxRecDepth 100000 in
theorem c_X12_couldCome (l : Launch) (g : GG) (ad : Nat → Nat) (o : OO) (x1 : Int) (v : Int) (h : s_X12_couldCome o x1 = some v) : CI l g yX12_couldCome cX12_couldCome 6 (some .int) 1 23 (wM g ad o) [.ref (ad 0), iv x1] v (wM g ad o) := by
  refine met_I (by decide) (Nat.le_of_ble_eq_true rfl) ?_
  intro X E hQ
  show Go X 0 (wM g ad o) [(0, .ref (ad 0)), (1, iv x1)] []
  have j124 : ∀ (x2 : Int), b_X12_couldCome_124 o x2 = some v → Go X 124 (wM g ad o) [(2, iv x2)] [] := by
    intro x2 h
    unfold b_X12_couldCome_124 at h
    refine g_iload_n E gdX12_couldCome_124 rfl 0 rfl ?_
    exact g_iret E hQ (Option.some.inj h) rfl gdX12_couldCome_125
  have j118 : ∀ (x1 : Int) (x2 : Int) (x3 : Int) (v : (Int × Int) ⊕ ((Int))), b_X12_couldCome_118 o x1 x2 x3 = some v → (∀ (x2 : Int) (x3 : Int), v = .inl (x2, x3) → Go X 4 (wM g ad o) [(0, .ref (ad 0)), (1, iv x1), (2, iv x2), (3, iv x3)] []) → (∀ (x2 : Int), v = .inr (x2) → Go X 124 (wM g ad o) [(2, iv x2)] []) → Go X 118 (wM g ad o) [(0, .ref (ad 0)), (1, iv x1), (2, iv x2), (3, iv x3)] [] := by
    intro x1 x2 x3 v h k0 k1
    unfold b_X12_couldCome_118 at h
    refine g_iinc E [(3, iv (x3 + 1)), (0, .ref (ad 0)), (1, iv x1), (2, iv x2)] gdX12_couldCome_118 3 rfl (by decide) rfl ?_
    refine g_goto E 4 gdX12_couldCome_121 (by decide) ?_
    refine g_sub E [1, 2, 3, 0] rfl ?_
    exact k0 x2 (x3 + 1) (Option.some.inj h).symm
  have j116 : ∀ (x1 : Int) (x3 : Int) (y0 : Int) (y1 : Int) (v : (Int × Int) ⊕ ((Int))), b_X12_couldCome_116 o x1 x3 y0 y1 = some v → (∀ (x2 : Int) (x3 : Int), v = .inl (x2, x3) → Go X 4 (wM g ad o) [(0, .ref (ad 0)), (1, iv x1), (2, iv x2), (3, iv x3)] []) → (∀ (x2 : Int), v = .inr (x2) → Go X 124 (wM g ad o) [(2, iv x2)] []) → Go X 116 (wM g ad o) [(0, .ref (ad 0)), (1, iv x1), (3, iv x3)] [iv y1, iv y0] := by
    intro x1 x3 y0 y1 v h k0 k1
    unfold b_X12_couldCome_116 at h
    refine g_iadd E gdX12_couldCome_116 ?_
    obtain ⟨n1, e_n1, h⟩ := qNm_of h
    refine g_nmi e_n1 ?_
    refine g_istore_n E [(2, iv n1), (0, .ref (ad 0)), (1, iv x1), (3, iv x3)] gdX12_couldCome_117 rfl (by decide) rfl ?_
    refine g_sub E [1, 2, 0, 3] rfl ?_
    exact j118 x1 n1 x3 v h k0 k1
  have j115 : ∀ (x1 : Int) (x3 : Int) (y0 : Int) (v : (Int × Int) ⊕ ((Int))), b_X12_couldCome_115 o x1 x3 y0 = some v → (∀ (x2 : Int) (x3 : Int), v = .inl (x2, x3) → Go X 4 (wM g ad o) [(0, .ref (ad 0)), (1, iv x1), (2, iv x2), (3, iv x3)] []) → (∀ (x2 : Int), v = .inr (x2) → Go X 124 (wM g ad o) [(2, iv x2)] []) → Go X 115 (wM g ad o) [(0, .ref (ad 0)), (1, iv x1), (3, iv x3)] [iv y0] := by
    intro x1 x3 y0 v h k0 k1
    unfold b_X12_couldCome_115 at h
    refine g_iconst E gdX12_couldCome_115 ?_
    exact j116 x1 x3 y0 0 v h k0 k1
  have j98 : ∀ (x1 : Int) (x2 : Int) (x3 : Int) (x4 : Int) (y0 : Int) (v : (Int × Int) ⊕ ((Int))), b_X12_couldCome_98 o x1 x2 x3 x4 y0 = some v → (∀ (x2 : Int) (x3 : Int), v = .inl (x2, x3) → Go X 4 (wM g ad o) [(0, .ref (ad 0)), (1, iv x1), (2, iv x2), (3, iv x3)] []) → (∀ (x2 : Int), v = .inr (x2) → Go X 124 (wM g ad o) [(2, iv x2)] []) → Go X 98 (wM g ad o) [(0, .ref (ad 0)), (1, iv x1), (2, iv x2), (3, iv x3), (4, iv x4)] [iv y0] := by
    intro x1 x2 x3 x4 y0 v h k0 k1
    unfold b_X12_couldCome_98 at h
    refine g_istore E [(5, iv y0), (0, .ref (ad 0)), (1, iv x1), (2, iv x2), (3, iv x3), (4, iv x4)] gdX12_couldCome_98 (by decide) rfl ?_
    refine g_iload_n E gdX12_couldCome_100 rfl 3 rfl ?_
    refine g_iload E gdX12_couldCome_101 5 rfl ?_
    refine g_if_eq E 115 gdX12_couldCome_103 (by decide) h (fun h => ?_) (fun h => ?_)
    ·
      refine g_sub E [1, 2, 4] rfl ?_
      exact j115 x1 x3 x2 v h k0 k1
    ·
      refine g_iload E gdX12_couldCome_106 0 rfl ?_
      refine g_if_eq E 115 gdX12_couldCome_108 (by decide) h (fun h => ?_) (fun h => ?_)
      ·
        refine g_sub E [1, 2, 4] rfl ?_
        exact j115 x1 x3 x2 v h k0 k1
      ·
        refine g_iconst E gdX12_couldCome_111 ?_
        refine g_goto E 116 gdX12_couldCome_112 (by decide) ?_
        refine g_sub E [1, 2, 4] rfl ?_
        exact j116 x1 x3 x2 1 v h k0 k1
  have j93 : ∀ (x1 : Int) (x2 : Int) (x3 : Int) (x4 : Int) (v : (Int × Int) ⊕ ((Int))), b_X12_couldCome_93 o x1 x2 x3 x4 = some v → (∀ (x2 : Int) (x3 : Int), v = .inl (x2, x3) → Go X 4 (wM g ad o) [(0, .ref (ad 0)), (1, iv x1), (2, iv x2), (3, iv x3)] []) → (∀ (x2 : Int), v = .inr (x2) → Go X 124 (wM g ad o) [(2, iv x2)] []) → Go X 93 (wM g ad o) [(0, .ref (ad 0)), (1, iv x1), (2, iv x2), (3, iv x3), (4, iv x4)] [] := by
    intro x1 x2 x3 x4 v h k0 k1
    unfold b_X12_couldCome_93 at h
    refine g_iconst E gdX12_couldCome_93 ?_
    refine g_goto E 98 gdX12_couldCome_94 (by decide) ?_
    exact j98 x1 x2 x3 x4 1 v h k0 k1
  have j60 : ∀ (x1 : Int) (x2 : Int) (x3 : Int) (y0 : Int) (v : (Int × Int) ⊕ ((Int))), b_X12_couldCome_60 o x1 x2 x3 y0 = some v → (∀ (x2 : Int) (x3 : Int), v = .inl (x2, x3) → Go X 4 (wM g ad o) [(0, .ref (ad 0)), (1, iv x1), (2, iv x2), (3, iv x3)] []) → (∀ (x2 : Int), v = .inr (x2) → Go X 124 (wM g ad o) [(2, iv x2)] []) → Go X 60 (wM g ad o) [(0, .ref (ad 0)), (1, iv x1), (2, iv x2), (3, iv x3)] [iv y0] := by
    intro x1 x2 x3 y0 v h k0 k1
    unfold b_X12_couldCome_60 at h
    refine g_istore E [(4, iv y0), (0, .ref (ad 0)), (1, iv x1), (2, iv x2), (3, iv x3)] gdX12_couldCome_60 (by decide) rfl ?_
    refine g_aload_n E gdX12_couldCome_62 rfl 1 rfl ?_
    refine g_get (T := TX12) E fw_X12 0 (wM_0 g ad o) rfl 29 (by decide) w_1495 rfl rfl gdX12_couldCome_63 ?_
    refine g_iload_n E gdX12_couldCome_66 rfl 4 rfl ?_
    obtain ⟨hi2, h⟩ := qIn_of h
    refine g_iald E 22 (wM_22 g ad o) (by decide) hi2 gdX12_couldCome_67 ?_
    obtain ⟨n3, e_n3, h⟩ := qNm_of h
    refine g_nmi e_n3 ?_
    refine g_if_lt E 93 gdX12_couldCome_68 (by decide) h (fun h => ?_) (fun h => ?_)
    ·
      refine g_sub E [1, 2, 3, 4, 0] rfl ?_
      exact j93 x1 x2 x3 y0 v h k0 k1
    ·
      refine g_aload_n E gdX12_couldCome_71 rfl 1 rfl ?_
      refine g_get (T := TX12) E fw_X12 0 (wM_0 g ad o) rfl 44 (by decide) w_1510 rfl rfl gdX12_couldCome_72 ?_
      refine g_iload_n E gdX12_couldCome_75 rfl 2 rfl ?_
      obtain ⟨hi4, h⟩ := qIn_of h
      refine g_iald E 36 (wM_36 g ad o) (by decide) hi4 gdX12_couldCome_76 ?_
      obtain ⟨n5, e_n5, h⟩ := qNm_of h
      refine g_nmi e_n5 ?_
      refine g_bipush E gdX12_couldCome_77 (by decide) ?_
      refine g_icmp_lt E 93 gdX12_couldCome_79 (by decide) h (fun h => ?_) (fun h => ?_)
      ·
        refine g_sub E [1, 2, 3, 4, 0] rfl ?_
        exact j93 x1 x2 x3 y0 v h k0 k1
      ·
        refine g_aload_n E gdX12_couldCome_82 rfl 1 rfl ?_
        refine g_get (T := TX12) E fw_X12 0 (wM_0 g ad o) rfl 44 (by decide) w_1510 rfl rfl gdX12_couldCome_83 ?_
        refine g_iload_n E gdX12_couldCome_86 rfl 2 rfl ?_
        obtain ⟨hi6, h⟩ := qIn_of h
        refine g_iald E 36 (wM_36 g ad o) (by decide) hi6 gdX12_couldCome_87 ?_
        obtain ⟨n7, e_n7, h⟩ := qNm_of h
        refine g_nmi e_n7 ?_
        refine g_bipush E gdX12_couldCome_88 (by decide) ?_
        refine g_icmp_le E 97 gdX12_couldCome_90 (by decide) h (fun h => ?_) (fun h => ?_)
        ·
          refine g_iconst E gdX12_couldCome_97 ?_
          refine g_sub E [1, 2, 3, 4, 0] rfl ?_
          exact j98 x1 x2 x3 y0 0 v h k0 k1
        ·
          refine g_sub E [1, 2, 3, 4, 0] rfl ?_
          exact j93 x1 x2 x3 y0 v h k0 k1
  have j55 : ∀ (x1 : Int) (x2 : Int) (x3 : Int) (v : (Int × Int) ⊕ ((Int))), b_X12_couldCome_55 o x1 x2 x3 = some v → (∀ (x2 : Int) (x3 : Int), v = .inl (x2, x3) → Go X 4 (wM g ad o) [(0, .ref (ad 0)), (1, iv x1), (2, iv x2), (3, iv x3)] []) → (∀ (x2 : Int), v = .inr (x2) → Go X 124 (wM g ad o) [(2, iv x2)] []) → Go X 55 (wM g ad o) [(0, .ref (ad 0)), (1, iv x1), (2, iv x2), (3, iv x3)] [] := by
    intro x1 x2 x3 v h k0 k1
    unfold b_X12_couldCome_55 at h
    refine g_iconst E gdX12_couldCome_55 ?_
    refine g_goto E 60 gdX12_couldCome_56 (by decide) ?_
    exact j60 x1 x2 x3 1 v h k0 k1
  have l4 : ∀ (x1 : Int) (r : (Int)) (s0 : Int × Int), loopW (fun s => l_X12_couldCome_4 o x1 s.1 s.2) s0 = some r → (∀ (x2 : Int), r = (x2) → Go X 124 (wM g ad o) [(2, iv x2)] []) → Go X 4 (wM g ad o) [(0, .ref (ad 0)), (1, iv x1), (2, iv s0.1), (3, iv s0.2)] [] := by
    intro x1 r s0 h k1
    refine loop_rule (Head := fun s0 => Go X 4 (wM g ad o) [(0, .ref (ad 0)), (1, iv x1), (2, iv s0.1), (3, iv s0.2)] []) h ?_
    intro s v h kk kx
    obtain ⟨x2, x3⟩ := s
    have h : l_X12_couldCome_4 o x1 x2 x3 = some v := h
    have k0 : ∀ (x2 : Int) (x3 : Int), v = .inl (x2, x3) → Go X 4 (wM g ad o) [(0, .ref (ad 0)), (1, iv x1), (2, iv x2), (3, iv x3)] [] := fun x2 x3 e => kk (x2, x3) e
    have k1 : ∀ (x2 : Int), v = .inr (x2) → Go X 124 (wM g ad o) [(2, iv x2)] [] := fun x2 e => k1 x2 (kx _ e).symm
    unfold l_X12_couldCome_4 at h
    refine g_iload_n E gdX12_couldCome_4 rfl 3 rfl ?_
    refine g_aload_n E gdX12_couldCome_5 rfl 0 rfl ?_
    refine g_get (T := TX12) E fw_X12 0 (wM_0 g ad o) rfl 27 (by decide) w_1493 rfl rfl gdX12_couldCome_6 ?_
    refine g_icmp_ge E 124 gdX12_couldCome_9 (by decide) h (fun h => ?_) (fun h => ?_)
    ·
      refine g_sub E [2] rfl ?_
      exact k1 x2 (Option.some.inj h).symm
    ·
      refine g_aload_n E gdX12_couldCome_12 rfl 0 rfl ?_
      refine g_get (T := TX12) E fw_X12 0 (wM_0 g ad o) rfl 28 (by decide) w_1494 rfl rfl gdX12_couldCome_13 ?_
      refine g_iload_n E gdX12_couldCome_16 rfl 3 rfl ?_
      obtain ⟨hi8, h⟩ := qIn_of h
      refine g_iald E 21 (wM_21 g ad o) (by decide) hi8 gdX12_couldCome_17 ?_
      obtain ⟨n9, e_n9, h⟩ := qNm_of h
      refine g_nmi e_n9 ?_
      refine g_if_lt E 118 gdX12_couldCome_18 (by decide) h (fun h => ?_) (fun h => ?_)
      ·
        exact j118 x1 x2 x3 v h k0 k1
      ·
        refine g_aload_n E gdX12_couldCome_21 rfl 0 rfl ?_
        refine g_get (T := TX12) E fw_X12 0 (wM_0 g ad o) rfl 30 (by decide) w_1496 rfl rfl gdX12_couldCome_22 ?_
        refine g_iload_n E gdX12_couldCome_25 rfl 3 rfl ?_
        obtain ⟨hi10, h⟩ := qIn_of h
        refine g_zald E 23 (wM_23 g ad o) (by decide) hi10 gdX12_couldCome_26 ?_
        obtain ⟨n11, e_n11, h⟩ := qNm_of h
        refine g_nmi e_n11 ?_
        refine g_if_ne E 55 gdX12_couldCome_27 (by decide) h (fun h => ?_) (fun h => ?_)
        ·
          exact j55 x1 x2 x3 v h k0 k1
        ·
          refine g_aload_n E gdX12_couldCome_30 rfl 0 rfl ?_
          refine g_get (T := TX12) E fw_X12 0 (wM_0 g ad o) rfl 18 (by decide) w_1484 rfl rfl gdX12_couldCome_31 ?_
          refine g_aload_n E gdX12_couldCome_34 rfl 0 rfl ?_
          refine g_get (T := TX12) E fw_X12 0 (wM_0 g ad o) rfl 28 (by decide) w_1494 rfl rfl gdX12_couldCome_35 ?_
          refine g_iload_n E gdX12_couldCome_38 rfl 3 rfl ?_
          obtain ⟨hi12, h⟩ := qIn_of h
          refine g_iald E 21 (wM_21 g ad o) (by decide) hi12 gdX12_couldCome_39 ?_
          obtain ⟨n13, e_n13, h⟩ := qNm_of h
          refine g_nmi e_n13 ?_
          obtain ⟨hi14, h⟩ := qIn_of h
          refine g_iald E 13 (wM_13 g ad o) (by decide) hi14 gdX12_couldCome_40 ?_
          obtain ⟨n15, e_n15, h⟩ := qNm_of h
          refine g_nmi e_n15 ?_
          refine g_aload_n E gdX12_couldCome_41 rfl 0 rfl ?_
          refine g_get (T := TX12) E fw_X12 0 (wM_0 g ad o) rfl 43 (by decide) w_1509 rfl rfl gdX12_couldCome_42 ?_
          refine g_iload_n E gdX12_couldCome_45 rfl 1 rfl ?_
          obtain ⟨hi16, h⟩ := qIn_of h
          refine g_iald E 35 (wM_35 g ad o) (by decide) hi16 gdX12_couldCome_46 ?_
          obtain ⟨n17, e_n17, h⟩ := qNm_of h
          refine g_nmi e_n17 ?_
          obtain ⟨r18, hc19, h⟩ := qB_of h
          refine g_Si (r := r18) (As := [iv n15, iv n17]) (rest := []) (w := wM g ad o) E (c_X12_apart l g (wM g ad o) n15 n17 r18 hc19) okm_X12_apart w_1912 w_1911 rfl rfl (Nat.le_of_ble_eq_true rfl) ⟨Nat.le_of_ble_eq_true rfl, Nat.le_of_ble_eq_true rfl⟩ gdX12_couldCome_47 ?_
          refine g_bipush E gdX12_couldCome_50 (by decide) ?_
          refine g_icmp_gt E 59 gdX12_couldCome_52 (by decide) h (fun h => ?_) (fun h => ?_)
          ·
            refine g_iconst E gdX12_couldCome_59 ?_
            exact j60 x1 x2 x3 0 v h k0 k1
          ·
            exact j55 x1 x2 x3 v h k0 k1
  have j4 : ∀ (x1 : Int) (x2 : Int) (x3 : Int), e_X12_couldCome_4 o x1 x2 x3 = some v → Go X 4 (wM g ad o) [(0, .ref (ad 0)), (1, iv x1), (2, iv x2), (3, iv x3)] [] := by
    intro x1 x2 x3 h
    unfold e_X12_couldCome_4 at h
    obtain ⟨r, hr, h⟩ := qB_of h
    refine l4 x1 r _ hr ?_
    ·
      intro u0 e
      have e := e.symm
      subst e
      have h : b_X12_couldCome_124 o u0 = some v := h
      exact j124 u0 h
  unfold s_X12_couldCome at h
  refine g_iconst E gdX12_couldCome_0 ?_
  refine g_istore_n E [(2, iv 0), (0, .ref (ad 0)), (1, iv x1)] gdX12_couldCome_1 rfl (by decide) rfl ?_
  refine g_iconst E gdX12_couldCome_2 ?_
  refine g_istore_n E [(3, iv 0), (2, iv 0), (0, .ref (ad 0)), (1, iv x1)] gdX12_couldCome_3 rfl (by decide) rfl ?_
  refine g_sub E [2, 3, 1, 0] rfl ?_
  exact j4 x1 0 0 h
set_option maxHeartbeats 4000000 in
set_option maxRecDepth 100000 in
theorem c_X12_isVoidHearing (l : Launch) (g : GG) (ad : Nat → Nat) (o : OO) (x1 : Int) (v : Int) (h : s_X12_isVoidHearing o x1 = some v) : CI l g yX12_isVoidHearing cX12_isVoidHearing 2 (some .boolean) 2 50 (wM g ad o) [.ref (ad 0), iv x1] v (wM g ad o) := by
  refine met_I (by decide) (Nat.le_of_ble_eq_true rfl) ?_
  intro X E hQ
  show Go X 0 (wM g ad o) [(0, .ref (ad 0)), (1, iv x1)] []
  have j47 : ∀ (y0 : Int), b_X12_isVoidHearing_47 o y0 = some v → Go X 47 (wM g ad o) [] [iv y0] := by
    intro y0 h
    unfold b_X12_isVoidHearing_47 at h
    obtain ⟨hz, h⟩ := qZ_of h
    exact g_zret E hQ hz (Option.some.inj h) rfl gdX12_isVoidHearing_47
  have j42 : b_X12_isVoidHearing_42 o = some v → Go X 42 (wM g ad o) [] [] := by
    intro h
    unfold b_X12_isVoidHearing_42 at h
    refine g_iconst E gdX12_isVoidHearing_42 ?_
    refine g_goto E 47 gdX12_isVoidHearing_43 (by decide) ?_
    exact j47 1 h
  unfold s_X12_isVoidHearing at h
  refine g_aload_n E gdX12_isVoidHearing_0 rfl 0 rfl ?_
  refine g_get (T := TX12) E fw_X12 0 (wM_0 g ad o) rfl 45 (by decide) w_1511 rfl rfl gdX12_isVoidHearing_1 ?_
  refine g_iload_n E gdX12_isVoidHearing_4 rfl 1 rfl ?_
  obtain ⟨hi1, h⟩ := qIn_of h
  refine g_iald E 37 (wM_37 g ad o) (by decide) hi1 gdX12_isVoidHearing_5 ?_
  obtain ⟨n2, e_n2, h⟩ := qNm_of h
  refine g_nmi e_n2 ?_
  refine g_aload_n E gdX12_isVoidHearing_6 rfl 0 rfl ?_
  refine g_get (T := TX12) E fw_X12 0 (wM_0 g ad o) rfl 34 (by decide) w_1500 rfl rfl gdX12_isVoidHearing_7 ?_
  refine g_iload_n E gdX12_isVoidHearing_10 rfl 1 rfl ?_
  obtain ⟨hi3, h⟩ := qIn_of h
  refine g_iald E 26 (wM_26 g ad o) (by decide) hi3 gdX12_isVoidHearing_11 ?_
  obtain ⟨n4, e_n4, h⟩ := qNm_of h
  refine g_nmi e_n4 ?_
  refine g_isub E gdX12_isVoidHearing_12 ?_
  refine g_aload_n E gdX12_isVoidHearing_13 rfl 0 rfl ?_
  refine g_bipush E gdX12_isVoidHearing_14 (by decide) ?_
  refine g_aload_n E gdX12_isVoidHearing_16 rfl 0 rfl ?_
  refine g_get (T := TX12) E fw_X12 0 (wM_0 g ad o) rfl 34 (by decide) w_1500 rfl rfl gdX12_isVoidHearing_17 ?_
  refine g_iload_n E gdX12_isVoidHearing_20 rfl 1 rfl ?_
  obtain ⟨hi5, h⟩ := qIn_of h
  refine g_iald E 26 (wM_26 g ad o) (by decide) hi5 gdX12_isVoidHearing_21 ?_
  obtain ⟨n6, e_n6, h⟩ := qNm_of h
  refine g_nmi e_n6 ?_
  refine g_aload_n E gdX12_isVoidHearing_22 rfl 0 rfl ?_
  refine g_get (T := TX12) E fw_X12 0 (wM_0 g ad o) rfl 34 (by decide) w_1500 rfl rfl gdX12_isVoidHearing_23 ?_
  refine g_iload_n E gdX12_isVoidHearing_26 rfl 1 rfl ?_
  obtain ⟨hi7, h⟩ := qIn_of h
  refine g_iald E 26 (wM_26 g ad o) (by decide) hi7 gdX12_isVoidHearing_27 ?_
  obtain ⟨n8, e_n8, h⟩ := qNm_of h
  refine g_nmi e_n8 ?_
  obtain ⟨r9, hc10, h⟩ := qB_of h
  refine g_Vi (r := r9) (As := [iv 7, iv n6, iv n8]) (rest := [iv (n2 - n4)]) (w := wM g ad o) E (c_X12_inForce l g ad o 7 n6 n8 r9 hc10) okm_X12_inForce okw_X12_inForce w_1772 rfl (wM_0 g ad o) rfl rfl (Nat.le_of_ble_eq_true rfl) ⟨Nat.le_of_ble_eq_true rfl, Nat.le_of_ble_eq_true rfl⟩ gdX12_isVoidHearing_28 ?_
  refine g_icmp_lt E 42 gdX12_isVoidHearing_31 (by decide) h (fun h => ?_) (fun h => ?_)
  ·
    refine g_sub E [] rfl ?_
    exact j42  h
  ·
    refine g_aload_n E gdX12_isVoidHearing_34 rfl 0 rfl ?_
    refine g_iload_n E gdX12_isVoidHearing_35 rfl 1 rfl ?_
    obtain ⟨r11, hc12, h⟩ := qB_of h
    refine g_Vi (r := r11) (As := [iv x1]) (rest := []) (w := wM g ad o) E (c_X12_couldCome l g ad o x1 r11 hc12) okm_X12_couldCome okw_X12_couldCome w_1969 rfl (wM_0 g ad o) rfl rfl (Nat.le_of_ble_eq_true rfl) ⟨Nat.le_of_ble_eq_true rfl, Nat.le_of_ble_eq_true rfl⟩ gdX12_isVoidHearing_36 ?_
    refine g_if_ne E 46 gdX12_isVoidHearing_39 (by decide) h (fun h => ?_) (fun h => ?_)
    ·
      refine g_iconst E gdX12_isVoidHearing_46 ?_
      refine g_sub E [] rfl ?_
      exact j47 0 h
    ·
      refine g_sub E [] rfl ?_
      exact j42  h
set_option maxHeartbeats 4000000 in
set_option maxRecDepth 100000 in
theorem c_X12_isVoidTaking (l : Launch) (g : GG) (ad : Nat → Nat) (o : OO) (x1 : Int) (v : Int) (h : s_X12_isVoidTaking o x1 = some v) : CI l g yX12_isVoidTaking cX12_isVoidTaking 4 (some .boolean) 3 71 (wM g ad o) [.ref (ad 0), iv x1] v (wM g ad o) := by
  refine met_I (by decide) (Nat.le_of_ble_eq_true rfl) ?_
  intro X E hQ
  show Go X 0 (wM g ad o) [(0, .ref (ad 0)), (1, iv x1)] []
  have j86 : ∀ (y0 : Int), b_X12_isVoidTaking_86 o y0 = some v → Go X 86 (wM g ad o) [] [iv y0] := by
    intro y0 h
    unfold b_X12_isVoidTaking_86 at h
    obtain ⟨hz, h⟩ := qZ_of h
    exact g_zret E hQ hz (Option.some.inj h) rfl gdX12_isVoidTaking_86
  have j77 : ∀ (x2 : Int), b_X12_isVoidTaking_77 o x2 = some v → Go X 77 (wM g ad o) [(2, iv x2)] [] := by
    intro x2 h
    unfold b_X12_isVoidTaking_77 at h
    refine g_iload_n E gdX12_isVoidTaking_77 rfl 0 rfl ?_
    refine g_if_ne E 85 gdX12_isVoidTaking_78 (by decide) h (fun h => ?_) (fun h => ?_)
    ·
      refine g_iconst E gdX12_isVoidTaking_85 ?_
      refine g_sub E [] rfl ?_
      exact j86 0 h
    ·
      refine g_iconst E gdX12_isVoidTaking_81 ?_
      refine g_goto E 86 gdX12_isVoidTaking_82 (by decide) ?_
      refine g_sub E [] rfl ?_
      exact j86 1 h
  have j70 : ∀ (x1 : Int) (x3 : Int) (y0 : Int) (v : (Int × Int) ⊕ ((Int))), b_X12_isVoidTaking_70 o x1 x3 y0 = some v → (∀ (x2 : Int) (x3 : Int), v = .inl (x2, x3) → Go X 4 (wM g ad o) [(0, .ref (ad 0)), (1, iv x1), (2, iv x2), (3, iv x3)] []) → (∀ (x2 : Int), v = .inr (x2) → Go X 77 (wM g ad o) [(2, iv x2)] []) → Go X 70 (wM g ad o) [(0, .ref (ad 0)), (1, iv x1), (3, iv x3)] [iv y0] := by
    intro x1 x3 y0 v h k0 k1
    unfold b_X12_isVoidTaking_70 at h
    refine g_istore_n E [(2, iv y0), (0, .ref (ad 0)), (1, iv x1), (3, iv x3)] gdX12_isVoidTaking_70 rfl (by decide) rfl ?_
    refine g_iinc E [(3, iv (x3 + 1)), (2, iv y0), (0, .ref (ad 0)), (1, iv x1)] gdX12_isVoidTaking_71 3 rfl (by decide) rfl ?_
    refine g_goto E 4 gdX12_isVoidTaking_74 (by decide) ?_
    refine g_sub E [2, 3, 1, 0] rfl ?_
    exact k0 y0 (x3 + 1) (Option.some.inj h).symm
  have j65 : ∀ (x1 : Int) (x3 : Int) (v : (Int × Int) ⊕ ((Int))), b_X12_isVoidTaking_65 o x1 x3 = some v → (∀ (x2 : Int) (x3 : Int), v = .inl (x2, x3) → Go X 4 (wM g ad o) [(0, .ref (ad 0)), (1, iv x1), (2, iv x2), (3, iv x3)] []) → (∀ (x2 : Int), v = .inr (x2) → Go X 77 (wM g ad o) [(2, iv x2)] []) → Go X 65 (wM g ad o) [(0, .ref (ad 0)), (1, iv x1), (3, iv x3)] [] := by
    intro x1 x3 v h k0 k1
    unfold b_X12_isVoidTaking_65 at h
    refine g_iconst E gdX12_isVoidTaking_65 ?_
    refine g_goto E 70 gdX12_isVoidTaking_66 (by decide) ?_
    exact j70 x1 x3 1 v h k0 k1
  have j69 : ∀ (x1 : Int) (x3 : Int) (v : (Int × Int) ⊕ ((Int))), b_X12_isVoidTaking_69 o x1 x3 = some v → (∀ (x2 : Int) (x3 : Int), v = .inl (x2, x3) → Go X 4 (wM g ad o) [(0, .ref (ad 0)), (1, iv x1), (2, iv x2), (3, iv x3)] []) → (∀ (x2 : Int), v = .inr (x2) → Go X 77 (wM g ad o) [(2, iv x2)] []) → Go X 69 (wM g ad o) [(0, .ref (ad 0)), (1, iv x1), (3, iv x3)] [] := by
    intro x1 x3 v h k0 k1
    unfold b_X12_isVoidTaking_69 at h
    refine g_iconst E gdX12_isVoidTaking_69 ?_
    exact j70 x1 x3 0 v h k0 k1
  have l4 : ∀ (x1 : Int) (r : (Int)) (s0 : Int × Int), loopW (fun s => l_X12_isVoidTaking_4 o x1 s.1 s.2) s0 = some r → (∀ (x2 : Int), r = (x2) → Go X 77 (wM g ad o) [(2, iv x2)] []) → Go X 4 (wM g ad o) [(0, .ref (ad 0)), (1, iv x1), (2, iv s0.1), (3, iv s0.2)] [] := by
    intro x1 r s0 h k1
    refine loop_rule (Head := fun s0 => Go X 4 (wM g ad o) [(0, .ref (ad 0)), (1, iv x1), (2, iv s0.1), (3, iv s0.2)] []) h ?_
    intro s v h kk kx
    obtain ⟨x2, x3⟩ := s
    have h : l_X12_isVoidTaking_4 o x1 x2 x3 = some v := h
    have k0 : ∀ (x2 : Int) (x3 : Int), v = .inl (x2, x3) → Go X 4 (wM g ad o) [(0, .ref (ad 0)), (1, iv x1), (2, iv x2), (3, iv x3)] [] := fun x2 x3 e => kk (x2, x3) e
    have k1 : ∀ (x2 : Int), v = .inr (x2) → Go X 77 (wM g ad o) [(2, iv x2)] [] := fun x2 e => k1 x2 (kx _ e).symm
    unfold l_X12_isVoidTaking_4 at h
    refine g_iload_n E gdX12_isVoidTaking_4 rfl 3 rfl ?_
    refine g_aload_n E gdX12_isVoidTaking_5 rfl 0 rfl ?_
    refine g_get (T := TX12) E fw_X12 0 (wM_0 g ad o) rfl 32 (by decide) w_1498 rfl rfl gdX12_isVoidTaking_6 ?_
    refine g_icmp_ge E 77 gdX12_isVoidTaking_9 (by decide) h (fun h => ?_) (fun h => ?_)
    ·
      refine g_sub E [2] rfl ?_
      exact k1 x2 (Option.some.inj h).symm
    ·
      refine g_iload_n E gdX12_isVoidTaking_12 rfl 2 rfl ?_
      refine g_if_ne E 65 gdX12_isVoidTaking_13 (by decide) h (fun h => ?_) (fun h => ?_)
      ·
        refine g_sub E [0, 1, 3] rfl ?_
        exact j65 x1 x3 v h k0 k1
      ·
        refine g_aload_n E gdX12_isVoidTaking_16 rfl 0 rfl ?_
        refine g_get (T := TX12) E fw_X12 0 (wM_0 g ad o) rfl 33 (by decide) w_1499 rfl rfl gdX12_isVoidTaking_17 ?_
        refine g_iload_n E gdX12_isVoidTaking_20 rfl 3 rfl ?_
        obtain ⟨hi1, h⟩ := qIn_of h
        refine g_iald E 25 (wM_25 g ad o) (by decide) hi1 gdX12_isVoidTaking_21 ?_
        obtain ⟨n2, e_n2, h⟩ := qNm_of h
        refine g_nmi e_n2 ?_
        refine g_bipush E gdX12_isVoidTaking_22 (by decide) ?_
        refine g_icmp_ne E 69 gdX12_isVoidTaking_24 (by decide) h (fun h => ?_) (fun h => ?_)
        ·
          refine g_sub E [0, 1, 3] rfl ?_
          exact j69 x1 x3 v h k0 k1
        ·
          refine g_aload_n E gdX12_isVoidTaking_27 rfl 0 rfl ?_
          refine g_get (T := TX12) E fw_X12 0 (wM_0 g ad o) rfl 35 (by decide) w_1501 rfl rfl gdX12_isVoidTaking_28 ?_
          refine g_iload_n E gdX12_isVoidTaking_31 rfl 3 rfl ?_
          obtain ⟨hi3, h⟩ := qIn_of h
          refine g_iald E 27 (wM_27 g ad o) (by decide) hi3 gdX12_isVoidTaking_32 ?_
          obtain ⟨n4, e_n4, h⟩ := qNm_of h
          refine g_nmi e_n4 ?_
          refine g_aload_n E gdX12_isVoidTaking_33 rfl 0 rfl ?_
          refine g_get (T := TX12) E fw_X12 0 (wM_0 g ad o) rfl 35 (by decide) w_1501 rfl rfl gdX12_isVoidTaking_34 ?_
          refine g_iload_n E gdX12_isVoidTaking_37 rfl 1 rfl ?_
          obtain ⟨hi5, h⟩ := qIn_of h
          refine g_iald E 27 (wM_27 g ad o) (by decide) hi5 gdX12_isVoidTaking_38 ?_
          obtain ⟨n6, e_n6, h⟩ := qNm_of h
          refine g_nmi e_n6 ?_
          refine g_icmp_ne E 69 gdX12_isVoidTaking_39 (by decide) h (fun h => ?_) (fun h => ?_)
          ·
            refine g_sub E [0, 1, 3] rfl ?_
            exact j69 x1 x3 v h k0 k1
          ·
            refine g_aload_n E gdX12_isVoidTaking_42 rfl 0 rfl ?_
            refine g_get (T := TX12) E fw_X12 0 (wM_0 g ad o) rfl 45 (by decide) w_1511 rfl rfl gdX12_isVoidTaking_43 ?_
            refine g_iload_n E gdX12_isVoidTaking_46 rfl 3 rfl ?_
            obtain ⟨hi7, h⟩ := qIn_of h
            refine g_iald E 37 (wM_37 g ad o) (by decide) hi7 gdX12_isVoidTaking_47 ?_
            obtain ⟨n8, e_n8, h⟩ := qNm_of h
            refine g_nmi e_n8 ?_
            refine g_aload_n E gdX12_isVoidTaking_48 rfl 0 rfl ?_
            refine g_get (T := TX12) E fw_X12 0 (wM_0 g ad o) rfl 34 (by decide) w_1500 rfl rfl gdX12_isVoidTaking_49 ?_
            refine g_iload_n E gdX12_isVoidTaking_52 rfl 1 rfl ?_
            obtain ⟨hi9, h⟩ := qIn_of h
            refine g_iald E 26 (wM_26 g ad o) (by decide) hi9 gdX12_isVoidTaking_53 ?_
            obtain ⟨n10, e_n10, h⟩ := qNm_of h
            refine g_nmi e_n10 ?_
            refine g_icmp_gt E 69 gdX12_isVoidTaking_54 (by decide) h (fun h => ?_) (fun h => ?_)
            ·
              refine g_sub E [0, 1, 3] rfl ?_
              exact j69 x1 x3 v h k0 k1
            ·
              refine g_aload_n E gdX12_isVoidTaking_57 rfl 0 rfl ?_
              refine g_iload_n E gdX12_isVoidTaking_58 rfl 3 rfl ?_
              obtain ⟨r11, hc12, h⟩ := qB_of h
              refine g_Vi (r := r11) (As := [iv x3]) (rest := []) (w := wM g ad o) E (c_X12_isVoidHearing l g ad o x3 r11 hc12) okm_X12_isVoidHearing okw_X12_isVoidHearing w_2054 rfl (wM_0 g ad o) rfl rfl (Nat.le_of_ble_eq_true rfl) ⟨Nat.le_of_ble_eq_true rfl, Nat.le_of_ble_eq_true rfl⟩ gdX12_isVoidTaking_59 ?_
              refine g_if_ne E 69 gdX12_isVoidTaking_62 (by decide) h (fun h => ?_) (fun h => ?_)
              ·
                refine g_sub E [0, 1, 3] rfl ?_
                exact j69 x1 x3 v h k0 k1
              ·
                refine g_sub E [0, 1, 3] rfl ?_
                exact j65 x1 x3 v h k0 k1
  have j4 : ∀ (x1 : Int) (x2 : Int) (x3 : Int), e_X12_isVoidTaking_4 o x1 x2 x3 = some v → Go X 4 (wM g ad o) [(0, .ref (ad 0)), (1, iv x1), (2, iv x2), (3, iv x3)] [] := by
    intro x1 x2 x3 h
    unfold e_X12_isVoidTaking_4 at h
    obtain ⟨r, hr, h⟩ := qB_of h
    refine l4 x1 r _ hr ?_
    ·
      intro u0 e
      have e := e.symm
      subst e
      have h : b_X12_isVoidTaking_77 o u0 = some v := h
      exact j77 u0 h
  unfold s_X12_isVoidTaking at h
  refine g_iconst E gdX12_isVoidTaking_0 ?_
  refine g_istore_n E [(2, iv 0), (0, .ref (ad 0)), (1, iv x1)] gdX12_isVoidTaking_1 rfl (by decide) rfl ?_
  refine g_iconst E gdX12_isVoidTaking_2 ?_
  refine g_istore_n E [(3, iv 0), (2, iv 0), (0, .ref (ad 0)), (1, iv x1)] gdX12_isVoidTaking_3 rfl (by decide) rfl ?_
  refine g_sub E [2, 3, 1, 0] rfl ?_
  exact j4 x1 0 0 h
set_option maxHeartbeats 4000000 in
set_option maxRecDepth 100000 in
theorem c_X12_isVoid (l : Launch) (g : GG) (ad : Nat → Nat) (o : OO) (x1 : Int) (v : Int × OO) (h : s_X12_isVoid o x1 = some v) : CI l g yX12_isVoid cX12_isVoid 2 (some .int) 4 94 (wM g ad o) [.ref (ad 0), iv x1] v.1 (wM g ad v.2) := by
  refine met_I (by decide) (Nat.le_of_ble_eq_true rfl) ?_
  intro X E hQ
  show Go X 0 (wM g ad o) [(0, .ref (ad 0)), (1, iv x1)] []
  have j72 : ∀ (o : OO) (y0 : Int), b_X12_isVoid_72 o y0 = some v → Go X 72 (wM g ad o) [] [iv y0] := by
    intro o y0 h
    unfold b_X12_isVoid_72 at h
    exact g_iret E hQ (by rw [← Option.some.inj h]) (by rw [← Option.some.inj h]) gdX12_isVoid_72
  have j67 : ∀ (o : OO), b_X12_isVoid_67 o = some v → Go X 67 (wM g ad o) [] [] := by
    intro o h
    unfold b_X12_isVoid_67 at h
    refine g_iconst E gdX12_isVoid_67 ?_
    refine g_goto E 72 gdX12_isVoid_68 (by decide) ?_
    exact j72 o 1 h
  have j71 : ∀ (o : OO), b_X12_isVoid_71 o = some v → Go X 71 (wM g ad o) [] [] := by
    intro o h
    unfold b_X12_isVoid_71 at h
    refine g_iconst E gdX12_isVoid_71 ?_
    exact j72 o 0 h
  have j37 : ∀ (o : OO) (x1 : Int), b_X12_isVoid_37 o x1 = some v → Go X 37 (wM g ad o) [(0, .ref (ad 0)), (1, iv x1)] [] := by
    intro o x1 h
    unfold b_X12_isVoid_37 at h
    refine g_aload_n E gdX12_isVoid_37 rfl 0 rfl ?_
    refine g_get (T := TX12) E fw_X12 0 (wM_0 g ad o) rfl 33 (by decide) w_1499 rfl rfl gdX12_isVoid_38 ?_
    refine g_iload_n E gdX12_isVoid_41 rfl 1 rfl ?_
    obtain ⟨hi1, h⟩ := qIn_of h
    refine g_iald E 25 (wM_25 g ad o) (by decide) hi1 gdX12_isVoid_42 ?_
    obtain ⟨n2, e_n2, h⟩ := qNm_of h
    refine g_nmi e_n2 ?_
    refine g_bipush E gdX12_isVoid_43 (by decide) ?_
    refine g_icmp_ne E 59 gdX12_isVoid_45 (by decide) h (fun h => ?_) (fun h => ?_)
    ·
      refine g_aload_n E gdX12_isVoid_59 rfl 0 rfl ?_
      refine g_iload_n E gdX12_isVoid_60 rfl 1 rfl ?_
      obtain ⟨r3, hc4, h⟩ := qB_of h
      refine g_Vi (r := r3) (As := [iv x1]) (rest := []) (w := wM g ad o) E (c_X12_isVoidTaking l g ad o x1 r3 hc4) okm_X12_isVoidTaking okw_X12_isVoidTaking w_2058 rfl (wM_0 g ad o) rfl rfl (Nat.le_of_ble_eq_true rfl) ⟨Nat.le_of_ble_eq_true rfl, Nat.le_of_ble_eq_true rfl⟩ gdX12_isVoid_61 ?_
      refine g_if_eq E 71 gdX12_isVoid_64 (by decide) h (fun h => ?_) (fun h => ?_)
      ·
        refine g_sub E [] rfl ?_
        exact j71 o h
      ·
        refine g_sub E [] rfl ?_
        exact j67 o h
    ·
      refine g_aload_n E gdX12_isVoid_48 rfl 0 rfl ?_
      refine g_iload_n E gdX12_isVoid_49 rfl 1 rfl ?_
      obtain ⟨r5, hc6, h⟩ := qB_of h
      refine g_Vi (r := r5) (As := [iv x1]) (rest := []) (w := wM g ad o) E (c_X12_isVoidHearing l g ad o x1 r5 hc6) okm_X12_isVoidHearing okw_X12_isVoidHearing w_2054 rfl (wM_0 g ad o) rfl rfl (Nat.le_of_ble_eq_true rfl) ⟨Nat.le_of_ble_eq_true rfl, Nat.le_of_ble_eq_true rfl⟩ gdX12_isVoid_50 ?_
      refine g_if_eq E 71 gdX12_isVoid_53 (by decide) h (fun h => ?_) (fun h => ?_)
      ·
        refine g_sub E [] rfl ?_
        exact j71 o h
      ·
        refine g_goto E 67 gdX12_isVoid_56 (by decide) ?_
        refine g_sub E [] rfl ?_
        exact j67 o h
  unfold s_X12_isVoid at h
  refine g_aload_n E gdX12_isVoid_0 rfl 0 rfl ?_
  refine g_iload_n E gdX12_isVoid_1 rfl 1 rfl ?_
  obtain ⟨r7, hc8, h⟩ := qB_of h
  refine g_Vi (r := r7) (As := [iv x1]) (rest := []) (w := wM g ad o) E (c_X12_isMark l g ad o x1 r7 hc8) okm_X12_isMark okw_X12_isMark w_1903 rfl (wM_0 g ad o) rfl rfl (Nat.le_of_ble_eq_true rfl) ⟨Nat.le_of_ble_eq_true rfl, Nat.le_of_ble_eq_true rfl⟩ gdX12_isVoid_2 ?_
  refine g_if_ne E 10 gdX12_isVoid_5 (by decide) h (fun h => ?_) (fun h => ?_)
  ·
    refine g_aload_n E gdX12_isVoid_10 rfl 0 rfl ?_
    refine g_get (T := TX12) E fw_X12 0 (wM_0 g ad o) rfl 33 (by decide) w_1499 rfl rfl gdX12_isVoid_11 ?_
    refine g_iload_n E gdX12_isVoid_14 rfl 1 rfl ?_
    obtain ⟨hi9, h⟩ := qIn_of h
    refine g_iald E 25 (wM_25 g ad o) (by decide) hi9 gdX12_isVoid_15 ?_
    obtain ⟨n10, e_n10, h⟩ := qNm_of h
    refine g_nmi e_n10 ?_
    refine g_bipush E gdX12_isVoid_16 (by decide) ?_
    refine g_icmp_eq E 37 gdX12_isVoid_18 (by decide) h (fun h => ?_) (fun h => ?_)
    ·
      exact j37 o x1 h
    ·
      refine g_aload_n E gdX12_isVoid_21 rfl 0 rfl ?_
      refine g_get (T := TX12) E fw_X12 0 (wM_0 g ad o) rfl 33 (by decide) w_1499 rfl rfl gdX12_isVoid_22 ?_
      refine g_iload_n E gdX12_isVoid_25 rfl 1 rfl ?_
      obtain ⟨hi11, h⟩ := qIn_of h
      refine g_iald E 25 (wM_25 g ad o) (by decide) hi11 gdX12_isVoid_26 ?_
      obtain ⟨n12, e_n12, h⟩ := qNm_of h
      refine g_nmi e_n12 ?_
      refine g_iconst E gdX12_isVoid_27 ?_
      refine g_icmp_eq E 37 gdX12_isVoid_28 (by decide) h (fun h => ?_) (fun h => ?_)
      ·
        exact j37 o x1 h
      ·
        refine g_aload_n E gdX12_isVoid_31 rfl 0 rfl ?_
        refine g_iconst E gdX12_isVoid_32 ?_
        obtain ⟨r13, o15, hc14, h⟩ := qB2_of h
        refine g_Vi (r := r13) (As := [iv 3]) (rest := []) (w := wM g ad o15) E (c_X12_meets l g ad o 3 (r13, o15) hc14) okm_X12_meets okw_X12_meets w_1708 rfl (wM_0 g ad o) rfl rfl (Nat.le_of_ble_eq_true rfl) ⟨Nat.le_of_ble_eq_true rfl, Nat.le_of_ble_eq_true rfl⟩ gdX12_isVoid_33 ?_
        exact g_iret E hQ (by rw [← Option.some.inj h]) (by rw [← Option.some.inj h]) gdX12_isVoid_36
  ·
    refine g_iconst E gdX12_isVoid_8 ?_
    exact g_iret E hQ (by rw [← Option.some.inj h]) (by rw [← Option.some.inj h]) gdX12_isVoid_9
set_option maxHeartbeats 4000000 in
set_option maxRecDepth 100000 in
theorem c_X12_judge (l : Launch) (g : GG) (ad : Nat → Nat) (o : OO) (x1 : Int) (x2 : Int) (x3 : Int) (v : Int × OO) (h : s_X12_judge o x1 x2 x3 = some v) : CI l g yX12_judge cX12_judge 5 (some .int) 5 125 (wM g ad o) [.ref (ad 0), iv x1, iv x2, iv x3] v.1 (wM g ad v.2) := by
  refine met_I (by decide) (Nat.le_of_ble_eq_true rfl) ?_
  intro X E hQ
  show Go X 0 (wM g ad o) [(0, .ref (ad 0)), (1, iv x1), (2, iv x2), (3, iv x3)] []
  have j22 : ∀ (o : OO), b_X12_judge_22 o = some v → Go X 22 (wM g ad o) [] [] := by
    intro o h
    unfold b_X12_judge_22 at h
    refine g_iconst E gdX12_judge_22 ?_
    exact g_iret E hQ (by rw [← Option.some.inj h]) (by rw [← Option.some.inj h]) gdX12_judge_23
  have j68 : ∀ (o : OO) (y0 : Int), b_X12_judge_68 o y0 = some v → Go X 68 (wM g ad o) [] [iv y0] := by
    intro o y0 h
    unfold b_X12_judge_68 at h
    exact g_iret E hQ (by rw [← Option.some.inj h]) (by rw [← Option.some.inj h]) gdX12_judge_68
  unfold s_X12_judge at h
  refine g_aload_n E gdX12_judge_0 rfl 0 rfl ?_
  refine g_iload_n E gdX12_judge_1 rfl 1 rfl ?_
  obtain ⟨r1, hc2, h⟩ := qB_of h
  refine g_Vi (r := r1) (As := [iv x1]) (rest := []) (w := wM g ad o) E (c_X12_isMark l g ad o x1 r1 hc2) okm_X12_isMark okw_X12_isMark w_1903 rfl (wM_0 g ad o) rfl rfl (Nat.le_of_ble_eq_true rfl) ⟨Nat.le_of_ble_eq_true rfl, Nat.le_of_ble_eq_true rfl⟩ gdX12_judge_2 ?_
  refine g_if_eq E 22 gdX12_judge_5 (by decide) h (fun h => ?_) (fun h => ?_)
  ·
    refine g_sub E [] rfl ?_
    exact j22 o h
  ·
    refine g_iload_n E gdX12_judge_8 rfl 2 rfl ?_
    obtain ⟨r3, hc4, h⟩ := qB_of h
    refine g_Si (r := r3) (As := [iv x2]) (rest := []) (w := wM g ad o) E (c_X12_isRow l g (wM g ad o) x2 r3 hc4) okm_X12_isRow w_1703 w_1702 rfl rfl (Nat.le_of_ble_eq_true rfl) ⟨Nat.le_of_ble_eq_true rfl, Nat.le_of_ble_eq_true rfl⟩ gdX12_judge_9 ?_
    refine g_if_eq E 22 gdX12_judge_12 (by decide) h (fun h => ?_) (fun h => ?_)
    ·
      refine g_sub E [] rfl ?_
      exact j22 o h
    ·
      refine g_iload_n E gdX12_judge_15 rfl 3 rfl ?_
      obtain ⟨r5, hc6, h⟩ := qB_of h
      refine g_Si (r := r5) (As := [iv x3]) (rest := []) (w := wM g ad o) E (c_X12_isRow l g (wM g ad o) x3 r5 hc6) okm_X12_isRow w_1703 w_1702 rfl rfl (Nat.le_of_ble_eq_true rfl) ⟨Nat.le_of_ble_eq_true rfl, Nat.le_of_ble_eq_true rfl⟩ gdX12_judge_16 ?_
      refine g_if_ne E 24 gdX12_judge_19 (by decide) h (fun h => ?_) (fun h => ?_)
      ·
        refine g_aload_n E gdX12_judge_24 rfl 0 rfl ?_
        refine g_iload_n E gdX12_judge_25 rfl 1 rfl ?_
        obtain ⟨r7, hc8, h⟩ := qB_of h
        refine g_Vi (r := r7) (As := [iv x1]) (rest := []) (w := wM g ad o) E (c_X12_isLine l g ad o x1 r7 hc8) okm_X12_isLine okw_X12_isLine w_1907 rfl (wM_0 g ad o) rfl rfl (Nat.le_of_ble_eq_true rfl) ⟨Nat.le_of_ble_eq_true rfl, Nat.le_of_ble_eq_true rfl⟩ gdX12_judge_26 ?_
        refine g_if_ne E 38 gdX12_judge_29 (by decide) h (fun h => ?_) (fun h => ?_)
        ·
          refine g_aload_n E gdX12_judge_38 rfl 0 rfl ?_
          refine g_iload_n E gdX12_judge_39 rfl 2 rfl ?_
          refine g_iload_n E gdX12_judge_40 rfl 3 rfl ?_
          obtain ⟨r9, o11, hc10, h⟩ := qB2_of h
          refine g_Vi (r := r9) (As := [iv x2, iv x3]) (rest := []) (w := wM g ad o11) E (c_X12_askedWeights l g ad o x2 x3 (r9, o11) hc10) okm_X12_askedWeights okw_X12_askedWeights w_2110 rfl (wM_0 g ad o) rfl rfl (Nat.le_of_ble_eq_true rfl) ⟨Nat.le_of_ble_eq_true rfl, Nat.le_of_ble_eq_true rfl⟩ gdX12_judge_41 ?_
          refine g_istore E [(4, iv r9), (0, .ref (ad 0)), (1, iv x1), (2, iv x2), (3, iv x3)] gdX12_judge_44 (by decide) rfl ?_
          refine g_iload E gdX12_judge_46 0 rfl ?_
          refine g_if_ge E 56 gdX12_judge_48 (by decide) h (fun h => ?_) (fun h => ?_)
          ·
            refine g_aload_n E gdX12_judge_56 rfl 1 rfl ?_
            refine g_aload_n E gdX12_judge_57 rfl 1 rfl ?_
            refine g_iload_n E gdX12_judge_58 rfl 2 rfl ?_
            refine g_iload_n E gdX12_judge_59 rfl 3 rfl ?_
            refine g_iload_n E gdX12_judge_60 rfl 4 rfl ?_
            obtain ⟨r12, hc13, h⟩ := qB_of h
            refine g_Vi (r := r12) (As := [iv x1, iv x2, iv x3]) (rest := [.ref (ad 0)]) (w := wM g ad o11) E (c_X12_judged l g ad o11 x1 x2 x3 r12 hc13) okm_X12_judged okw_X12_judged w_2114 rfl (wM_0 g ad o11) rfl rfl (Nat.le_of_ble_eq_true rfl) ⟨Nat.le_of_ble_eq_true rfl, Nat.le_of_ble_eq_true rfl⟩ gdX12_judge_61 ?_
            refine g_iconst E gdX12_judge_64 ?_
            obtain ⟨r14, o16, hc15, h⟩ := qB2_of h
            refine g_Vi (r := r14) (As := [iv r12, iv 1]) (rest := []) (w := wM g ad o16) E (c_X12_ask l g ad o11 r12 1 (r14, o16) hc15) okm_X12_ask okw_X12_ask w_1835 rfl (wM_0 g ad o11) rfl rfl (Nat.le_of_ble_eq_true rfl) ⟨Nat.le_of_ble_eq_true rfl, Nat.le_of_ble_eq_true rfl⟩ gdX12_judge_65 ?_
            refine g_sub E [] rfl ?_
            exact j68 o16 r14 h
          ·
            refine g_iload E gdX12_judge_51 0 rfl ?_
            refine g_goto E 68 gdX12_judge_53 (by decide) ?_
            refine g_sub E [] rfl ?_
            exact j68 o11 r9 h
        ·
          refine g_aload_n E gdX12_judge_32 rfl 0 rfl ?_
          refine g_iconst E gdX12_judge_33 ?_
          obtain ⟨r17, o19, hc18, h⟩ := qB2_of h
          refine g_Vi (r := r17) (As := [iv 3]) (rest := []) (w := wM g ad o19) E (c_X12_meets l g ad o 3 (r17, o19) hc18) okm_X12_meets okw_X12_meets w_1708 rfl (wM_0 g ad o) rfl rfl (Nat.le_of_ble_eq_true rfl) ⟨Nat.le_of_ble_eq_true rfl, Nat.le_of_ble_eq_true rfl⟩ gdX12_judge_34 ?_
          exact g_iret E hQ (by rw [← Option.some.inj h]) (by rw [← Option.some.inj h]) gdX12_judge_37
      ·
        refine g_sub E [] rfl ?_
        exact j22 o h
set_option maxHeartbeats 4000000 in
set_option maxRecDepth 100000 in
theorem c_X12_later (l : Launch) (g : GG) (ad : Nat → Nat) (o : OO) (x1 : Int) (v : Int × OO) (h : s_X12_later o x1 = some v) : CI l g yX12_later cX12_later 2 (some .int) 0 0 (wM g ad o) [.ref (ad 0), iv x1] v.1 (wM g ad v.2) := by
  refine met_I (by decide) (Nat.le_of_ble_eq_true rfl) ?_
  intro X E hQ
  show Go X 0 (wM g ad o) [(0, .ref (ad 0)), (1, iv x1)] []
  have j16 : ∀ (o : OO), b_X12_later_16 o = some v → Go X 16 (wM g ad o) [] [] := by
    intro o h
    unfold b_X12_later_16 at h
    refine g_iconst E gdX12_later_16 ?_
    exact g_iret E hQ (by rw [← Option.some.inj h]) (by rw [← Option.some.inj h]) gdX12_later_17
  unfold s_X12_later at h
  refine g_iload_n E gdX12_later_0 rfl 1 rfl ?_
  refine g_if_lt E 16 gdX12_later_1 (by decide) h (fun h => ?_) (fun h => ?_)
  ·
    refine g_sub E [] rfl ?_
    exact j16 o h
  ·
    refine g_iload_n E gdX12_later_4 rfl 1 rfl ?_
    refine g_sipush E gdX12_later_5 (by decide) ?_
    refine g_aload_n E gdX12_later_8 rfl 0 rfl ?_
    refine g_get (T := TX12) E fw_X12 0 (wM_0 g ad o) rfl 4 (by decide) w_1470 rfl rfl gdX12_later_9 ?_
    refine g_isub E gdX12_later_12 ?_
    refine g_icmp_le E 18 gdX12_later_13 (by decide) h (fun h => ?_) (fun h => ?_)
    ·
      refine g_aload_n E gdX12_later_18 rfl 0 rfl ?_
      refine g_dup E gdX12_later_19 rfl ?_
      refine g_get (T := TX12) E fw_X12 0 (wM_0 g ad o) rfl 4 (by decide) w_1470 rfl rfl gdX12_later_20 ?_
      refine g_iload_n E gdX12_later_23 rfl 1 rfl ?_
      refine g_iadd E gdX12_later_24 ?_
      obtain ⟨o1, e_o1, h⟩ := qNm_of h
      refine g_puti (T := TX12) (ws' := wM g ad o1) E fw_X12 tyX12 tyX12_ok nmX12 0 (wM_0 g ad o) rfl 4 (by decide) w_1470 rfl rfl (by decide +kernel) (Nat.le_of_ble_eq_true rfl) (by rw [e_o1]; exact wM_p0_4 g ad o _) gdX12_later_25 ?_
      refine g_aload_n E gdX12_later_28 rfl 0 rfl ?_
      refine g_get (T := TX12) E fw_X12 0 (wM_0 g ad o1) rfl 4 (by decide) w_1470 rfl rfl gdX12_later_29 ?_
      exact g_iret E hQ (by rw [← Option.some.inj h]) (by rw [← Option.some.inj h]) gdX12_later_32
    ·
      refine g_sub E [] rfl ?_
      exact j16 o h
set_option maxHeartbeats 4000000 in
set_option maxRecDepth 100000 in
theorem c_X12_lay (l : Launch) (g : GG) (ad : Nat → Nat) (o : OO) (x1 : Int) (x2 : Int) (x3 : Int) (v : Int × OO) (h : s_X12_lay o x1 x2 x3 = some v) : CI l g yX12_lay cX12_lay 5 (some .int) 3 63 (wM g ad o) [.ref (ad 0), iv x1, iv x2, iv x3] v.1 (wM g ad v.2) := by
  refine met_I (by decide) (Nat.le_of_ble_eq_true rfl) ?_
  intro X E hQ
  show Go X 0 (wM g ad o) [(0, .ref (ad 0)), (1, iv x1), (2, iv x2), (3, iv x3)] []
  unfold s_X12_lay at h
  refine g_aload_n E gdX12_lay_0 rfl 0 rfl ?_
  refine g_iload_n E gdX12_lay_1 rfl 1 rfl ?_
  obtain ⟨r1, o3, hc2, h⟩ := qB2_of h
  refine g_Vi (r := r1) (As := [iv x1]) (rest := []) (w := wM g ad o3) E (c_X12_askedRow l g ad o x1 (r1, o3) hc2) okm_X12_askedRow okw_X12_askedRow w_1716 rfl (wM_0 g ad o) rfl rfl (Nat.le_of_ble_eq_true rfl) ⟨Nat.le_of_ble_eq_true rfl, Nat.le_of_ble_eq_true rfl⟩ gdX12_lay_2 ?_
  refine g_istore E [(4, iv r1), (0, .ref (ad 0)), (1, iv x1), (2, iv x2), (3, iv x3)] gdX12_lay_5 (by decide) rfl ?_
  refine g_iload E gdX12_lay_7 0 rfl ?_
  refine g_if_ge E 15 gdX12_lay_9 (by decide) h (fun h => ?_) (fun h => ?_)
  ·
    refine g_iload_n E gdX12_lay_15 rfl 3 rfl ?_
    refine g_iconst E gdX12_lay_16 ?_
    refine g_aload_n E gdX12_lay_17 rfl 1 rfl ?_
    refine g_get (T := TX12) E fw_X12 0 (wM_0 g ad o3) rfl 5 (by decide) w_1471 rfl rfl gdX12_lay_18 ?_
    refine g_iload_n E gdX12_lay_21 rfl 2 rfl ?_
    obtain ⟨hi4, h⟩ := qIn_of h
    refine g_iald E 2 (wM_2 g ad o3) (by decide) hi4 gdX12_lay_22 ?_
    obtain ⟨n5, e_n5, h⟩ := qNm_of h
    refine g_nmi e_n5 ?_
    refine g_iconst E gdX12_lay_23 ?_
    refine g_isub E gdX12_lay_24 ?_
    obtain ⟨r6, hc7, h⟩ := qB_of h
    refine g_Si (r := r6) (As := [iv x2, iv 0, iv (n5 - 1)]) (rest := []) (w := wM g ad o3) E (c_X12_in l g (wM g ad o3) x2 0 (n5 - 1) r6 hc7) okm_X12_in w_1706 w_1705 rfl rfl (Nat.le_of_ble_eq_true rfl) ⟨Nat.le_of_ble_eq_true rfl, Nat.le_of_ble_eq_true rfl⟩ gdX12_lay_25 ?_
    refine g_if_ne E 37 gdX12_lay_28 (by decide) h (fun h => ?_) (fun h => ?_)
    ·
      refine g_aload_n E gdX12_lay_37 rfl 1 rfl ?_
      refine g_aload_n E gdX12_lay_38 rfl 1 rfl ?_
      refine g_get (T := TX12) E fw_X12 0 (wM_0 g ad o3) rfl 6 (by decide) w_1472 rfl rfl gdX12_lay_39 ?_
      refine g_bipush E gdX12_lay_42 (by decide) ?_
      refine g_iload_n E gdX12_lay_44 rfl 2 rfl ?_
      refine g_imul E gdX12_lay_45 ?_
      refine g_iload_n E gdX12_lay_46 rfl 3 rfl ?_
      refine g_iadd E gdX12_lay_47 ?_
      obtain ⟨hi8, h⟩ := qIn_of h
      refine g_iald E 3 (wM_3 g ad o3) (by decide) hi8 gdX12_lay_48 ?_
      obtain ⟨n9, e_n9, h⟩ := qNm_of h
      refine g_nmi e_n9 ?_
      obtain ⟨o10, e_o10, h⟩ := qNm_of h
      refine g_puti (T := TX12) (ws' := wM g ad o10) E fw_X12 tyX12 tyX12_ok nmX12 0 (wM_0 g ad o3) rfl 2 (by decide) w_1468 rfl rfl (by decide +kernel) (Nat.le_of_ble_eq_true rfl) (by rw [e_o10]; exact wM_p0_2 g ad o3 _) gdX12_lay_49 ?_
      refine g_aload_n E gdX12_lay_52 rfl 1 rfl ?_
      refine g_get (T := TX12) E fw_X12 0 (wM_0 g ad o10) rfl 6 (by decide) w_1472 rfl rfl gdX12_lay_53 ?_
      refine g_bipush E gdX12_lay_56 (by decide) ?_
      refine g_iload_n E gdX12_lay_58 rfl 2 rfl ?_
      refine g_imul E gdX12_lay_59 ?_
      refine g_iload_n E gdX12_lay_60 rfl 3 rfl ?_
      refine g_iadd E gdX12_lay_61 ?_
      refine g_iload_n E gdX12_lay_62 rfl 4 rfl ?_
      obtain ⟨hi11, h⟩ := qIn_of h
      obtain ⟨o12, e_o12, h⟩ := qNm_of h
      refine g_iast (ws' := wM g ad o12) E 3 (wM_3 g ad o10) (by decide) hi11 (by rw [e_o12]; exact wM_s3 g ad o10 _ _) gdX12_lay_63 ?_
      refine g_iconst E gdX12_lay_64 ?_
      exact g_iret E hQ (by rw [← Option.some.inj h]) (by rw [← Option.some.inj h]) gdX12_lay_65
    ·
      refine g_aload_n E gdX12_lay_31 rfl 1 rfl ?_
      refine g_iconst E gdX12_lay_32 ?_
      obtain ⟨r13, o15, hc14, h⟩ := qB2_of h
      refine g_Vi (r := r13) (As := [iv 2]) (rest := []) (w := wM g ad o15) E (c_X12_meets l g ad o3 2 (r13, o15) hc14) okm_X12_meets okw_X12_meets w_1708 rfl (wM_0 g ad o3) rfl rfl (Nat.le_of_ble_eq_true rfl) ⟨Nat.le_of_ble_eq_true rfl, Nat.le_of_ble_eq_true rfl⟩ gdX12_lay_33 ?_
      exact g_iret E hQ (by rw [← Option.some.inj h]) (by rw [← Option.some.inj h]) gdX12_lay_36
  ·
    refine g_iload E gdX12_lay_12 0 rfl ?_
    exact g_iret E hQ (by rw [← Option.some.inj h]) (by rw [← Option.some.inj h]) gdX12_lay_14
set_option maxHeartbeats 4000000 in
set_option maxRecDepth 100000 in
theorem c_X12_costOf (l : Launch) (g : GG) (ad : Nat → Nat) (o : OO) (x1 : Int) (x2 : Int) (v : Int) (h : s_X12_costOf o x1 x2 = some v) : CI l g yX12_costOf cX12_costOf 4 (some .int) 1 24 (wM g ad o) [.ref (ad 0), iv x1, iv x2] v (wM g ad o) := by
  refine met_I (by decide) (Nat.le_of_ble_eq_true rfl) ?_
  intro X E hQ
  show Go X 0 (wM g ad o) [(0, .ref (ad 0)), (1, iv x1), (2, iv x2)] []
  have j42 : ∀ (y0 : Int) (y1 : Int), b_X12_costOf_42 o y0 y1 = some v → Go X 42 (wM g ad o) [] [iv y1, iv y0] := by
    intro y0 y1 h
    unfold b_X12_costOf_42 at h
    refine g_iadd E gdX12_costOf_42 ?_
    exact g_iret E hQ (Option.some.inj h) rfl gdX12_costOf_43
  unfold s_X12_costOf at h
  refine g_aload_n E gdX12_costOf_0 rfl 0 rfl ?_
  refine g_iload_n E gdX12_costOf_1 rfl 1 rfl ?_
  obtain ⟨r1, hc2, h⟩ := qB_of h
  refine g_Vi (r := r1) (As := [iv x1]) (rest := []) (w := wM g ad o) E (c_X12_on l g ad o x1 r1 hc2) okm_X12_on okw_X12_on w_1791 rfl (wM_0 g ad o) rfl rfl (Nat.le_of_ble_eq_true rfl) ⟨Nat.le_of_ble_eq_true rfl, Nat.le_of_ble_eq_true rfl⟩ gdX12_costOf_2 ?_
  refine g_istore_n E [(3, iv r1), (0, .ref (ad 0)), (1, iv x1), (2, iv x2)] gdX12_costOf_5 rfl (by decide) rfl ?_
  refine g_aload_n E gdX12_costOf_6 rfl 1 rfl ?_
  refine g_get (T := TX12) E fw_X12 0 (wM_0 g ad o) rfl 6 (by decide) w_1472 rfl rfl gdX12_costOf_7 ?_
  refine g_bipush E gdX12_costOf_10 (by decide) ?_
  refine g_iload_n E gdX12_costOf_12 rfl 3 rfl ?_
  refine g_imul E gdX12_costOf_13 ?_
  refine g_aload_n E gdX12_costOf_14 rfl 1 rfl ?_
  refine g_get (T := TX12) E fw_X12 0 (wM_0 g ad o) rfl 15 (by decide) w_1481 rfl rfl gdX12_costOf_15 ?_
  refine g_iload_n E gdX12_costOf_18 rfl 2 rfl ?_
  obtain ⟨hi3, h⟩ := qIn_of h
  refine g_iald E 11 (wM_11 g ad o) (by decide) hi3 gdX12_costOf_19 ?_
  obtain ⟨n4, e_n4, h⟩ := qNm_of h
  refine g_nmi e_n4 ?_
  refine g_iadd E gdX12_costOf_20 ?_
  obtain ⟨hi5, h⟩ := qIn_of h
  refine g_iald E 3 (wM_3 g ad o) (by decide) hi5 gdX12_costOf_21 ?_
  obtain ⟨n6, e_n6, h⟩ := qNm_of h
  refine g_nmi e_n6 ?_
  refine g_iload_n E gdX12_costOf_22 rfl 0 rfl ?_
  refine g_if_ge E 30 gdX12_costOf_23 (by decide) h (fun h => ?_) (fun h => ?_)
  ·
    refine g_aload_n E gdX12_costOf_30 rfl 1 rfl ?_
    refine g_iload_n E gdX12_costOf_31 rfl 0 rfl ?_
    refine g_aload_n E gdX12_costOf_32 rfl 1 rfl ?_
    refine g_get (T := TX12) E fw_X12 0 (wM_0 g ad o) rfl 4 (by decide) w_1470 rfl rfl gdX12_costOf_33 ?_
    obtain ⟨r7, hc8, h⟩ := qB_of h
    refine g_Vi (r := r7) (As := [iv r1, iv (o.1 0 4)]) (rest := [iv n6]) (w := wM g ad o) E (c_X12_valueOf l g ad o r1 (o.1 0 4) r7 hc8) okm_X12_valueOf okw_X12_valueOf w_1815 rfl (wM_0 g ad o) rfl rfl (Nat.le_of_ble_eq_true rfl) ⟨Nat.le_of_ble_eq_true rfl, Nat.le_of_ble_eq_true rfl⟩ gdX12_costOf_36 ?_
    refine g_bipush E gdX12_costOf_39 (by decide) ?_
    obtain ⟨hd9, h⟩ := qDv_of h
    refine g_idiv E hd9 gdX12_costOf_41 ?_
    refine g_sub E [] rfl ?_
    exact j42 n6 (jq r7 100) h
  ·
    refine g_iconst E gdX12_costOf_26 ?_
    refine g_goto E 42 gdX12_costOf_27 (by decide) ?_
    refine g_sub E [] rfl ?_
    exact j42 n6 0 h
set_option maxHeartbeats 4000000 in
set_option maxRecDepth 100000 in
theorem c_X12_slope (l : Launch) (g : GG) (ad : Nat → Nat) (o : OO) (x1 : Int) (x2 : Int) (v : Int) (h : s_X12_slope o x1 x2 = some v) : CI l g yX12_slope cX12_slope 4 (some .int) 0 0 (wM g ad o) [.ref (ad 0), iv x1, iv x2] v (wM g ad o) := by
  refine met_I (by decide) (Nat.le_of_ble_eq_true rfl) ?_
  intro X E hQ
  show Go X 0 (wM g ad o) [(0, .ref (ad 0)), (1, iv x1), (2, iv x2)] []
  have j24 : ∀ (y0 : Int), b_X12_slope_24 o y0 = some v → Go X 24 (wM g ad o) [] [iv y0] := by
    intro y0 h
    unfold b_X12_slope_24 at h
    exact g_iret E hQ (Option.some.inj h) rfl gdX12_slope_24
  unfold s_X12_slope at h
  refine g_aload_n E gdX12_slope_0 rfl 0 rfl ?_
  refine g_get (T := TX12) E fw_X12 0 (wM_0 g ad o) rfl 16 (by decide) w_1482 rfl rfl gdX12_slope_1 ?_
  refine g_iload_n E gdX12_slope_4 rfl 1 rfl ?_
  obtain ⟨hi1, h⟩ := qIn_of h
  refine g_iald E 12 (wM_12 g ad o) (by decide) hi1 gdX12_slope_5 ?_
  obtain ⟨n2, e_n2, h⟩ := qNm_of h
  refine g_nmi e_n2 ?_
  refine g_aload_n E gdX12_slope_6 rfl 0 rfl ?_
  refine g_get (T := TX12) E fw_X12 0 (wM_0 g ad o) rfl 16 (by decide) w_1482 rfl rfl gdX12_slope_7 ?_
  refine g_iload_n E gdX12_slope_10 rfl 2 rfl ?_
  obtain ⟨hi3, h⟩ := qIn_of h
  refine g_iald E 12 (wM_12 g ad o) (by decide) hi3 gdX12_slope_11 ?_
  obtain ⟨n4, e_n4, h⟩ := qNm_of h
  refine g_nmi e_n4 ?_
  refine g_isub E gdX12_slope_12 ?_
  obtain ⟨n5, e_n5, h⟩ := qNm_of h
  refine g_nmi e_n5 ?_
  refine g_istore_n E [(3, iv n5), (0, .ref (ad 0)), (1, iv x1), (2, iv x2)] gdX12_slope_13 rfl (by decide) rfl ?_
  refine g_iload_n E gdX12_slope_14 rfl 0 rfl ?_
  refine g_if_ge E 23 gdX12_slope_15 (by decide) h (fun h => ?_) (fun h => ?_)
  ·
    refine g_iload_n E gdX12_slope_23 rfl 0 rfl ?_
    refine g_sub E [] rfl ?_
    exact j24 n5 h
  ·
    refine g_iload_n E gdX12_slope_18 rfl 0 rfl ?_
    refine g_ineg E gdX12_slope_19 ?_
    refine g_goto E 24 gdX12_slope_20 (by decide) ?_
    refine g_sub E [] rfl ?_
    exact j24 (-n5) h
set_option maxHeartbeats 4000000 in
set_option maxRecDepth 100000 in
theorem c_X12_leads (l : Launch) (g : GG) (ad : Nat → Nat) (o : OO) (x1 : Int) (x2 : Int) (x3 : Int) (v : Int) (h : s_X12_leads o x1 x2 x3 = some v) : CI l g yX12_leads cX12_leads 4 (some .boolean) 1 23 (wM g ad o) [.ref (ad 0), iv x1, iv x2, iv x3] v (wM g ad o) := by
  refine met_I (by decide) (Nat.le_of_ble_eq_true rfl) ?_
  intro X E hQ
  show Go X 0 (wM g ad o) [(0, .ref (ad 0)), (1, iv x1), (2, iv x2), (3, iv x3)] []
  have j39 : ∀ (y0 : Int), b_X12_leads_39 o y0 = some v → Go X 39 (wM g ad o) [] [iv y0] := by
    intro y0 h
    unfold b_X12_leads_39 at h
    obtain ⟨hz, h⟩ := qZ_of h
    exact g_zret E hQ hz (Option.some.inj h) rfl gdX12_leads_39
  have j38 : b_X12_leads_38 o = some v → Go X 38 (wM g ad o) [] [] := by
    intro h
    unfold b_X12_leads_38 at h
    refine g_iconst E gdX12_leads_38 ?_
    exact j39 0 h
  unfold s_X12_leads at h
  refine g_iload_n E gdX12_leads_0 rfl 2 rfl ?_
  refine g_if_lt E 38 gdX12_leads_1 (by decide) h (fun h => ?_) (fun h => ?_)
  ·
    refine g_sub E [] rfl ?_
    exact j38  h
  ·
    refine g_aload_n E gdX12_leads_4 rfl 0 rfl ?_
    refine g_get (T := TX12) E fw_X12 0 (wM_0 g ad o) rfl 15 (by decide) w_1481 rfl rfl gdX12_leads_5 ?_
    refine g_iload_n E gdX12_leads_8 rfl 1 rfl ?_
    obtain ⟨hi1, h⟩ := qIn_of h
    refine g_iald E 11 (wM_11 g ad o) (by decide) hi1 gdX12_leads_9 ?_
    obtain ⟨n2, e_n2, h⟩ := qNm_of h
    refine g_nmi e_n2 ?_
    refine g_iconst E gdX12_leads_10 ?_
    refine g_icmp_eq E 38 gdX12_leads_11 (by decide) h (fun h => ?_) (fun h => ?_)
    ·
      refine g_sub E [] rfl ?_
      exact j38  h
    ·
      refine g_aload_n E gdX12_leads_14 rfl 0 rfl ?_
      refine g_get (T := TX12) E fw_X12 0 (wM_0 g ad o) rfl 15 (by decide) w_1481 rfl rfl gdX12_leads_15 ?_
      refine g_iload_n E gdX12_leads_18 rfl 2 rfl ?_
      obtain ⟨hi3, h⟩ := qIn_of h
      refine g_iald E 11 (wM_11 g ad o) (by decide) hi3 gdX12_leads_19 ?_
      obtain ⟨n4, e_n4, h⟩ := qNm_of h
      refine g_nmi e_n4 ?_
      refine g_iconst E gdX12_leads_20 ?_
      refine g_icmp_eq E 38 gdX12_leads_21 (by decide) h (fun h => ?_) (fun h => ?_)
      ·
        refine g_sub E [] rfl ?_
        exact j38  h
      ·
        refine g_aload_n E gdX12_leads_24 rfl 0 rfl ?_
        refine g_iload_n E gdX12_leads_25 rfl 1 rfl ?_
        refine g_iload_n E gdX12_leads_26 rfl 2 rfl ?_
        obtain ⟨r5, hc6, h⟩ := qB_of h
        refine g_Vi (r := r5) (As := [iv x1, iv x2]) (rest := []) (w := wM g ad o) E (c_X12_slope l g ad o x1 x2 r5 hc6) okm_X12_slope okw_X12_slope w_1887 rfl (wM_0 g ad o) rfl rfl (Nat.le_of_ble_eq_true rfl) ⟨Nat.le_of_ble_eq_true rfl, Nat.le_of_ble_eq_true rfl⟩ gdX12_leads_27 ?_
        refine g_iload_n E gdX12_leads_30 rfl 3 rfl ?_
        refine g_icmp_gt E 38 gdX12_leads_31 (by decide) h (fun h => ?_) (fun h => ?_)
        ·
          refine g_sub E [] rfl ?_
          exact j38  h
        ·
          refine g_iconst E gdX12_leads_34 ?_
          refine g_goto E 39 gdX12_leads_35 (by decide) ?_
          refine g_sub E [] rfl ?_
          exact j39 1 h
set_option maxHeartbeats 4000000 in
set_option maxRecDepth 100000 in
theorem c_X12_goOn (l : Launch) (g : GG) (ad : Nat → Nat) (o : OO) (x1 : Int) (x2 : Int) (x3 : Int) (x4 : Int) (v : Int) (h : s_X12_goOn o x1 x2 x3 x4 = some v) : CI l g yX12_goOn cX12_goOn 5 (some .int) 1 23 (wM g ad o) [.ref (ad 0), iv x1, iv x2, iv x3, iv x4] v (wM g ad o) := by
  refine met_I (by decide) (Nat.le_of_ble_eq_true rfl) ?_
  intro X E hQ
  show Go X 0 (wM g ad o) [(0, .ref (ad 0)), (1, iv x1), (2, iv x2), (3, iv x3), (4, iv x4)] []
  have j33 : ∀ (x3 : Int) (x4 : Int) (y0 : Int) (y1 : Int), b_X12_goOn_33 o x3 x4 y0 y1 = some v → Go X 33 (wM g ad o) [(0, .ref (ad 0)), (3, iv x3), (4, iv x4)] [iv y1, iv y0] := by
    intro x3 x4 y0 y1 h
    unfold b_X12_goOn_33 at h
    refine g_iadd E gdX12_goOn_33 ?_
    refine g_aload_n E gdX12_goOn_34 rfl 0 rfl ?_
    refine g_get (T := TX12) E fw_X12 0 (wM_0 g ad o) rfl 46 (by decide) w_1512 rfl rfl gdX12_goOn_35 ?_
    refine g_iconst E gdX12_goOn_38 ?_
    refine g_iload E gdX12_goOn_39 2 rfl ?_
    refine g_imul E gdX12_goOn_41 ?_
    refine g_iload_n E gdX12_goOn_42 rfl 1 rfl ?_
    refine g_iadd E gdX12_goOn_43 ?_
    obtain ⟨hi1, h⟩ := qIn_of h
    refine g_iald E 38 (wM_38 g ad o) (by decide) hi1 gdX12_goOn_44 ?_
    obtain ⟨n2, e_n2, h⟩ := qNm_of h
    refine g_nmi e_n2 ?_
    refine g_iadd E gdX12_goOn_45 ?_
    exact g_iret E hQ (Option.some.inj h) rfl gdX12_goOn_46
  have j32 : ∀ (x3 : Int) (x4 : Int) (y0 : Int), b_X12_goOn_32 o x3 x4 y0 = some v → Go X 32 (wM g ad o) [(0, .ref (ad 0)), (3, iv x3), (4, iv x4)] [iv y0] := by
    intro x3 x4 y0 h
    unfold b_X12_goOn_32 at h
    refine g_iconst E gdX12_goOn_32 ?_
    exact j33 x3 x4 y0 0 h
  unfold s_X12_goOn at h
  refine g_bipush E gdX12_goOn_0 (by decide) ?_
  refine g_aload_n E gdX12_goOn_2 rfl 0 rfl ?_
  refine g_iload_n E gdX12_goOn_3 rfl 1 rfl ?_
  refine g_iload E gdX12_goOn_4 4 rfl ?_
  obtain ⟨r3, hc4, h⟩ := qB_of h
  refine g_Vi (r := r3) (As := [iv x1, iv x4]) (rest := [iv 10]) (w := wM g ad o) E (c_X12_slope l g ad o x1 x4 r3 hc4) okm_X12_slope okw_X12_slope w_1887 rfl (wM_0 g ad o) rfl rfl (Nat.le_of_ble_eq_true rfl) ⟨Nat.le_of_ble_eq_true rfl, Nat.le_of_ble_eq_true rfl⟩ gdX12_goOn_6 ?_
  refine g_imul E gdX12_goOn_9 ?_
  refine g_aload_n E gdX12_goOn_10 rfl 0 rfl ?_
  refine g_get (T := TX12) E fw_X12 0 (wM_0 g ad o) rfl 47 (by decide) w_1513 rfl rfl gdX12_goOn_11 ?_
  refine g_iload E gdX12_goOn_14 4 rfl ?_
  obtain ⟨hi5, h⟩ := qIn_of h
  refine g_iald E 39 (wM_39 g ad o) (by decide) hi5 gdX12_goOn_16 ?_
  obtain ⟨n6, e_n6, h⟩ := qNm_of h
  refine g_nmi e_n6 ?_
  refine g_iadd E gdX12_goOn_17 ?_
  refine g_iload_n E gdX12_goOn_18 rfl 2 rfl ?_
  refine g_iconst E gdX12_goOn_19 ?_
  refine g_icmp_ge E 32 gdX12_goOn_20 (by decide) h (fun h => ?_) (fun h => ?_)
  ·
    refine g_sub E [0, 3, 4] rfl ?_
    exact j32 x3 x4 ((10 * r3) + n6) h
  ·
    refine g_iload_n E gdX12_goOn_23 rfl 2 rfl ?_
    refine g_iload_n E gdX12_goOn_24 rfl 3 rfl ?_
    refine g_icmp_eq E 32 gdX12_goOn_25 (by decide) h (fun h => ?_) (fun h => ?_)
    ·
      refine g_sub E [0, 3, 4] rfl ?_
      exact j32 x3 x4 ((10 * r3) + n6) h
    ·
      refine g_iconst E gdX12_goOn_28 ?_
      refine g_goto E 33 gdX12_goOn_29 (by decide) ?_
      refine g_sub E [0, 3, 4] rfl ?_
      exact j33 x3 x4 ((10 * r3) + n6) 5 h
set_option maxHeartbeats 4000000 in
set_option maxRecDepth 100000 in
theorem c_X12_setLeft (l : Launch) (g : GG) (ad : Nat → Nat) (o : OO) (x1 : Int) (x2 : Int) (v : OO) (h : s_X12_setLeft o x1 x2 = some v) : CV l g yX12_setLeft cX12_setLeft 9 2 47 (wM g ad o) [.ref (ad 0), iv x1, iv x2] (wM g ad v) := by
  refine met_V (by decide) (Nat.le_of_ble_eq_true rfl) ?_
  intro X E hQ
  show Go X 0 (wM g ad o) [(0, .ref (ad 0)), (1, iv x1), (2, iv x2)] []
  have j224 : ∀ (o : OO), b_X12_setLeft_224 o = some v → Go X 224 (wM g ad o) [] [] := by
    intro o h
    unfold b_X12_setLeft_224 at h
    exact g_vret E hQ (by rw [← Option.some.inj h]) gdX12_setLeft_224
  have j221 : ∀ (o : OO) (x1 : Int) (x2 : Int) (x3 : Int) (v : (OO × Int) ⊕ ((OO))), b_X12_setLeft_221 o x1 x2 x3 = some v → (∀ (o : OO) (x3 : Int), v = .inl (o, x3) → Go X 37 (wM g ad o) [(0, .ref (ad 0)), (1, iv x1), (2, iv x2), (3, iv x3)] []) → (∀ (o : OO), v = .inr (o) → Go X 224 (wM g ad o) [] []) → Go X 221 (wM g ad o) [(0, .ref (ad 0)), (1, iv x1), (2, iv x2), (3, iv x3)] [] := by
    intro o x1 x2 x3 v h k0 k1
    unfold b_X12_setLeft_221 at h
    refine g_goto E 37 gdX12_setLeft_221 (by decide) ?_
    exact k0 o x3 (Option.some.inj h).symm
  have j215 : ∀ (o : OO) (x1 : Int) (x2 : Int) (x3 : Int) (x4 : Int) (v : (OO × Int × Int) ⊕ ((OO × Int))), b_X12_setLeft_215 o x1 x2 x3 x4 = some v → (∀ (o : OO) (x3 : Int) (x4 : Int), v = .inl (o, x3, x4) → Go X 46 (wM g ad o) [(0, .ref (ad 0)), (1, iv x1), (2, iv x2), (3, iv x3), (4, iv x4)] []) → (∀ (o : OO) (x3 : Int), v = .inr ((o, x3)) → Go X 221 (wM g ad o) [(0, .ref (ad 0)), (1, iv x1), (2, iv x2), (3, iv x3)] []) → Go X 215 (wM g ad o) [(0, .ref (ad 0)), (1, iv x1), (2, iv x2), (3, iv x3), (4, iv x4)] [] := by
    intro o x1 x2 x3 x4 v h k0 k1
    unfold b_X12_setLeft_215 at h
    refine g_iinc E [(4, iv (x4 + 1)), (0, .ref (ad 0)), (1, iv x1), (2, iv x2), (3, iv x3)] gdX12_setLeft_215 4 rfl (by decide) rfl ?_
    refine g_goto E 46 gdX12_setLeft_218 (by decide) ?_
    refine g_sub E [1, 2, 3, 4, 0] rfl ?_
    exact k0 o x3 (x4 + 1) (Option.some.inj h).symm
  have j209 : ∀ (o : OO) (x1 : Int) (x2 : Int) (x3 : Int) (x4 : Int) (x5 : Int) (v : (OO × Int × Int) ⊕ ((OO × Int))), b_X12_setLeft_209 o x1 x2 x3 x4 x5 = some v → (∀ (o : OO) (x3 : Int) (x5 : Int), v = .inl (o, x3, x5) → Go X 56 (wM g ad o) [(0, .ref (ad 0)), (1, iv x1), (2, iv x2), (3, iv x3), (4, iv x4), (5, iv x5)] []) → (∀ (o : OO) (x3 : Int), v = .inr ((o, x3)) → Go X 215 (wM g ad o) [(0, .ref (ad 0)), (1, iv x1), (2, iv x2), (3, iv x3), (4, iv x4)] []) → Go X 209 (wM g ad o) [(0, .ref (ad 0)), (1, iv x1), (2, iv x2), (3, iv x3), (4, iv x4), (5, iv x5)] [] := by
    intro o x1 x2 x3 x4 x5 v h k0 k1
    unfold b_X12_setLeft_209 at h
    refine g_iinc E [(5, iv (x5 + 1)), (0, .ref (ad 0)), (1, iv x1), (2, iv x2), (3, iv x3), (4, iv x4)] gdX12_setLeft_209 5 rfl (by decide) rfl ?_
    refine g_goto E 56 gdX12_setLeft_212 (by decide) ?_
    refine g_sub E [1, 2, 3, 4, 5, 0] rfl ?_
    exact k0 o x3 (x5 + 1) (Option.some.inj h).symm
  have j202 : ∀ (o : OO) (x1 : Int) (x2 : Int) (x3 : Int) (x4 : Int) (x5 : Int) (x6 : Int) (x7 : Int) (y1 : Int) (y2 : Int) (v : (OO × Int × Int) ⊕ ((OO × Int))), b_X12_setLeft_202 o x1 x2 x3 x4 x5 x6 x7 y1 y2 = some v → (∀ (o : OO) (x3 : Int) (x7 : Int), v = .inl (o, x3, x7) → Go X 110 (wM g ad o) [(0, .ref (ad 0)), (1, iv x1), (2, iv x2), (3, iv x3), (4, iv x4), (5, iv x5), (6, iv x6), (7, iv x7)] []) → (∀ (o : OO) (x3 : Int), v = .inr ((o, x3)) → Go X 209 (wM g ad o) [(0, .ref (ad 0)), (1, iv x1), (2, iv x2), (3, iv x3), (4, iv x4), (5, iv x5)] []) → Go X 202 (wM g ad o) [(0, .ref (ad 0)), (1, iv x1), (2, iv x2), (3, iv x3), (4, iv x4), (5, iv x5), (6, iv x6), (7, iv x7)] [iv y2, iv y1, .ref (ad 38)] := by
    intro o x1 x2 x3 x4 x5 x6 x7 y1 y2 v h k0 k1
    unfold b_X12_setLeft_202 at h
    obtain ⟨hi1, h⟩ := qIn_of h
    obtain ⟨o2, e_o2, h⟩ := qNm_of h
    refine g_iast (ws' := wM g ad o2) E 38 (wM_38 g ad o) (by decide) hi1 (by rw [e_o2]; exact wM_s38 g ad o _ _) gdX12_setLeft_202 ?_
    refine g_iinc E [(7, iv (x7 + 1)), (0, .ref (ad 0)), (1, iv x1), (2, iv x2), (3, iv x3), (4, iv x4), (5, iv x5), (6, iv x6)] gdX12_setLeft_203 7 rfl (by decide) rfl ?_
    refine g_goto E 110 gdX12_setLeft_206 (by decide) ?_
    refine g_sub E [1, 2, 3, 4, 5, 6, 7, 0] rfl ?_
    exact k0 o2 x3 (x7 + 1) (Option.some.inj h).symm
  have j156 : ∀ (o : OO) (x1 : Int) (x2 : Int) (x4 : Int) (x5 : Int) (x6 : Int) (x7 : Int) (x8 : Int) (y0 : Int) (v : (OO × Int × Int) ⊕ ((OO × Int))), b_X12_setLeft_156 o x1 x2 x4 x5 x6 x7 x8 y0 = some v → (∀ (o : OO) (x3 : Int) (x7 : Int), v = .inl (o, x3, x7) → Go X 110 (wM g ad o) [(0, .ref (ad 0)), (1, iv x1), (2, iv x2), (3, iv x3), (4, iv x4), (5, iv x5), (6, iv x6), (7, iv x7)] []) → (∀ (o : OO) (x3 : Int), v = .inr ((o, x3)) → Go X 209 (wM g ad o) [(0, .ref (ad 0)), (1, iv x1), (2, iv x2), (3, iv x3), (4, iv x4), (5, iv x5)] []) → Go X 156 (wM g ad o) [(0, .ref (ad 0)), (1, iv x1), (2, iv x2), (4, iv x4), (5, iv x5), (6, iv x6), (7, iv x7), (8, iv x8)] [iv y0] := by
    intro o x1 x2 x4 x5 x6 x7 x8 y0 v h k0 k1
    unfold b_X12_setLeft_156 at h
    refine g_istore_n E [(3, iv y0), (0, .ref (ad 0)), (1, iv x1), (2, iv x2), (4, iv x4), (5, iv x5), (6, iv x6), (7, iv x7), (8, iv x8)] gdX12_setLeft_156 rfl (by decide) rfl ?_
    refine g_aload_n E gdX12_setLeft_157 rfl 1 rfl ?_
    refine g_get (T := TX12) E fw_X12 0 (wM_0 g ad o) rfl 46 (by decide) w_1512 rfl rfl gdX12_setLeft_158 ?_
    refine g_iconst E gdX12_setLeft_161 ?_
    refine g_iload E gdX12_setLeft_162 4 rfl ?_
    refine g_imul E gdX12_setLeft_164 ?_
    refine g_iload E gdX12_setLeft_165 7 rfl ?_
    refine g_iadd E gdX12_setLeft_167 ?_
    refine g_iload E gdX12_setLeft_168 8 rfl ?_
    refine g_aload_n E gdX12_setLeft_170 rfl 1 rfl ?_
    refine g_get (T := TX12) E fw_X12 0 (wM_0 g ad o) rfl 46 (by decide) w_1512 rfl rfl gdX12_setLeft_171 ?_
    refine g_iconst E gdX12_setLeft_174 ?_
    refine g_iload E gdX12_setLeft_175 4 rfl ?_
    refine g_imul E gdX12_setLeft_177 ?_
    refine g_iload E gdX12_setLeft_178 7 rfl ?_
    refine g_iadd E gdX12_setLeft_180 ?_
    obtain ⟨hi3, h⟩ := qIn_of h
    refine g_iald E 38 (wM_38 g ad o) (by decide) hi3 gdX12_setLeft_181 ?_
    obtain ⟨n4, e_n4, h⟩ := qNm_of h
    refine g_nmi e_n4 ?_
    refine g_icmp_ge E 190 gdX12_setLeft_182 (by decide) h (fun h => ?_) (fun h => ?_)
    ·
      refine g_aload_n E gdX12_setLeft_190 rfl 1 rfl ?_
      refine g_get (T := TX12) E fw_X12 0 (wM_0 g ad o) rfl 46 (by decide) w_1512 rfl rfl gdX12_setLeft_191 ?_
      refine g_iconst E gdX12_setLeft_194 ?_
      refine g_iload E gdX12_setLeft_195 4 rfl ?_
      refine g_imul E gdX12_setLeft_197 ?_
      refine g_iload E gdX12_setLeft_198 7 rfl ?_
      refine g_iadd E gdX12_setLeft_200 ?_
      obtain ⟨hi5, h⟩ := qIn_of h
      refine g_iald E 38 (wM_38 g ad o) (by decide) hi5 gdX12_setLeft_201 ?_
      obtain ⟨n6, e_n6, h⟩ := qNm_of h
      refine g_nmi e_n6 ?_
      refine g_sub E [1, 2, 3, 0, 4, 5, 6, 7] rfl ?_
      exact j202 o x1 x2 y0 x4 x5 x6 x7 ((5 * x4) + x7) n6 v h k0 k1
    ·
      refine g_iload E gdX12_setLeft_185 8 rfl ?_
      refine g_goto E 202 gdX12_setLeft_187 (by decide) ?_
      refine g_sub E [1, 2, 3, 0, 4, 5, 6, 7] rfl ?_
      exact j202 o x1 x2 y0 x4 x5 x6 x7 ((5 * x4) + x7) x8 v h k0 k1
  have j151 : ∀ (o : OO) (x1 : Int) (x2 : Int) (x4 : Int) (x5 : Int) (x6 : Int) (x7 : Int) (x8 : Int) (v : (OO × Int × Int) ⊕ ((OO × Int))), b_X12_setLeft_151 o x1 x2 x4 x5 x6 x7 x8 = some v → (∀ (o : OO) (x3 : Int) (x7 : Int), v = .inl (o, x3, x7) → Go X 110 (wM g ad o) [(0, .ref (ad 0)), (1, iv x1), (2, iv x2), (3, iv x3), (4, iv x4), (5, iv x5), (6, iv x6), (7, iv x7)] []) → (∀ (o : OO) (x3 : Int), v = .inr ((o, x3)) → Go X 209 (wM g ad o) [(0, .ref (ad 0)), (1, iv x1), (2, iv x2), (3, iv x3), (4, iv x4), (5, iv x5)] []) → Go X 151 (wM g ad o) [(0, .ref (ad 0)), (1, iv x1), (2, iv x2), (4, iv x4), (5, iv x5), (6, iv x6), (7, iv x7), (8, iv x8)] [] := by
    intro o x1 x2 x4 x5 x6 x7 x8 v h k0 k1
    unfold b_X12_setLeft_151 at h
    refine g_iconst E gdX12_setLeft_151 ?_
    refine g_goto E 156 gdX12_setLeft_152 (by decide) ?_
    exact j156 o x1 x2 x4 x5 x6 x7 x8 1 v h k0 k1
  have l110 : ∀ (x1 : Int) (x2 : Int) (x4 : Int) (x5 : Int) (x6 : Int) (r : (OO × Int)) (s0 : OO × Int × Int), loopW (fun s => l_X12_setLeft_110 x1 x2 x4 x5 x6 s.1 s.2.1 s.2.2) s0 = some r → (∀ (o : OO) (x3 : Int), r = ((o, x3)) → Go X 209 (wM g ad o) [(0, .ref (ad 0)), (1, iv x1), (2, iv x2), (3, iv x3), (4, iv x4), (5, iv x5)] []) → Go X 110 (wM g ad s0.1) [(0, .ref (ad 0)), (1, iv x1), (2, iv x2), (3, iv s0.2.1), (4, iv x4), (5, iv x5), (6, iv x6), (7, iv s0.2.2)] [] := by
    intro x1 x2 x4 x5 x6 r s0 h k1
    refine loop_rule (Head := fun s0 => Go X 110 (wM g ad s0.1) [(0, .ref (ad 0)), (1, iv x1), (2, iv x2), (3, iv s0.2.1), (4, iv x4), (5, iv x5), (6, iv x6), (7, iv s0.2.2)] []) h ?_
    intro s v h kk kx
    obtain ⟨o, x3, x7⟩ := s
    have h : l_X12_setLeft_110 x1 x2 x4 x5 x6 o x3 x7 = some v := h
    have k0 : ∀ (o : OO) (x3 : Int) (x7 : Int), v = .inl (o, x3, x7) → Go X 110 (wM g ad o) [(0, .ref (ad 0)), (1, iv x1), (2, iv x2), (3, iv x3), (4, iv x4), (5, iv x5), (6, iv x6), (7, iv x7)] [] := fun o x3 x7 e => kk (o, x3, x7) e
    have k1 : ∀ (o : OO) (x3 : Int), v = .inr ((o, x3)) → Go X 209 (wM g ad o) [(0, .ref (ad 0)), (1, iv x1), (2, iv x2), (3, iv x3), (4, iv x4), (5, iv x5)] [] := fun o x3 e => k1 o x3 (kx _ e).symm
    unfold l_X12_setLeft_110 at h
    refine g_iload E gdX12_setLeft_110 7 rfl ?_
    refine g_iconst E gdX12_setLeft_112 ?_
    refine g_icmp_ge E 209 gdX12_setLeft_113 (by decide) h (fun h => ?_) (fun h => ?_)
    ·
      refine g_sub E [0, 1, 2, 3, 4, 5] rfl ?_
      exact k1 o x3 (Option.some.inj h).symm
    ·
      refine g_aload_n E gdX12_setLeft_116 rfl 0 rfl ?_
      refine g_iload E gdX12_setLeft_117 4 rfl ?_
      refine g_iload E gdX12_setLeft_119 7 rfl ?_
      refine g_iload E gdX12_setLeft_121 5 rfl ?_
      refine g_iload E gdX12_setLeft_123 6 rfl ?_
      obtain ⟨r7, hc8, h⟩ := qB_of h
      refine g_Vi (r := r7) (As := [iv x4, iv x7, iv x5, iv x6]) (rest := []) (w := wM g ad o) E (c_X12_goOn l g ad o x4 x7 x5 x6 r7 hc8) okm_X12_goOn okw_X12_goOn w_1891 rfl (wM_0 g ad o) rfl rfl (Nat.le_of_ble_eq_true rfl) ⟨Nat.le_of_ble_eq_true rfl, Nat.le_of_ble_eq_true rfl⟩ gdX12_setLeft_125 ?_
      refine g_istore E [(8, iv r7), (0, .ref (ad 0)), (1, iv x1), (2, iv x2), (3, iv x3), (4, iv x4), (5, iv x5), (6, iv x6), (7, iv x7)] gdX12_setLeft_128 (by decide) rfl ?_
      refine g_iload_n E gdX12_setLeft_130 rfl 4 rfl ?_
      refine g_if_ne E 151 gdX12_setLeft_131 (by decide) h (fun h => ?_) (fun h => ?_)
      ·
        refine g_sub E [1, 2, 3, 5, 6, 7, 8, 0] rfl ?_
        exact j151 o x1 x2 x4 x5 x6 x7 r7 v h k0 k1
      ·
        refine g_iload E gdX12_setLeft_134 0 rfl ?_
        refine g_aload_n E gdX12_setLeft_136 rfl 1 rfl ?_
        refine g_get (T := TX12) E fw_X12 0 (wM_0 g ad o) rfl 46 (by decide) w_1512 rfl rfl gdX12_setLeft_137 ?_
        refine g_iconst E gdX12_setLeft_140 ?_
        refine g_iload E gdX12_setLeft_141 5 rfl ?_
        refine g_imul E gdX12_setLeft_143 ?_
        refine g_iload E gdX12_setLeft_144 8 rfl ?_
        refine g_iadd E gdX12_setLeft_146 ?_
        obtain ⟨hi9, h⟩ := qIn_of h
        refine g_iald E 38 (wM_38 g ad o) (by decide) hi9 gdX12_setLeft_147 ?_
        obtain ⟨n10, e_n10, h⟩ := qNm_of h
        refine g_nmi e_n10 ?_
        refine g_icmp_ge E 155 gdX12_setLeft_148 (by decide) h (fun h => ?_) (fun h => ?_)
        ·
          refine g_iconst E gdX12_setLeft_155 ?_
          refine g_sub E [1, 2, 3, 5, 6, 7, 8, 0] rfl ?_
          exact j156 o x1 x2 x4 x5 x6 x7 r7 0 v h k0 k1
        ·
          refine g_sub E [1, 2, 3, 5, 6, 7, 8, 0] rfl ?_
          exact j151 o x1 x2 x4 x5 x6 x7 r7 v h k0 k1
  have j110 : ∀ (o : OO) (x1 : Int) (x2 : Int) (x3 : Int) (x4 : Int) (x5 : Int) (x6 : Int) (x7 : Int) (v : (OO × Int × Int) ⊕ ((OO × Int))), e_X12_setLeft_110 o x1 x2 x3 x4 x5 x6 x7 = some v → (∀ (o : OO) (x3 : Int) (x5 : Int), v = .inl (o, x3, x5) → Go X 56 (wM g ad o) [(0, .ref (ad 0)), (1, iv x1), (2, iv x2), (3, iv x3), (4, iv x4), (5, iv x5)] []) → (∀ (o : OO) (x3 : Int), v = .inr ((o, x3)) → Go X 215 (wM g ad o) [(0, .ref (ad 0)), (1, iv x1), (2, iv x2), (3, iv x3), (4, iv x4)] []) → Go X 110 (wM g ad o) [(0, .ref (ad 0)), (1, iv x1), (2, iv x2), (3, iv x3), (4, iv x4), (5, iv x5), (6, iv x6), (7, iv x7)] [] := by
    intro o x1 x2 x3 x4 x5 x6 x7 v h k0 k1
    unfold e_X12_setLeft_110 at h
    obtain ⟨r, hr, h⟩ := qB_of h
    refine l110 x1 x2 x4 x5 x6 r _ hr ?_
    ·
      intro u0 u1 e
      subst e
      have h : b_X12_setLeft_209 u0 x1 x2 u1 x4 x5 = some v := h
      exact j209 u0 x1 x2 u1 x4 x5 v h k0 k1
  have l56 : ∀ (x1 : Int) (x2 : Int) (x4 : Int) (r : (OO × Int)) (s0 : OO × Int × Int), loopW (fun s => l_X12_setLeft_56 x1 x2 x4 s.1 s.2.1 s.2.2) s0 = some r → (∀ (o : OO) (x3 : Int), r = ((o, x3)) → Go X 215 (wM g ad o) [(0, .ref (ad 0)), (1, iv x1), (2, iv x2), (3, iv x3), (4, iv x4)] []) → Go X 56 (wM g ad s0.1) [(0, .ref (ad 0)), (1, iv x1), (2, iv x2), (3, iv s0.2.1), (4, iv x4), (5, iv s0.2.2)] [] := by
    intro x1 x2 x4 r s0 h k1
    refine loop_rule (Head := fun s0 => Go X 56 (wM g ad s0.1) [(0, .ref (ad 0)), (1, iv x1), (2, iv x2), (3, iv s0.2.1), (4, iv x4), (5, iv s0.2.2)] []) h ?_
    intro s v h kk kx
    obtain ⟨o, x3, x5⟩ := s
    have h : l_X12_setLeft_56 x1 x2 x4 o x3 x5 = some v := h
    have k0 : ∀ (o : OO) (x3 : Int) (x5 : Int), v = .inl (o, x3, x5) → Go X 56 (wM g ad o) [(0, .ref (ad 0)), (1, iv x1), (2, iv x2), (3, iv x3), (4, iv x4), (5, iv x5)] [] := fun o x3 x5 e => kk (o, x3, x5) e
    have k1 : ∀ (o : OO) (x3 : Int), v = .inr ((o, x3)) → Go X 215 (wM g ad o) [(0, .ref (ad 0)), (1, iv x1), (2, iv x2), (3, iv x3), (4, iv x4)] [] := fun o x3 e => k1 o x3 (kx _ e).symm
    unfold l_X12_setLeft_56 at h
    refine g_iload E gdX12_setLeft_56 5 rfl ?_
    refine g_iconst E gdX12_setLeft_58 ?_
    refine g_icmp_ge E 215 gdX12_setLeft_59 (by decide) h (fun h => ?_) (fun h => ?_)
    ·
      refine g_sub E [0, 1, 2, 3, 4] rfl ?_
      exact k1 o x3 (Option.some.inj h).symm
    ·
      refine g_iload E gdX12_setLeft_62 4 rfl ?_
      refine g_iload E gdX12_setLeft_64 5 rfl ?_
      obtain ⟨r11, hc12, h⟩ := qB_of h
      refine g_Si (r := r11) (As := [iv x4, iv x5]) (rest := []) (w := wM g ad o) E (c_X12_beside l g (wM g ad o) x4 x5 r11 hc12) okm_X12_beside w_1881 w_1880 rfl rfl (Nat.le_of_ble_eq_true rfl) ⟨Nat.le_of_ble_eq_true rfl, Nat.le_of_ble_eq_true rfl⟩ gdX12_setLeft_66 ?_
      refine g_istore E [(6, iv r11), (0, .ref (ad 0)), (1, iv x1), (2, iv x2), (3, iv x3), (4, iv x4), (5, iv x5)] gdX12_setLeft_69 (by decide) rfl ?_
      refine g_iload E gdX12_setLeft_71 5 rfl ?_
      refine g_iload_n E gdX12_setLeft_73 rfl 2 rfl ?_
      refine g_icmp_eq E 209 gdX12_setLeft_74 (by decide) h (fun h => ?_) (fun h => ?_)
      ·
        refine g_sub E [1, 2, 3, 4, 5, 6] rfl ?_
        exact j209 o x1 x2 x3 x4 x5 v h k0 k1
      ·
        refine g_aload_n E gdX12_setLeft_77 rfl 1 rfl ?_
        refine g_iload E gdX12_setLeft_78 5 rfl ?_
        refine g_iload E gdX12_setLeft_80 0 rfl ?_
        refine g_iload_n E gdX12_setLeft_82 rfl 3 rfl ?_
        obtain ⟨r13, hc14, h⟩ := qB_of h
        refine g_Vi (r := r13) (As := [iv x4, iv r11, iv x2]) (rest := []) (w := wM g ad o) E (c_X12_leads l g ad o x4 r11 x2 r13 hc14) okm_X12_leads okw_X12_leads w_1883 rfl (wM_0 g ad o) rfl rfl (Nat.le_of_ble_eq_true rfl) ⟨Nat.le_of_ble_eq_true rfl, Nat.le_of_ble_eq_true rfl⟩ gdX12_setLeft_83 ?_
        refine g_if_eq E 209 gdX12_setLeft_86 (by decide) h (fun h => ?_) (fun h => ?_)
        ·
          refine g_sub E [1, 2, 3, 4, 5, 6] rfl ?_
          exact j209 o x1 x2 x3 x4 x5 v h k0 k1
        ·
          refine g_aload_n E gdX12_setLeft_89 rfl 1 rfl ?_
          refine g_get (T := TX12) E fw_X12 0 (wM_0 g ad o) rfl 46 (by decide) w_1512 rfl rfl gdX12_setLeft_90 ?_
          refine g_iconst E gdX12_setLeft_93 ?_
          refine g_iload E gdX12_setLeft_94 0 rfl ?_
          refine g_imul E gdX12_setLeft_96 ?_
          refine g_iload E gdX12_setLeft_97 6 rfl ?_
          refine g_iadd E gdX12_setLeft_99 ?_
          obtain ⟨hi15, h⟩ := qIn_of h
          refine g_iald E 38 (wM_38 g ad o) (by decide) hi15 gdX12_setLeft_100 ?_
          obtain ⟨n16, e_n16, h⟩ := qNm_of h
          refine g_nmi e_n16 ?_
          refine g_ldcw (k := 100000000) E gdX12_setLeft_101 w_1879 (by decide) ?_
          refine g_icmp_ge E 209 gdX12_setLeft_104 (by decide) h (fun h => ?_) (fun h => ?_)
          ·
            refine g_sub E [1, 2, 3, 4, 5, 6] rfl ?_
            exact j209 o x1 x2 x3 x4 x5 v h k0 k1
          ·
            refine g_iconst E gdX12_setLeft_107 ?_
            refine g_istore E [(7, iv 0), (6, iv r11), (0, .ref (ad 0)), (1, iv x1), (2, iv x2), (3, iv x3), (4, iv x4), (5, iv x5)] gdX12_setLeft_108 (by decide) rfl ?_
            refine g_sub E [2, 3, 4, 5, 6, 7, 1, 0] rfl ?_
            exact j110 o x1 x2 x3 x4 x5 r11 0 v h k0 k1
  have j56 : ∀ (o : OO) (x1 : Int) (x2 : Int) (x3 : Int) (x4 : Int) (x5 : Int) (v : (OO × Int × Int) ⊕ ((OO × Int))), e_X12_setLeft_56 o x1 x2 x3 x4 x5 = some v → (∀ (o : OO) (x3 : Int) (x4 : Int), v = .inl (o, x3, x4) → Go X 46 (wM g ad o) [(0, .ref (ad 0)), (1, iv x1), (2, iv x2), (3, iv x3), (4, iv x4)] []) → (∀ (o : OO) (x3 : Int), v = .inr ((o, x3)) → Go X 221 (wM g ad o) [(0, .ref (ad 0)), (1, iv x1), (2, iv x2), (3, iv x3)] []) → Go X 56 (wM g ad o) [(0, .ref (ad 0)), (1, iv x1), (2, iv x2), (3, iv x3), (4, iv x4), (5, iv x5)] [] := by
    intro o x1 x2 x3 x4 x5 v h k0 k1
    unfold e_X12_setLeft_56 at h
    obtain ⟨r, hr, h⟩ := qB_of h
    refine l56 x1 x2 x4 r _ hr ?_
    ·
      intro u0 u1 e
      subst e
      have h : b_X12_setLeft_215 u0 x1 x2 u1 x4 = some v := h
      exact j215 u0 x1 x2 u1 x4 v h k0 k1
  have l46 : ∀ (x1 : Int) (x2 : Int) (r : (OO × Int)) (s0 : OO × Int × Int), loopW (fun s => l_X12_setLeft_46 x1 x2 s.1 s.2.1 s.2.2) s0 = some r → (∀ (o : OO) (x3 : Int), r = ((o, x3)) → Go X 221 (wM g ad o) [(0, .ref (ad 0)), (1, iv x1), (2, iv x2), (3, iv x3)] []) → Go X 46 (wM g ad s0.1) [(0, .ref (ad 0)), (1, iv x1), (2, iv x2), (3, iv s0.2.1), (4, iv s0.2.2)] [] := by
    intro x1 x2 r s0 h k1
    refine loop_rule (Head := fun s0 => Go X 46 (wM g ad s0.1) [(0, .ref (ad 0)), (1, iv x1), (2, iv x2), (3, iv s0.2.1), (4, iv s0.2.2)] []) h ?_
    intro s v h kk kx
    obtain ⟨o, x3, x4⟩ := s
    have h : l_X12_setLeft_46 x1 x2 o x3 x4 = some v := h
    have k0 : ∀ (o : OO) (x3 : Int) (x4 : Int), v = .inl (o, x3, x4) → Go X 46 (wM g ad o) [(0, .ref (ad 0)), (1, iv x1), (2, iv x2), (3, iv x3), (4, iv x4)] [] := fun o x3 x4 e => kk (o, x3, x4) e
    have k1 : ∀ (o : OO) (x3 : Int), v = .inr ((o, x3)) → Go X 221 (wM g ad o) [(0, .ref (ad 0)), (1, iv x1), (2, iv x2), (3, iv x3)] [] := fun o x3 e => k1 o x3 (kx _ e).symm
    unfold l_X12_setLeft_46 at h
    refine g_iload E gdX12_setLeft_46 4 rfl ?_
    refine g_bipush E gdX12_setLeft_48 (by decide) ?_
    refine g_icmp_ge E 221 gdX12_setLeft_50 (by decide) h (fun h => ?_) (fun h => ?_)
    ·
      refine g_sub E [0, 1, 2, 3] rfl ?_
      exact k1 o x3 (Option.some.inj h).symm
    ·
      refine g_iconst E gdX12_setLeft_53 ?_
      refine g_istore E [(5, iv 0), (0, .ref (ad 0)), (1, iv x1), (2, iv x2), (3, iv x3), (4, iv x4)] gdX12_setLeft_54 (by decide) rfl ?_
      refine g_sub E [1, 2, 3, 4, 5, 0] rfl ?_
      exact j56 o x1 x2 x3 x4 0 v h k0 k1
  have j46 : ∀ (o : OO) (x1 : Int) (x2 : Int) (x3 : Int) (x4 : Int) (v : (OO × Int) ⊕ ((OO))), e_X12_setLeft_46 o x1 x2 x3 x4 = some v → (∀ (o : OO) (x3 : Int), v = .inl (o, x3) → Go X 37 (wM g ad o) [(0, .ref (ad 0)), (1, iv x1), (2, iv x2), (3, iv x3)] []) → (∀ (o : OO), v = .inr (o) → Go X 224 (wM g ad o) [] []) → Go X 46 (wM g ad o) [(0, .ref (ad 0)), (1, iv x1), (2, iv x2), (3, iv x3), (4, iv x4)] [] := by
    intro o x1 x2 x3 x4 v h k0 k1
    unfold e_X12_setLeft_46 at h
    obtain ⟨r, hr, h⟩ := qB_of h
    refine l46 x1 x2 r _ hr ?_
    ·
      intro u0 u1 e
      subst e
      have h : b_X12_setLeft_221 u0 x1 x2 u1 = some v := h
      exact j221 u0 x1 x2 u1 v h k0 k1
  have l37 : ∀ (x1 : Int) (x2 : Int) (r : (OO)) (s0 : OO × Int), loopW (fun s => l_X12_setLeft_37 x1 x2 s.1 s.2) s0 = some r → (∀ (o : OO), r = (o) → Go X 224 (wM g ad o) [] []) → Go X 37 (wM g ad s0.1) [(0, .ref (ad 0)), (1, iv x1), (2, iv x2), (3, iv s0.2)] [] := by
    intro x1 x2 r s0 h k1
    refine loop_rule (Head := fun s0 => Go X 37 (wM g ad s0.1) [(0, .ref (ad 0)), (1, iv x1), (2, iv x2), (3, iv s0.2)] []) h ?_
    intro s v h kk kx
    obtain ⟨o, x3⟩ := s
    have h : l_X12_setLeft_37 x1 x2 o x3 = some v := h
    have k0 : ∀ (o : OO) (x3 : Int), v = .inl (o, x3) → Go X 37 (wM g ad o) [(0, .ref (ad 0)), (1, iv x1), (2, iv x2), (3, iv x3)] [] := fun o x3 e => kk (o, x3) e
    have k1 : ∀ (o : OO), v = .inr (o) → Go X 224 (wM g ad o) [] [] := fun o e => k1 o (kx _ e).symm
    unfold l_X12_setLeft_37 at h
    refine g_iload_n E gdX12_setLeft_37 rfl 3 rfl ?_
    refine g_if_eq E 224 gdX12_setLeft_38 (by decide) h (fun h => ?_) (fun h => ?_)
    ·
      refine g_sub E [] rfl ?_
      exact k1 o (Option.some.inj h).symm
    ·
      refine g_iconst E gdX12_setLeft_41 ?_
      refine g_istore_n E [(3, iv 0), (0, .ref (ad 0)), (1, iv x1), (2, iv x2)] gdX12_setLeft_42 rfl (by decide) rfl ?_
      refine g_iconst E gdX12_setLeft_43 ?_
      refine g_istore E [(4, iv 0), (3, iv 0), (0, .ref (ad 0)), (1, iv x1), (2, iv x2)] gdX12_setLeft_44 (by decide) rfl ?_
      refine g_sub E [2, 3, 4, 1, 0] rfl ?_
      exact j46 o x1 x2 0 0 v h k0 k1
  have j37 : ∀ (o : OO) (x1 : Int) (x2 : Int) (x3 : Int), e_X12_setLeft_37 o x1 x2 x3 = some v → Go X 37 (wM g ad o) [(0, .ref (ad 0)), (1, iv x1), (2, iv x2), (3, iv x3)] [] := by
    intro o x1 x2 x3 h
    unfold e_X12_setLeft_37 at h
    obtain ⟨r, hr, h⟩ := qB_of h
    refine l37 x1 x2 r _ hr ?_
    ·
      intro u0 e
      have e := e.symm
      subst e
      have h : b_X12_setLeft_224 u0 = some v := h
      exact j224 u0 h
  have j35 : ∀ (o : OO) (x1 : Int) (x2 : Int), b_X12_setLeft_35 o x1 x2 = some v → Go X 35 (wM g ad o) [(0, .ref (ad 0)), (1, iv x1), (2, iv x2)] [] := by
    intro o x1 x2 h
    unfold b_X12_setLeft_35 at h
    refine g_iconst E gdX12_setLeft_35 ?_
    refine g_istore_n E [(3, iv 1), (0, .ref (ad 0)), (1, iv x1), (2, iv x2)] gdX12_setLeft_36 rfl (by decide) rfl ?_
    refine g_sub E [1, 2, 3, 0] rfl ?_
    exact j37 o x1 x2 1 h
  have j28 : ∀ (o : OO) (x1 : Int) (x2 : Int) (x3 : Int) (y1 : Int) (y2 : Int) (v : (OO × Int) ⊕ ((OO))), b_X12_setLeft_28 o x1 x2 x3 y1 y2 = some v → (∀ (o : OO) (x3 : Int), v = .inl (o, x3) → Go X 2 (wM g ad o) [(0, .ref (ad 0)), (1, iv x1), (2, iv x2), (3, iv x3)] []) → (∀ (o : OO), v = .inr (o) → Go X 35 (wM g ad o) [(0, .ref (ad 0)), (1, iv x1), (2, iv x2)] []) → Go X 28 (wM g ad o) [(0, .ref (ad 0)), (1, iv x1), (2, iv x2), (3, iv x3)] [iv y2, iv y1, .ref (ad 38)] := by
    intro o x1 x2 x3 y1 y2 v h k0 k1
    unfold b_X12_setLeft_28 at h
    obtain ⟨hi17, h⟩ := qIn_of h
    obtain ⟨o18, e_o18, h⟩ := qNm_of h
    refine g_iast (ws' := wM g ad o18) E 38 (wM_38 g ad o) (by decide) hi17 (by rw [e_o18]; exact wM_s38 g ad o _ _) gdX12_setLeft_28 ?_
    refine g_iinc E [(3, iv (x3 + 1)), (0, .ref (ad 0)), (1, iv x1), (2, iv x2)] gdX12_setLeft_29 3 rfl (by decide) rfl ?_
    refine g_goto E 2 gdX12_setLeft_32 (by decide) ?_
    refine g_sub E [1, 2, 3, 0] rfl ?_
    exact k0 o18 (x3 + 1) (Option.some.inj h).symm
  have l2 : ∀ (x1 : Int) (x2 : Int) (r : (OO)) (s0 : OO × Int), loopW (fun s => l_X12_setLeft_2 x1 x2 s.1 s.2) s0 = some r → (∀ (o : OO), r = (o) → Go X 35 (wM g ad o) [(0, .ref (ad 0)), (1, iv x1), (2, iv x2)] []) → Go X 2 (wM g ad s0.1) [(0, .ref (ad 0)), (1, iv x1), (2, iv x2), (3, iv s0.2)] [] := by
    intro x1 x2 r s0 h k1
    refine loop_rule (Head := fun s0 => Go X 2 (wM g ad s0.1) [(0, .ref (ad 0)), (1, iv x1), (2, iv x2), (3, iv s0.2)] []) h ?_
    intro s v h kk kx
    obtain ⟨o, x3⟩ := s
    have h : l_X12_setLeft_2 x1 x2 o x3 = some v := h
    have k0 : ∀ (o : OO) (x3 : Int), v = .inl (o, x3) → Go X 2 (wM g ad o) [(0, .ref (ad 0)), (1, iv x1), (2, iv x2), (3, iv x3)] [] := fun o x3 e => kk (o, x3) e
    have k1 : ∀ (o : OO), v = .inr (o) → Go X 35 (wM g ad o) [(0, .ref (ad 0)), (1, iv x1), (2, iv x2)] [] := fun o e => k1 o (kx _ e).symm
    unfold l_X12_setLeft_2 at h
    refine g_iload_n E gdX12_setLeft_2 rfl 3 rfl ?_
    refine g_sipush E gdX12_setLeft_3 (by decide) ?_
    refine g_icmp_ge E 35 gdX12_setLeft_6 (by decide) h (fun h => ?_) (fun h => ?_)
    ·
      refine g_sub E [0, 1, 2] rfl ?_
      exact k1 o (Option.some.inj h).symm
    ·
      refine g_aload_n E gdX12_setLeft_9 rfl 0 rfl ?_
      refine g_get (T := TX12) E fw_X12 0 (wM_0 g ad o) rfl 46 (by decide) w_1512 rfl rfl gdX12_setLeft_10 ?_
      refine g_iload_n E gdX12_setLeft_13 rfl 3 rfl ?_
      refine g_iload_n E gdX12_setLeft_14 rfl 3 rfl ?_
      refine g_iconst E gdX12_setLeft_15 ?_
      obtain ⟨hd19, h⟩ := qDv_of h
      refine g_idiv E hd19 gdX12_setLeft_16 ?_
      refine g_iload_n E gdX12_setLeft_17 rfl 1 rfl ?_
      refine g_icmp_ne E 25 gdX12_setLeft_18 (by decide) h (fun h => ?_) (fun h => ?_)
      ·
        refine g_ldcw (k := 100000000) E gdX12_setLeft_25 w_1879 (by decide) ?_
        exact j28 o x1 x2 x3 x3 100000000 v h k0 k1
      ·
        refine g_iconst E gdX12_setLeft_21 ?_
        refine g_goto E 28 gdX12_setLeft_22 (by decide) ?_
        exact j28 o x1 x2 x3 x3 0 v h k0 k1
  have j2 : ∀ (o : OO) (x1 : Int) (x2 : Int) (x3 : Int), e_X12_setLeft_2 o x1 x2 x3 = some v → Go X 2 (wM g ad o) [(0, .ref (ad 0)), (1, iv x1), (2, iv x2), (3, iv x3)] [] := by
    intro o x1 x2 x3 h
    unfold e_X12_setLeft_2 at h
    obtain ⟨r, hr, h⟩ := qB_of h
    refine l2 x1 x2 r _ hr ?_
    ·
      intro u0 e
      have e := e.symm
      subst e
      have h : b_X12_setLeft_35 u0 x1 x2 = some v := h
      exact j35 u0 x1 x2 h
  unfold s_X12_setLeft at h
  refine g_iconst E gdX12_setLeft_0 ?_
  refine g_istore_n E [(3, iv 0), (0, .ref (ad 0)), (1, iv x1), (2, iv x2)] gdX12_setLeft_1 rfl (by decide) rfl ?_
  refine g_sub E [1, 2, 3, 0] rfl ?_
  exact j2 o x1 x2 0 h
set_option maxHeartbeats 4000000 in
set_option maxRecDepth 100000 in
theorem c_X12_line (l : Launch) (g : GG) (ad : Nat → Nat) (o : OO) (x1 : Int) (x2 : Int) (x3 : Int) (v : Int × OO) (h : s_X12_line o x1 x2 x3 = some v) : CI l g yX12_line cX12_line 12 (some .int) 3 75 (wM g ad o) [.ref (ad 0), iv x1, iv x2, iv x3] v.1 (wM g ad v.2) := by
  refine met_I (by decide) (Nat.le_of_ble_eq_true rfl) ?_
  intro X E hQ
  show Go X 0 (wM g ad o) [(0, .ref (ad 0)), (1, iv x1), (2, iv x2), (3, iv x3)] []
  have j26 : ∀ (o : OO), b_X12_line_26 o = some v → Go X 26 (wM g ad o) [] [] := by
    intro o h
    unfold b_X12_line_26 at h
    refine g_iconst E gdX12_line_26 ?_
    exact g_iret E hQ (by rw [← Option.some.inj h]) (by rw [← Option.some.inj h]) gdX12_line_27
  have j102 : ∀ (o : OO), b_X12_line_102 o = some v → Go X 102 (wM g ad o) [(0, .ref (ad 0))] [] := by
    intro o h
    unfold b_X12_line_102 at h
    refine g_aload_n E gdX12_line_102 rfl 0 rfl ?_
    refine g_iconst E gdX12_line_103 ?_
    obtain ⟨r1, o3, hc2, h⟩ := qB2_of h
    refine g_Vi (r := r1) (As := [iv 3]) (rest := []) (w := wM g ad o3) E (c_X12_meets l g ad o 3 (r1, o3) hc2) okm_X12_meets okw_X12_meets w_1708 rfl (wM_0 g ad o) rfl rfl (Nat.le_of_ble_eq_true rfl) ⟨Nat.le_of_ble_eq_true rfl, Nat.le_of_ble_eq_true rfl⟩ gdX12_line_104 ?_
    exact g_iret E hQ (by rw [← Option.some.inj h]) (by rw [← Option.some.inj h]) gdX12_line_107
  have j134 : ∀ (o : OO), b_X12_line_134 o = some v → Go X 134 (wM g ad o) [] [] := by
    intro o h
    unfold b_X12_line_134 at h
    refine g_bipush E gdX12_line_134 (by decide) ?_
    exact g_iret E hQ (by rw [← Option.some.inj h]) (by rw [← Option.some.inj h]) gdX12_line_136
  have j426 : ∀ (o : OO) (x5 : Int), b_X12_line_426 o x5 = some v → Go X 426 (wM g ad o) [(5, iv x5)] [] := by
    intro o x5 h
    unfold b_X12_line_426 at h
    refine g_iload E gdX12_line_426 0 rfl ?_
    exact g_iret E hQ (by rw [← Option.some.inj h]) (by rw [← Option.some.inj h]) gdX12_line_428
  have j384 : ∀ (o : OO) (x2 : Int) (x4 : Int) (x5 : Int) (x8 : Int) (x9 : Int) (v : (OO × Int × Int) ⊕ ((OO))), b_X12_line_384 o x2 x4 x5 x8 x9 = some v → (∀ (o : OO) (x6 : Int) (x7 : Int), v = .inl (o, x6, x7) → Go X 276 (wM g ad o) [(0, .ref (ad 0)), (2, iv x2), (4, iv x4), (5, iv x5), (6, iv x6), (7, iv x7)] []) → (∀ (o : OO), v = .inr (o) → Go X 426 (wM g ad o) [(5, iv x5)] []) → Go X 384 (wM g ad o) [(0, .ref (ad 0)), (2, iv x2), (4, iv x4), (5, iv x5), (8, iv x8), (9, iv x9)] [] := by
    intro o x2 x4 x5 x8 x9 v h k0 k1
    unfold b_X12_line_384 at h
    refine g_iload E gdX12_line_384 4 rfl ?_
    refine g_istore E [(6, iv x8), (0, .ref (ad 0)), (2, iv x2), (4, iv x4), (5, iv x5), (8, iv x8), (9, iv x9)] gdX12_line_386 (by decide) rfl ?_
    refine g_iload E gdX12_line_388 6 rfl ?_
    refine g_istore E [(7, iv x9), (6, iv x8), (0, .ref (ad 0)), (2, iv x2), (4, iv x4), (5, iv x5), (8, iv x8), (9, iv x9)] gdX12_line_390 (by decide) rfl ?_
    refine g_aload_n E gdX12_line_392 rfl 2 rfl ?_
    refine g_get (T := TX12) E fw_X12 0 (wM_0 g ad o) rfl 39 (by decide) w_1505 rfl rfl gdX12_line_393 ?_
    refine g_bipush E gdX12_line_396 (by decide) ?_
    refine g_iload E gdX12_line_398 5 rfl ?_
    refine g_imul E gdX12_line_400 ?_
    refine g_aload_n E gdX12_line_401 rfl 2 rfl ?_
    refine g_get (T := TX12) E fw_X12 0 (wM_0 g ad o) rfl 38 (by decide) w_1504 rfl rfl gdX12_line_402 ?_
    refine g_iload E gdX12_line_405 5 rfl ?_
    obtain ⟨hi4, h⟩ := qIn_of h
    refine g_iald E 30 (wM_30 g ad o) (by decide) hi4 gdX12_line_407 ?_
    obtain ⟨n5, e_n5, h⟩ := qNm_of h
    refine g_nmi e_n5 ?_
    refine g_iadd E gdX12_line_408 ?_
    refine g_iload E gdX12_line_409 1 rfl ?_
    obtain ⟨hi6, h⟩ := qIn_of h
    obtain ⟨o7, e_o7, h⟩ := qNm_of h
    refine g_iast (ws' := wM g ad o7) E 31 (wM_31 g ad o) (by decide) hi6 (by rw [e_o7]; exact wM_s31 g ad o _ _) gdX12_line_411 ?_
    refine g_aload_n E gdX12_line_412 rfl 2 rfl ?_
    refine g_get (T := TX12) E fw_X12 0 (wM_0 g ad o7) rfl 38 (by decide) w_1504 rfl rfl gdX12_line_413 ?_
    refine g_iload E gdX12_line_416 5 rfl ?_
    refine g_dup2 E gdX12_line_418 rfl rfl ?_
    obtain ⟨hi8, h⟩ := qIn_of h
    refine g_iald E 30 (wM_30 g ad o7) (by decide) hi8 gdX12_line_419 ?_
    obtain ⟨n9, e_n9, h⟩ := qNm_of h
    refine g_nmi e_n9 ?_
    refine g_iconst E gdX12_line_420 ?_
    refine g_iadd E gdX12_line_421 ?_
    obtain ⟨hi10, h⟩ := qIn_of h
    obtain ⟨o11, e_o11, h⟩ := qNm_of h
    refine g_iast (ws' := wM g ad o11) E 30 (wM_30 g ad o7) (by decide) hi10 (by rw [e_o11]; exact wM_s30 g ad o7 _ _) gdX12_line_422 ?_
    refine g_goto E 276 gdX12_line_423 (by decide) ?_
    refine g_sub E [2, 3, 4, 5, 1, 0] rfl ?_
    exact k0 o11 x8 x9 (Option.some.inj h).symm
  have j378 : ∀ (o : OO) (x2 : Int) (x4 : Int) (x5 : Int) (x6 : Int) (x7 : Int) (x8 : Int) (x9 : Int) (x10 : Int) (v : (Int × Int × Int) ⊕ ((Int × Int))), b_X12_line_378 o x2 x4 x5 x6 x7 x8 x9 x10 = some v → (∀ (x8 : Int) (x9 : Int) (x10 : Int), v = .inl (x8, x9, x10) → Go X 292 (wM g ad o) [(0, .ref (ad 0)), (2, iv x2), (4, iv x4), (5, iv x5), (6, iv x6), (7, iv x7), (8, iv x8), (9, iv x9), (10, iv x10)] []) → (∀ (x8 : Int) (x9 : Int), v = .inr ((x8, x9)) → Go X 384 (wM g ad o) [(0, .ref (ad 0)), (2, iv x2), (4, iv x4), (5, iv x5), (8, iv x8), (9, iv x9)] []) → Go X 378 (wM g ad o) [(0, .ref (ad 0)), (2, iv x2), (4, iv x4), (5, iv x5), (6, iv x6), (7, iv x7), (8, iv x8), (9, iv x9), (10, iv x10)] [] := by
    intro o x2 x4 x5 x6 x7 x8 x9 x10 v h k0 k1
    unfold b_X12_line_378 at h
    refine g_iinc E [(10, iv (x10 + 1)), (0, .ref (ad 0)), (2, iv x2), (4, iv x4), (5, iv x5), (6, iv x6), (7, iv x7), (8, iv x8), (9, iv x9)] gdX12_line_378 8 rfl (by decide) rfl ?_
    refine g_goto E 292 gdX12_line_381 (by decide) ?_
    refine g_sub E [1, 2, 3, 4, 5, 6, 7, 8, 0] rfl ?_
    exact k0 x8 x9 (x10 + 1) (Option.some.inj h).symm
  have l292 : ∀ (o : OO) (x2 : Int) (x4 : Int) (x5 : Int) (x6 : Int) (x7 : Int) (r : (Int × Int)) (s0 : Int × Int × Int), loopW (fun s => l_X12_line_292 o x2 x4 x5 x6 x7 s.1 s.2.1 s.2.2) s0 = some r → (∀ (x8 : Int) (x9 : Int), r = ((x8, x9)) → Go X 384 (wM g ad o) [(0, .ref (ad 0)), (2, iv x2), (4, iv x4), (5, iv x5), (8, iv x8), (9, iv x9)] []) → Go X 292 (wM g ad o) [(0, .ref (ad 0)), (2, iv x2), (4, iv x4), (5, iv x5), (6, iv x6), (7, iv x7), (8, iv s0.1), (9, iv s0.2.1), (10, iv s0.2.2)] [] := by
    intro o x2 x4 x5 x6 x7 r s0 h k1
    refine loop_rule (Head := fun s0 => Go X 292 (wM g ad o) [(0, .ref (ad 0)), (2, iv x2), (4, iv x4), (5, iv x5), (6, iv x6), (7, iv x7), (8, iv s0.1), (9, iv s0.2.1), (10, iv s0.2.2)] []) h ?_
    intro s v h kk kx
    obtain ⟨x8, x9, x10⟩ := s
    have h : l_X12_line_292 o x2 x4 x5 x6 x7 x8 x9 x10 = some v := h
    have k0 : ∀ (x8 : Int) (x9 : Int) (x10 : Int), v = .inl (x8, x9, x10) → Go X 292 (wM g ad o) [(0, .ref (ad 0)), (2, iv x2), (4, iv x4), (5, iv x5), (6, iv x6), (7, iv x7), (8, iv x8), (9, iv x9), (10, iv x10)] [] := fun x8 x9 x10 e => kk (x8, x9, x10) e
    have k1 : ∀ (x8 : Int) (x9 : Int), v = .inr ((x8, x9)) → Go X 384 (wM g ad o) [(0, .ref (ad 0)), (2, iv x2), (4, iv x4), (5, iv x5), (8, iv x8), (9, iv x9)] [] := fun x8 x9 e => k1 x8 x9 (kx _ e).symm
    unfold l_X12_line_292 at h
    refine g_iload E gdX12_line_292 8 rfl ?_
    refine g_iconst E gdX12_line_294 ?_
    refine g_icmp_ge E 384 gdX12_line_295 (by decide) h (fun h => ?_) (fun h => ?_)
    ·
      refine g_sub E [0, 1, 2, 3, 6, 7] rfl ?_
      exact k1 x8 x9 (Option.some.inj h).symm
    ·
      refine g_iload E gdX12_line_298 6 rfl ?_
      refine g_if_ge E 384 gdX12_line_300 (by decide) h (fun h => ?_) (fun h => ?_)
      ·
        refine g_sub E [0, 1, 2, 3, 6, 7] rfl ?_
        exact k1 x8 x9 (Option.some.inj h).symm
      ·
        refine g_iload E gdX12_line_303 4 rfl ?_
        refine g_iload E gdX12_line_305 8 rfl ?_
        obtain ⟨r12, hc13, h⟩ := qB_of h
        refine g_Si (r := r12) (As := [iv x6, iv x10]) (rest := []) (w := wM g ad o) E (c_X12_beside l g (wM g ad o) x6 x10 r12 hc13) okm_X12_beside w_1881 w_1880 rfl rfl (Nat.le_of_ble_eq_true rfl) ⟨Nat.le_of_ble_eq_true rfl, Nat.le_of_ble_eq_true rfl⟩ gdX12_line_307 ?_
        refine g_istore E [(11, iv r12), (0, .ref (ad 0)), (2, iv x2), (4, iv x4), (5, iv x5), (6, iv x6), (7, iv x7), (8, iv x8), (9, iv x9), (10, iv x10)] gdX12_line_310 (by decide) rfl ?_
        refine g_aload_n E gdX12_line_312 rfl 1 rfl ?_
        refine g_iload E gdX12_line_313 5 rfl ?_
        refine g_iload E gdX12_line_315 0 rfl ?_
        refine g_iload E gdX12_line_317 3 rfl ?_
        obtain ⟨r14, hc15, h⟩ := qB_of h
        refine g_Vi (r := r14) (As := [iv x6, iv r12, iv x4]) (rest := []) (w := wM g ad o) E (c_X12_leads l g ad o x6 r12 x4 r14 hc15) okm_X12_leads okw_X12_leads w_1883 rfl (wM_0 g ad o) rfl rfl (Nat.le_of_ble_eq_true rfl) ⟨Nat.le_of_ble_eq_true rfl, Nat.le_of_ble_eq_true rfl⟩ gdX12_line_319 ?_
        refine g_if_eq E 378 gdX12_line_322 (by decide) h (fun h => ?_) (fun h => ?_)
        ·
          refine g_sub E [1, 2, 3, 4, 5, 6, 7, 8, 9] rfl ?_
          exact j378 o x2 x4 x5 x6 x7 x8 x9 x10 v h k0 k1
        ·
          refine g_aload_n E gdX12_line_325 rfl 1 rfl ?_
          refine g_get (T := TX12) E fw_X12 0 (wM_0 g ad o) rfl 46 (by decide) w_1512 rfl rfl gdX12_line_326 ?_
          refine g_iconst E gdX12_line_329 ?_
          refine g_iload E gdX12_line_330 0 rfl ?_
          refine g_imul E gdX12_line_332 ?_
          refine g_iload E gdX12_line_333 9 rfl ?_
          refine g_iadd E gdX12_line_335 ?_
          obtain ⟨hi16, h⟩ := qIn_of h
          refine g_iald E 38 (wM_38 g ad o) (by decide) hi16 gdX12_line_336 ?_
          obtain ⟨n17, e_n17, h⟩ := qNm_of h
          refine g_nmi e_n17 ?_
          refine g_ldcw (k := 100000000) E gdX12_line_337 w_1879 (by decide) ?_
          refine g_icmp_ge E 378 gdX12_line_340 (by decide) h (fun h => ?_) (fun h => ?_)
          ·
            refine g_sub E [1, 2, 3, 4, 5, 6, 7, 8, 9] rfl ?_
            exact j378 o x2 x4 x5 x6 x7 x8 x9 x10 v h k0 k1
          ·
            refine g_aload_n E gdX12_line_343 rfl 1 rfl ?_
            refine g_iload E gdX12_line_344 5 rfl ?_
            refine g_iload E gdX12_line_346 6 rfl ?_
            refine g_iload E gdX12_line_348 9 rfl ?_
            refine g_iload E gdX12_line_350 0 rfl ?_
            obtain ⟨r18, hc19, h⟩ := qB_of h
            refine g_Vi (r := r18) (As := [iv x6, iv x7, iv x10, iv r12]) (rest := []) (w := wM g ad o) E (c_X12_goOn l g ad o x6 x7 x10 r12 r18 hc19) okm_X12_goOn okw_X12_goOn w_1891 rfl (wM_0 g ad o) rfl rfl (Nat.le_of_ble_eq_true rfl) ⟨Nat.le_of_ble_eq_true rfl, Nat.le_of_ble_eq_true rfl⟩ gdX12_line_352 ?_
            refine g_aload_n E gdX12_line_355 rfl 1 rfl ?_
            refine g_get (T := TX12) E fw_X12 0 (wM_0 g ad o) rfl 46 (by decide) w_1512 rfl rfl gdX12_line_356 ?_
            refine g_iconst E gdX12_line_359 ?_
            refine g_iload E gdX12_line_360 5 rfl ?_
            refine g_imul E gdX12_line_362 ?_
            refine g_iload E gdX12_line_363 6 rfl ?_
            refine g_iadd E gdX12_line_365 ?_
            obtain ⟨hi20, h⟩ := qIn_of h
            refine g_iald E 38 (wM_38 g ad o) (by decide) hi20 gdX12_line_366 ?_
            obtain ⟨n21, e_n21, h⟩ := qNm_of h
            refine g_nmi e_n21 ?_
            refine g_icmp_ne E 378 gdX12_line_367 (by decide) h (fun h => ?_) (fun h => ?_)
            ·
              refine g_sub E [1, 2, 3, 4, 5, 6, 7, 8, 9] rfl ?_
              exact j378 o x2 x4 x5 x6 x7 x8 x9 x10 v h k0 k1
            ·
              refine g_iload E gdX12_line_370 0 rfl ?_
              refine g_istore E [(8, iv r12), (11, iv r12), (0, .ref (ad 0)), (2, iv x2), (4, iv x4), (5, iv x5), (6, iv x6), (7, iv x7), (9, iv x9), (10, iv x10)] gdX12_line_372 (by decide) rfl ?_
              refine g_iload E gdX12_line_374 9 rfl ?_
              refine g_istore E [(9, iv x10), (8, iv r12), (11, iv r12), (0, .ref (ad 0)), (2, iv x2), (4, iv x4), (5, iv x5), (6, iv x6), (7, iv x7), (10, iv x10)] gdX12_line_376 (by decide) rfl ?_
              refine g_sub E [3, 4, 5, 6, 7, 8, 1, 0, 9] rfl ?_
              exact j378 o x2 x4 x5 x6 x7 r12 x10 x10 v h k0 k1
  have j292 : ∀ (o : OO) (x2 : Int) (x4 : Int) (x5 : Int) (x6 : Int) (x7 : Int) (x8 : Int) (x9 : Int) (x10 : Int) (v : (OO × Int × Int) ⊕ ((OO))), e_X12_line_292 o x2 x4 x5 x6 x7 x8 x9 x10 = some v → (∀ (o : OO) (x6 : Int) (x7 : Int), v = .inl (o, x6, x7) → Go X 276 (wM g ad o) [(0, .ref (ad 0)), (2, iv x2), (4, iv x4), (5, iv x5), (6, iv x6), (7, iv x7)] []) → (∀ (o : OO), v = .inr (o) → Go X 426 (wM g ad o) [(5, iv x5)] []) → Go X 292 (wM g ad o) [(0, .ref (ad 0)), (2, iv x2), (4, iv x4), (5, iv x5), (6, iv x6), (7, iv x7), (8, iv x8), (9, iv x9), (10, iv x10)] [] := by
    intro o x2 x4 x5 x6 x7 x8 x9 x10 v h k0 k1
    unfold e_X12_line_292 at h
    obtain ⟨r, hr, h⟩ := qB_of h
    refine l292 o x2 x4 x5 x6 x7 r _ hr ?_
    ·
      intro u0 u1 e
      subst e
      have h : b_X12_line_384 o x2 x4 x5 u0 u1 = some v := h
      exact j384 o x2 x4 x5 u0 u1 v h k0 k1
  have l276 : ∀ (x2 : Int) (x4 : Int) (x5 : Int) (r : (OO)) (s0 : OO × Int × Int), loopW (fun s => l_X12_line_276 x2 x4 x5 s.1 s.2.1 s.2.2) s0 = some r → (∀ (o : OO), r = (o) → Go X 426 (wM g ad o) [(5, iv x5)] []) → Go X 276 (wM g ad s0.1) [(0, .ref (ad 0)), (2, iv x2), (4, iv x4), (5, iv x5), (6, iv s0.2.1), (7, iv s0.2.2)] [] := by
    intro x2 x4 x5 r s0 h k1
    refine loop_rule (Head := fun s0 => Go X 276 (wM g ad s0.1) [(0, .ref (ad 0)), (2, iv x2), (4, iv x4), (5, iv x5), (6, iv s0.2.1), (7, iv s0.2.2)] []) h ?_
    intro s v h kk kx
    obtain ⟨o, x6, x7⟩ := s
    have h : l_X12_line_276 x2 x4 x5 o x6 x7 = some v := h
    have k0 : ∀ (o : OO) (x6 : Int) (x7 : Int), v = .inl (o, x6, x7) → Go X 276 (wM g ad o) [(0, .ref (ad 0)), (2, iv x2), (4, iv x4), (5, iv x5), (6, iv x6), (7, iv x7)] [] := fun o x6 x7 e => kk (o, x6, x7) e
    have k1 : ∀ (o : OO), v = .inr (o) → Go X 426 (wM g ad o) [(5, iv x5)] [] := fun o e => k1 o (kx _ e).symm
    unfold l_X12_line_276 at h
    refine g_iload E gdX12_line_276 4 rfl ?_
    refine g_iload_n E gdX12_line_278 rfl 1 rfl ?_
    refine g_icmp_eq E 426 gdX12_line_279 (by decide) h (fun h => ?_) (fun h => ?_)
    ·
      refine g_sub E [3] rfl ?_
      exact k1 o (Option.some.inj h).symm
    ·
      refine g_bipush E gdX12_line_282 (by decide) ?_
      refine g_istore E [(8, iv (-9)), (0, .ref (ad 0)), (2, iv x2), (4, iv x4), (5, iv x5), (6, iv x6), (7, iv x7)] gdX12_line_284 (by decide) rfl ?_
      refine g_iconst E gdX12_line_286 ?_
      refine g_istore E [(9, iv 0), (8, iv (-9)), (0, .ref (ad 0)), (2, iv x2), (4, iv x4), (5, iv x5), (6, iv x6), (7, iv x7)] gdX12_line_287 (by decide) rfl ?_
      refine g_iconst E gdX12_line_289 ?_
      refine g_istore E [(10, iv 0), (9, iv 0), (8, iv (-9)), (0, .ref (ad 0)), (2, iv x2), (4, iv x4), (5, iv x5), (6, iv x6), (7, iv x7)] gdX12_line_290 (by decide) rfl ?_
      refine g_sub E [3, 4, 5, 6, 7, 8, 2, 1, 0] rfl ?_
      exact j292 o x2 x4 x5 x6 x7 (-9) 0 0 v h k0 k1
  have j276 : ∀ (o : OO) (x2 : Int) (x4 : Int) (x5 : Int) (x6 : Int) (x7 : Int), e_X12_line_276 o x2 x4 x5 x6 x7 = some v → Go X 276 (wM g ad o) [(0, .ref (ad 0)), (2, iv x2), (4, iv x4), (5, iv x5), (6, iv x6), (7, iv x7)] [] := by
    intro o x2 x4 x5 x6 x7 h
    unfold e_X12_line_276 at h
    obtain ⟨r, hr, h⟩ := qB_of h
    refine l276 x2 x4 x5 r _ hr ?_
    ·
      intro u0 e
      have e := e.symm
      subst e
      have h : b_X12_line_426 u0 x5 = some v := h
      exact j426 u0 x5 h
  have j182 : ∀ (o : OO) (x1 : Int) (x2 : Int), b_X12_line_182 o x1 x2 = some v → Go X 182 (wM g ad o) [(0, .ref (ad 0)), (1, iv x1), (2, iv x2)] [] := by
    intro o x1 x2 h
    unfold b_X12_line_182 at h
    refine g_aload_n E gdX12_line_182 rfl 0 rfl ?_
    refine g_iconst E gdX12_line_183 ?_
    obtain ⟨r22, hc23, h⟩ := qB_of h
    refine g_Vi (r := r22) (As := [iv 0]) (rest := []) (w := wM g ad o) E (c_X12_nowInForce l g ad o 0 r22 hc23) okm_X12_nowInForce okw_X12_nowInForce w_1871 rfl (wM_0 g ad o) rfl rfl (Nat.le_of_ble_eq_true rfl) ⟨Nat.le_of_ble_eq_true rfl, Nat.le_of_ble_eq_true rfl⟩ gdX12_line_184 ?_
    refine g_istore E [(4, iv r22), (0, .ref (ad 0)), (1, iv x1), (2, iv x2)] gdX12_line_187 (by decide) rfl ?_
    refine g_aload_n E gdX12_line_189 rfl 1 rfl ?_
    refine g_iload_n E gdX12_line_190 rfl 3 rfl ?_
    refine g_iload E gdX12_line_191 0 rfl ?_
    obtain ⟨o26, hc25, h⟩ := qB_of h
    refine g_Vv (As := [iv x2, iv r22]) (rest := []) (w := wM g ad o26) E (c_X12_setLeft l g ad o x2 r22 o26 hc25) okm_X12_setLeft okw_X12_setLeft w_1875 rfl (wM_0 g ad o) rfl rfl (Nat.le_of_ble_eq_true rfl) ⟨Nat.le_of_ble_eq_true rfl, Nat.le_of_ble_eq_true rfl⟩ gdX12_line_193 ?_
    refine g_aload_n E gdX12_line_196 rfl 1 rfl ?_
    refine g_get (T := TX12) E fw_X12 0 (wM_0 g ad o26) rfl 46 (by decide) w_1512 rfl rfl gdX12_line_197 ?_
    refine g_iconst E gdX12_line_200 ?_
    refine g_iload_n E gdX12_line_201 rfl 2 rfl ?_
    refine g_imul E gdX12_line_202 ?_
    refine g_iconst E gdX12_line_203 ?_
    refine g_iadd E gdX12_line_204 ?_
    obtain ⟨hi27, h⟩ := qIn_of h
    refine g_iald E 38 (wM_38 g ad o26) (by decide) hi27 gdX12_line_205 ?_
    obtain ⟨n28, e_n28, h⟩ := qNm_of h
    refine g_nmi e_n28 ?_
    refine g_ldcw (k := 100000000) E gdX12_line_206 w_1879 (by decide) ?_
    refine g_icmp_ne E 218 gdX12_line_209 (by decide) h (fun h => ?_) (fun h => ?_)
    ·
      refine g_aload_n E gdX12_line_218 rfl 1 rfl ?_
      refine g_iconst E gdX12_line_219 ?_
      refine g_bipush E gdX12_line_220 (by decide) ?_
      obtain ⟨r29, o31, hc30, h⟩ := qB2_of h
      refine g_Vi (r := r29) (As := [iv 1, iv (-9)]) (rest := []) (w := wM g ad o31) E (c_X12_enter l g ad o26 1 (-9) (r29, o31) hc30) okm_X12_enter okw_X12_enter w_1895 rfl (wM_0 g ad o26) rfl rfl (Nat.le_of_ble_eq_true rfl) ⟨Nat.le_of_ble_eq_true rfl, Nat.le_of_ble_eq_true rfl⟩ gdX12_line_222 ?_
      refine g_istore E [(5, iv r29), (4, iv r22), (0, .ref (ad 0)), (1, iv x1), (2, iv x2)] gdX12_line_225 (by decide) rfl ?_
      refine g_aload_n E gdX12_line_227 rfl 2 rfl ?_
      refine g_get (T := TX12) E fw_X12 0 (wM_0 g ad o31) rfl 36 (by decide) w_1502 rfl rfl gdX12_line_228 ?_
      refine g_iload E gdX12_line_231 0 rfl ?_
      refine g_aload_n E gdX12_line_233 rfl 2 rfl ?_
      refine g_get (T := TX12) E fw_X12 0 (wM_0 g ad o31) rfl 47 (by decide) w_1513 rfl rfl gdX12_line_234 ?_
      refine g_iload_n E gdX12_line_237 rfl 3 rfl ?_
      obtain ⟨hi32, h⟩ := qIn_of h
      refine g_iald E 39 (wM_39 g ad o31) (by decide) hi32 gdX12_line_238 ?_
      obtain ⟨n33, e_n33, h⟩ := qNm_of h
      refine g_nmi e_n33 ?_
      refine g_aload_n E gdX12_line_239 rfl 2 rfl ?_
      refine g_get (T := TX12) E fw_X12 0 (wM_0 g ad o31) rfl 46 (by decide) w_1512 rfl rfl gdX12_line_240 ?_
      refine g_iconst E gdX12_line_243 ?_
      refine g_iload_n E gdX12_line_244 rfl 3 rfl ?_
      refine g_imul E gdX12_line_245 ?_
      refine g_iconst E gdX12_line_246 ?_
      refine g_iadd E gdX12_line_247 ?_
      obtain ⟨hi34, h⟩ := qIn_of h
      refine g_iald E 38 (wM_38 g ad o31) (by decide) hi34 gdX12_line_248 ?_
      obtain ⟨n35, e_n35, h⟩ := qNm_of h
      refine g_nmi e_n35 ?_
      refine g_iadd E gdX12_line_249 ?_
      obtain ⟨hi36, h⟩ := qIn_of h
      obtain ⟨o37, e_o37, h⟩ := qNm_of h
      refine g_iast (ws' := wM g ad o37) E 28 (wM_28 g ad o31) (by decide) hi36 (by rw [e_o37]; exact wM_s28 g ad o31 _ _) gdX12_line_250 ?_
      refine g_iload_n E gdX12_line_251 rfl 3 rfl ?_
      refine g_istore E [(6, iv x1), (5, iv r29), (4, iv r22), (0, .ref (ad 0)), (1, iv x1), (2, iv x2)] gdX12_line_252 (by decide) rfl ?_
      refine g_iconst E gdX12_line_254 ?_
      refine g_istore E [(7, iv 4), (6, iv x1), (5, iv r29), (4, iv r22), (0, .ref (ad 0)), (1, iv x1), (2, iv x2)] gdX12_line_255 (by decide) rfl ?_
      refine g_aload_n E gdX12_line_257 rfl 4 rfl ?_
      refine g_get (T := TX12) E fw_X12 0 (wM_0 g ad o37) rfl 39 (by decide) w_1505 rfl rfl gdX12_line_258 ?_
      refine g_bipush E gdX12_line_261 (by decide) ?_
      refine g_iload E gdX12_line_263 2 rfl ?_
      refine g_imul E gdX12_line_265 ?_
      refine g_iload_n E gdX12_line_266 rfl 5 rfl ?_
      obtain ⟨hi38, h⟩ := qIn_of h
      obtain ⟨o39, e_o39, h⟩ := qNm_of h
      refine g_iast (ws' := wM g ad o39) E 31 (wM_31 g ad o37) (by decide) hi38 (by rw [e_o39]; exact wM_s31 g ad o37 _ _) gdX12_line_267 ?_
      refine g_aload_n E gdX12_line_268 rfl 4 rfl ?_
      refine g_get (T := TX12) E fw_X12 0 (wM_0 g ad o39) rfl 38 (by decide) w_1504 rfl rfl gdX12_line_269 ?_
      refine g_iload E gdX12_line_272 2 rfl ?_
      refine g_iconst E gdX12_line_274 ?_
      obtain ⟨hi40, h⟩ := qIn_of h
      obtain ⟨o41, e_o41, h⟩ := qNm_of h
      refine g_iast (ws' := wM g ad o41) E 30 (wM_30 g ad o39) (by decide) hi40 (by rw [e_o41]; exact wM_s30 g ad o39 _ _) gdX12_line_275 ?_
      refine g_sub E [4, 6, 3, 2, 1, 0] rfl ?_
      exact j276 o41 x2 r22 r29 x1 4 h
    ·
      refine g_aload_n E gdX12_line_212 rfl 1 rfl ?_
      refine g_iconst E gdX12_line_213 ?_
      obtain ⟨r42, o44, hc43, h⟩ := qB2_of h
      refine g_Vi (r := r42) (As := [iv 1]) (rest := []) (w := wM g ad o44) E (c_X12_meets l g ad o26 1 (r42, o44) hc43) okm_X12_meets okw_X12_meets w_1708 rfl (wM_0 g ad o26) rfl rfl (Nat.le_of_ble_eq_true rfl) ⟨Nat.le_of_ble_eq_true rfl, Nat.le_of_ble_eq_true rfl⟩ gdX12_line_214 ?_
      exact g_iret E hQ (by rw [← Option.some.inj h]) (by rw [← Option.some.inj h]) gdX12_line_217
  have j175 : ∀ (o : OO) (x1 : Int) (x2 : Int) (x3 : Int) (x4 : Int) (y1 : Int) (y2 : Int) (v : (OO × Int) ⊕ ((OO))), b_X12_line_175 o x1 x2 x3 x4 y1 y2 = some v → (∀ (o : OO) (x4 : Int), v = .inl (o, x4) → Go X 140 (wM g ad o) [(0, .ref (ad 0)), (1, iv x1), (2, iv x2), (3, iv x3), (4, iv x4)] []) → (∀ (o : OO), v = .inr (o) → Go X 182 (wM g ad o) [(0, .ref (ad 0)), (1, iv x1), (2, iv x2)] []) → Go X 175 (wM g ad o) [(0, .ref (ad 0)), (1, iv x1), (2, iv x2), (3, iv x3), (4, iv x4)] [iv y2, iv y1, .ref (ad 39)] := by
    intro o x1 x2 x3 x4 y1 y2 v h k0 k1
    unfold b_X12_line_175 at h
    obtain ⟨hi45, h⟩ := qIn_of h
    obtain ⟨o46, e_o46, h⟩ := qNm_of h
    refine g_iast (ws' := wM g ad o46) E 39 (wM_39 g ad o) (by decide) hi45 (by rw [e_o46]; exact wM_s39 g ad o _ _) gdX12_line_175 ?_
    refine g_iinc E [(4, iv (x4 + 1)), (0, .ref (ad 0)), (1, iv x1), (2, iv x2), (3, iv x3)] gdX12_line_176 4 rfl (by decide) rfl ?_
    refine g_goto E 140 gdX12_line_179 (by decide) ?_
    refine g_sub E [1, 2, 3, 4, 0] rfl ?_
    exact k0 o46 (x4 + 1) (Option.some.inj h).symm
  have l140 : ∀ (x1 : Int) (x2 : Int) (x3 : Int) (r : (OO)) (s0 : OO × Int), loopW (fun s => l_X12_line_140 x1 x2 x3 s.1 s.2) s0 = some r → (∀ (o : OO), r = (o) → Go X 182 (wM g ad o) [(0, .ref (ad 0)), (1, iv x1), (2, iv x2)] []) → Go X 140 (wM g ad s0.1) [(0, .ref (ad 0)), (1, iv x1), (2, iv x2), (3, iv x3), (4, iv s0.2)] [] := by
    intro x1 x2 x3 r s0 h k1
    refine loop_rule (Head := fun s0 => Go X 140 (wM g ad s0.1) [(0, .ref (ad 0)), (1, iv x1), (2, iv x2), (3, iv x3), (4, iv s0.2)] []) h ?_
    intro s v h kk kx
    obtain ⟨o, x4⟩ := s
    have h : l_X12_line_140 x1 x2 x3 o x4 = some v := h
    have k0 : ∀ (o : OO) (x4 : Int), v = .inl (o, x4) → Go X 140 (wM g ad o) [(0, .ref (ad 0)), (1, iv x1), (2, iv x2), (3, iv x3), (4, iv x4)] [] := fun o x4 e => kk (o, x4) e
    have k1 : ∀ (o : OO), v = .inr (o) → Go X 182 (wM g ad o) [(0, .ref (ad 0)), (1, iv x1), (2, iv x2)] [] := fun o e => k1 o (kx _ e).symm
    unfold l_X12_line_140 at h
    refine g_iload E gdX12_line_140 4 rfl ?_
    refine g_bipush E gdX12_line_142 (by decide) ?_
    refine g_icmp_ge E 182 gdX12_line_144 (by decide) h (fun h => ?_) (fun h => ?_)
    ·
      refine g_sub E [0, 1, 2] rfl ?_
      exact k1 o (Option.some.inj h).symm
    ·
      refine g_aload_n E gdX12_line_147 rfl 0 rfl ?_
      refine g_get (T := TX12) E fw_X12 0 (wM_0 g ad o) rfl 47 (by decide) w_1513 rfl rfl gdX12_line_148 ?_
      refine g_iload E gdX12_line_151 4 rfl ?_
      refine g_aload_n E gdX12_line_153 rfl 0 rfl ?_
      refine g_get (T := TX12) E fw_X12 0 (wM_0 g ad o) rfl 15 (by decide) w_1481 rfl rfl gdX12_line_154 ?_
      refine g_iload E gdX12_line_157 4 rfl ?_
      obtain ⟨hi47, h⟩ := qIn_of h
      refine g_iald E 11 (wM_11 g ad o) (by decide) hi47 gdX12_line_159 ?_
      obtain ⟨n48, e_n48, h⟩ := qNm_of h
      refine g_nmi e_n48 ?_
      refine g_iconst E gdX12_line_160 ?_
      refine g_icmp_ne E 168 gdX12_line_161 (by decide) h (fun h => ?_) (fun h => ?_)
      ·
        refine g_aload_n E gdX12_line_168 rfl 0 rfl ?_
        refine g_iload E gdX12_line_169 4 rfl ?_
        refine g_iload_n E gdX12_line_171 rfl 3 rfl ?_
        obtain ⟨r49, hc50, h⟩ := qB_of h
        refine g_Vi (r := r49) (As := [iv x4, iv x3]) (rest := [iv x4, .ref (ad 39)]) (w := wM g ad o) E (c_X12_costOf l g ad o x4 x3 r49 hc50) okm_X12_costOf okw_X12_costOf w_1867 rfl (wM_0 g ad o) rfl rfl (Nat.le_of_ble_eq_true rfl) ⟨Nat.le_of_ble_eq_true rfl, Nat.le_of_ble_eq_true rfl⟩ gdX12_line_172 ?_
        exact j175 o x1 x2 x3 x4 x4 r49 v h k0 k1
      ·
        refine g_iconst E gdX12_line_164 ?_
        refine g_goto E 175 gdX12_line_165 (by decide) ?_
        exact j175 o x1 x2 x3 x4 x4 0 v h k0 k1
  have j140 : ∀ (o : OO) (x1 : Int) (x2 : Int) (x3 : Int) (x4 : Int), e_X12_line_140 o x1 x2 x3 x4 = some v → Go X 140 (wM g ad o) [(0, .ref (ad 0)), (1, iv x1), (2, iv x2), (3, iv x3), (4, iv x4)] [] := by
    intro o x1 x2 x3 x4 h
    unfold e_X12_line_140 at h
    obtain ⟨r, hr, h⟩ := qB_of h
    refine l140 x1 x2 x3 r _ hr ?_
    ·
      intro u0 e
      have e := e.symm
      subst e
      have h : b_X12_line_182 u0 x1 x2 = some v := h
      exact j182 u0 x1 x2 h
  have j114 : ∀ (o : OO) (x1 : Int) (x2 : Int) (x3 : Int), b_X12_line_114 o x1 x2 x3 = some v → Go X 114 (wM g ad o) [(0, .ref (ad 0)), (1, iv x1), (2, iv x2), (3, iv x3)] [] := by
    intro o x1 x2 x3 h
    unfold b_X12_line_114 at h
    refine g_aload_n E gdX12_line_114 rfl 0 rfl ?_
    refine g_get (T := TX12) E fw_X12 0 (wM_0 g ad o) rfl 15 (by decide) w_1481 rfl rfl gdX12_line_115 ?_
    refine g_iload_n E gdX12_line_118 rfl 1 rfl ?_
    obtain ⟨hi51, h⟩ := qIn_of h
    refine g_iald E 11 (wM_11 g ad o) (by decide) hi51 gdX12_line_119 ?_
    obtain ⟨n52, e_n52, h⟩ := qNm_of h
    refine g_nmi e_n52 ?_
    refine g_iconst E gdX12_line_120 ?_
    refine g_icmp_eq E 134 gdX12_line_121 (by decide) h (fun h => ?_) (fun h => ?_)
    ·
      refine g_sub E [] rfl ?_
      exact j134 o h
    ·
      refine g_aload_n E gdX12_line_124 rfl 0 rfl ?_
      refine g_get (T := TX12) E fw_X12 0 (wM_0 g ad o) rfl 15 (by decide) w_1481 rfl rfl gdX12_line_125 ?_
      refine g_iload_n E gdX12_line_128 rfl 2 rfl ?_
      obtain ⟨hi53, h⟩ := qIn_of h
      refine g_iald E 11 (wM_11 g ad o) (by decide) hi53 gdX12_line_129 ?_
      obtain ⟨n54, e_n54, h⟩ := qNm_of h
      refine g_nmi e_n54 ?_
      refine g_iconst E gdX12_line_130 ?_
      refine g_icmp_ne E 137 gdX12_line_131 (by decide) h (fun h => ?_) (fun h => ?_)
      ·
        refine g_iconst E gdX12_line_137 ?_
        refine g_istore E [(4, iv 0), (0, .ref (ad 0)), (1, iv x1), (2, iv x2), (3, iv x3)] gdX12_line_138 (by decide) rfl ?_
        refine g_sub E [1, 2, 3, 4, 0] rfl ?_
        exact j140 o x1 x2 x3 0 h
      ·
        refine g_sub E [] rfl ?_
        exact j134 o h
  have l74 : ∀ (o : OO) (x1 : Int) (x2 : Int) (x3 : Int) (r : (Unit) ⊕ (Unit)) (s0 : Int), loopW (fun s => l_X12_line_74 o x1 x2 x3 s) s0 = some r → (r = (.inl ()) → Go X 102 (wM g ad o) [(0, .ref (ad 0))] []) → (r = (.inr ()) → Go X 114 (wM g ad o) [(0, .ref (ad 0)), (1, iv x1), (2, iv x2), (3, iv x3)] []) → Go X 74 (wM g ad o) [(0, .ref (ad 0)), (1, iv x1), (2, iv x2), (3, iv x3), (4, iv s0)] [] := by
    intro o x1 x2 x3 r s0 h k1 k2
    refine loop_rule (Head := fun s0 => Go X 74 (wM g ad o) [(0, .ref (ad 0)), (1, iv x1), (2, iv x2), (3, iv x3), (4, iv s0)] []) h ?_
    intro s v h kk kx
    obtain ⟨x4, hs⟩ : ∃ q, q = s := ⟨_, rfl⟩
    subst hs
    have h : l_X12_line_74 o x1 x2 x3 x4 = some v := h
    have k0 : ∀ (x4 : Int), v = .inl x4 → Go X 74 (wM g ad o) [(0, .ref (ad 0)), (1, iv x1), (2, iv x2), (3, iv x3), (4, iv x4)] [] := fun x4 e => kk x4 e
    have k1 : v = .inr (.inl ()) → Go X 102 (wM g ad o) [(0, .ref (ad 0))] [] := fun e => k1 (kx _ e).symm
    have k2 : v = .inr (.inr ()) → Go X 114 (wM g ad o) [(0, .ref (ad 0)), (1, iv x1), (2, iv x2), (3, iv x3)] [] := fun e => k2 (kx _ e).symm
    unfold l_X12_line_74 at h
    refine g_iload E gdX12_line_74 4 rfl ?_
    refine g_iconst E gdX12_line_76 ?_
    refine g_icmp_ge E 114 gdX12_line_77 (by decide) h (fun h => ?_) (fun h => ?_)
    ·
      refine g_sub E [0, 1, 2, 3] rfl ?_
      exact k2  (Option.some.inj h).symm
    ·
      refine g_aload_n E gdX12_line_80 rfl 0 rfl ?_
      refine g_get (T := TX12) E fw_X12 0 (wM_0 g ad o) rfl 6 (by decide) w_1472 rfl rfl gdX12_line_81 ?_
      refine g_bipush E gdX12_line_84 (by decide) ?_
      refine g_iload_n E gdX12_line_86 rfl 3 rfl ?_
      refine g_imul E gdX12_line_87 ?_
      refine g_iload E gdX12_line_88 4 rfl ?_
      refine g_iadd E gdX12_line_90 ?_
      obtain ⟨hi55, h⟩ := qIn_of h
      refine g_iald E 3 (wM_3 g ad o) (by decide) hi55 gdX12_line_91 ?_
      obtain ⟨n56, e_n56, h⟩ := qNm_of h
      refine g_nmi e_n56 ?_
      refine g_iconst E gdX12_line_92 ?_
      refine g_sipush E gdX12_line_93 (by decide) ?_
      obtain ⟨r57, hc58, h⟩ := qB_of h
      refine g_Si (r := r57) (As := [iv n56, iv 0, iv 1000]) (rest := []) (w := wM g ad o) E (c_X12_in l g (wM g ad o) n56 0 1000 r57 hc58) okm_X12_in w_1706 w_1705 rfl rfl (Nat.le_of_ble_eq_true rfl) ⟨Nat.le_of_ble_eq_true rfl, Nat.le_of_ble_eq_true rfl⟩ gdX12_line_96 ?_
      refine g_if_ne E 108 gdX12_line_99 (by decide) h (fun h => ?_) (fun h => ?_)
      ·
        refine g_iinc E [(4, iv (x4 + 1)), (0, .ref (ad 0)), (1, iv x1), (2, iv x2), (3, iv x3)] gdX12_line_108 4 rfl (by decide) rfl ?_
        refine g_goto E 74 gdX12_line_111 (by decide) ?_
        refine g_sub E [1, 2, 3, 4, 0] rfl ?_
        exact k0 (x4 + 1) (Option.some.inj h).symm
      ·
        refine g_sub E [0] rfl ?_
        exact k1  (Option.some.inj h).symm
  have j74 : ∀ (o : OO) (x1 : Int) (x2 : Int) (x3 : Int) (x4 : Int), e_X12_line_74 o x1 x2 x3 x4 = some v → Go X 74 (wM g ad o) [(0, .ref (ad 0)), (1, iv x1), (2, iv x2), (3, iv x3), (4, iv x4)] [] := by
    intro o x1 x2 x3 x4 h
    unfold e_X12_line_74 at h
    obtain ⟨r, hr, h⟩ := qB_of h
    refine l74 o x1 x2 x3 r _ hr ?_ ?_
    ·
      intro e
      subst e
      have h : b_X12_line_102 o = some v := h
      exact j102 o h
    ·
      intro e
      subst e
      have h : b_X12_line_114 o x1 x2 x3 = some v := h
      exact j114 o x1 x2 x3 h
  unfold s_X12_line at h
  refine g_iload_n E gdX12_line_0 rfl 1 rfl ?_
  obtain ⟨r59, hc60, h⟩ := qB_of h
  refine g_Si (r := r59) (As := [iv x1]) (rest := []) (w := wM g ad o) E (c_X12_isCell l g (wM g ad o) x1 r59 hc60) okm_X12_isCell w_1789 w_1788 rfl rfl (Nat.le_of_ble_eq_true rfl) ⟨Nat.le_of_ble_eq_true rfl, Nat.le_of_ble_eq_true rfl⟩ gdX12_line_1 ?_
  refine g_if_eq E 26 gdX12_line_4 (by decide) h (fun h => ?_) (fun h => ?_)
  ·
    refine g_sub E [] rfl ?_
    exact j26 o h
  ·
    refine g_iload_n E gdX12_line_7 rfl 2 rfl ?_
    obtain ⟨r61, hc62, h⟩ := qB_of h
    refine g_Si (r := r61) (As := [iv x2]) (rest := []) (w := wM g ad o) E (c_X12_isCell l g (wM g ad o) x2 r61 hc62) okm_X12_isCell w_1789 w_1788 rfl rfl (Nat.le_of_ble_eq_true rfl) ⟨Nat.le_of_ble_eq_true rfl, Nat.le_of_ble_eq_true rfl⟩ gdX12_line_8 ?_
    refine g_if_eq E 26 gdX12_line_11 (by decide) h (fun h => ?_) (fun h => ?_)
    ·
      refine g_sub E [] rfl ?_
      exact j26 o h
    ·
      refine g_iload_n E gdX12_line_14 rfl 1 rfl ?_
      refine g_iload_n E gdX12_line_15 rfl 2 rfl ?_
      refine g_icmp_eq E 26 gdX12_line_16 (by decide) h (fun h => ?_) (fun h => ?_)
      ·
        refine g_sub E [] rfl ?_
        exact j26 o h
      ·
        refine g_iload_n E gdX12_line_19 rfl 3 rfl ?_
        obtain ⟨r63, hc64, h⟩ := qB_of h
        refine g_Si (r := r63) (As := [iv x3]) (rest := []) (w := wM g ad o) E (c_X12_isRow l g (wM g ad o) x3 r63 hc64) okm_X12_isRow w_1703 w_1702 rfl rfl (Nat.le_of_ble_eq_true rfl) ⟨Nat.le_of_ble_eq_true rfl, Nat.le_of_ble_eq_true rfl⟩ gdX12_line_20 ?_
        refine g_if_ne E 28 gdX12_line_23 (by decide) h (fun h => ?_) (fun h => ?_)
        ·
          refine g_aload_n E gdX12_line_28 rfl 0 rfl ?_
          refine g_get (T := TX12) E fw_X12 0 (wM_0 g ad o) rfl 32 (by decide) w_1498 rfl rfl gdX12_line_29 ?_
          refine g_bipush E gdX12_line_32 (by decide) ?_
          refine g_icmp_ne E 40 gdX12_line_34 (by decide) h (fun h => ?_) (fun h => ?_)
          ·
            refine g_aload_n E gdX12_line_40 rfl 0 rfl ?_
            refine g_get (T := TX12) E fw_X12 0 (wM_0 g ad o) rfl 5 (by decide) w_1471 rfl rfl gdX12_line_41 ?_
            refine g_iload_n E gdX12_line_44 rfl 3 rfl ?_
            obtain ⟨hi65, h⟩ := qIn_of h
            refine g_iald E 2 (wM_2 g ad o) (by decide) hi65 gdX12_line_45 ?_
            obtain ⟨n66, e_n66, h⟩ := qNm_of h
            refine g_nmi e_n66 ?_
            refine g_if_ge E 55 gdX12_line_46 (by decide) h (fun h => ?_) (fun h => ?_)
            ·
              refine g_aload_n E gdX12_line_55 rfl 0 rfl ?_
              refine g_get (T := TX12) E fw_X12 0 (wM_0 g ad o) rfl 5 (by decide) w_1471 rfl rfl gdX12_line_56 ?_
              refine g_iload_n E gdX12_line_59 rfl 3 rfl ?_
              obtain ⟨hi67, h⟩ := qIn_of h
              refine g_iald E 2 (wM_2 g ad o) (by decide) hi67 gdX12_line_60 ?_
              obtain ⟨n68, e_n68, h⟩ := qNm_of h
              refine g_nmi e_n68 ?_
              refine g_iconst E gdX12_line_61 ?_
              refine g_icmp_eq E 71 gdX12_line_62 (by decide) h (fun h => ?_) (fun h => ?_)
              ·
                refine g_iconst E gdX12_line_71 ?_
                refine g_istore E [(4, iv 0), (0, .ref (ad 0)), (1, iv x1), (2, iv x2), (3, iv x3)] gdX12_line_72 (by decide) rfl ?_
                refine g_sub E [1, 2, 3, 4, 0] rfl ?_
                exact j74 o x1 x2 x3 0 h
              ·
                refine g_aload_n E gdX12_line_65 rfl 0 rfl ?_
                refine g_iconst E gdX12_line_66 ?_
                obtain ⟨r69, o71, hc70, h⟩ := qB2_of h
                refine g_Vi (r := r69) (As := [iv 5]) (rest := []) (w := wM g ad o71) E (c_X12_meets l g ad o 5 (r69, o71) hc70) okm_X12_meets okw_X12_meets w_1708 rfl (wM_0 g ad o) rfl rfl (Nat.le_of_ble_eq_true rfl) ⟨Nat.le_of_ble_eq_true rfl, Nat.le_of_ble_eq_true rfl⟩ gdX12_line_67 ?_
                exact g_iret E hQ (by rw [← Option.some.inj h]) (by rw [← Option.some.inj h]) gdX12_line_70
            ·
              refine g_aload_n E gdX12_line_49 rfl 0 rfl ?_
              refine g_iconst E gdX12_line_50 ?_
              obtain ⟨r72, o74, hc73, h⟩ := qB2_of h
              refine g_Vi (r := r72) (As := [iv 1]) (rest := []) (w := wM g ad o74) E (c_X12_meets l g ad o 1 (r72, o74) hc73) okm_X12_meets okw_X12_meets w_1708 rfl (wM_0 g ad o) rfl rfl (Nat.le_of_ble_eq_true rfl) ⟨Nat.le_of_ble_eq_true rfl, Nat.le_of_ble_eq_true rfl⟩ gdX12_line_51 ?_
              exact g_iret E hQ (by rw [← Option.some.inj h]) (by rw [← Option.some.inj h]) gdX12_line_54
          ·
            refine g_bipush E gdX12_line_37 (by decide) ?_
            exact g_iret E hQ (by rw [← Option.some.inj h]) (by rw [← Option.some.inj h]) gdX12_line_39
        ·
          refine g_sub E [] rfl ?_
          exact j26 o h
set_option maxHeartbeats 4000000 in
set_option maxRecDepth 100000 in
theorem c_X12_mark (l : Launch) (g : GG) (ad : Nat → Nat) (o : OO) (x1 : Int) (x2 : Int) (v : Int × OO) (h : s_X12_mark o x1 x2 = some v) : CI l g yX12_mark cX12_mark 4 (some .int) 2 48 (wM g ad o) [.ref (ad 0), iv x1, iv x2] v.1 (wM g ad v.2) := by
  refine met_I (by decide) (Nat.le_of_ble_eq_true rfl) ?_
  intro X E hQ
  show Go X 0 (wM g ad o) [(0, .ref (ad 0)), (1, iv x1), (2, iv x2)] []
  have j18 : ∀ (o : OO), b_X12_mark_18 o = some v → Go X 18 (wM g ad o) [] [] := by
    intro o h
    unfold b_X12_mark_18 at h
    refine g_iconst E gdX12_mark_18 ?_
    exact g_iret E hQ (by rw [← Option.some.inj h]) (by rw [← Option.some.inj h]) gdX12_mark_19
  have j65 : ∀ (o : OO) (x1 : Int) (x2 : Int) (y0 : Int), b_X12_mark_65 o x1 x2 y0 = some v → Go X 65 (wM g ad o) [(0, .ref (ad 0)), (1, iv x1), (2, iv x2)] [iv y0] := by
    intro o x1 x2 y0 h
    unfold b_X12_mark_65 at h
    refine g_istore_n E [(3, iv y0), (0, .ref (ad 0)), (1, iv x1), (2, iv x2)] gdX12_mark_65 rfl (by decide) rfl ?_
    refine g_iload_n E gdX12_mark_66 rfl 0 rfl ?_
    refine g_if_ne E 76 gdX12_mark_67 (by decide) h (fun h => ?_) (fun h => ?_)
    ·
      refine g_iload_n E gdX12_mark_76 rfl 3 rfl ?_
      obtain ⟨h1, -, ⟨hx, h⟩ | ⟨hx0, h⟩⟩ := qEq_of h
      ·
        refine g_tabIn (kx := 1) (off := 35) E 112 gdX12_mark_77 hx (by decide) (by decide) (by decide) (by decide) (by decide) ?_
        refine g_aload_n E gdX12_mark_112 rfl 1 rfl ?_
        refine g_get (T := TX12) E fw_X12 0 (wM_0 g ad o) rfl 38 (by decide) w_1504 rfl rfl gdX12_mark_113 ?_
        refine g_iload_n E gdX12_mark_116 rfl 2 rfl ?_
        obtain ⟨hi1, h⟩ := qIn_of h
        refine g_iald E 30 (wM_30 g ad o) (by decide) hi1 gdX12_mark_117 ?_
        obtain ⟨n2, e_n2, h⟩ := qNm_of h
        refine g_nmi e_n2 ?_
        exact g_iret E hQ (by rw [← Option.some.inj h]) (by rw [← Option.some.inj h]) gdX12_mark_118
      ·
        obtain ⟨h1, -, ⟨hx, h⟩ | ⟨hx1, h⟩⟩ := qEq_of h
        ·
          refine g_tabIn (kx := 2) (off := 42) E 119 gdX12_mark_77 hx (by decide) (by decide) (by decide) (by decide) (by decide) ?_
          refine g_aload_n E gdX12_mark_119 rfl 1 rfl ?_
          refine g_get (T := TX12) E fw_X12 0 (wM_0 g ad o) rfl 39 (by decide) w_1505 rfl rfl gdX12_mark_120 ?_
          refine g_bipush E gdX12_mark_123 (by decide) ?_
          refine g_iload_n E gdX12_mark_125 rfl 2 rfl ?_
          refine g_imul E gdX12_mark_126 ?_
          obtain ⟨hi3, h⟩ := qIn_of h
          refine g_iald E 31 (wM_31 g ad o) (by decide) hi3 gdX12_mark_127 ?_
          obtain ⟨n4, e_n4, h⟩ := qNm_of h
          refine g_nmi e_n4 ?_
          exact g_iret E hQ (by rw [← Option.some.inj h]) (by rw [← Option.some.inj h]) gdX12_mark_128
        ·
          obtain ⟨h1, -, ⟨hx, h⟩ | ⟨hx2, h⟩⟩ := qEq_of h
          ·
            refine g_tabIn (kx := 3) (off := 52) E 129 gdX12_mark_77 hx (by decide) (by decide) (by decide) (by decide) (by decide) ?_
            refine g_aload_n E gdX12_mark_129 rfl 1 rfl ?_
            refine g_get (T := TX12) E fw_X12 0 (wM_0 g ad o) rfl 40 (by decide) w_1506 rfl rfl gdX12_mark_130 ?_
            refine g_iload_n E gdX12_mark_133 rfl 2 rfl ?_
            obtain ⟨hi5, h⟩ := qIn_of h
            refine g_iald E 32 (wM_32 g ad o) (by decide) hi5 gdX12_mark_134 ?_
            obtain ⟨n6, e_n6, h⟩ := qNm_of h
            refine g_nmi e_n6 ?_
            exact g_iret E hQ (by rw [← Option.some.inj h]) (by rw [← Option.some.inj h]) gdX12_mark_135
          ·
            obtain ⟨h1, -, ⟨hx, h⟩ | ⟨hx3, h⟩⟩ := qEq_of h
            ·
              refine g_tabIn (kx := 4) (off := 59) E 136 gdX12_mark_77 hx (by decide) (by decide) (by decide) (by decide) (by decide) ?_
              refine g_aload_n E gdX12_mark_136 rfl 1 rfl ?_
              refine g_get (T := TX12) E fw_X12 0 (wM_0 g ad o) rfl 41 (by decide) w_1507 rfl rfl gdX12_mark_137 ?_
              refine g_iload_n E gdX12_mark_140 rfl 2 rfl ?_
              obtain ⟨hi7, h⟩ := qIn_of h
              refine g_iald E 33 (wM_33 g ad o) (by decide) hi7 gdX12_mark_141 ?_
              obtain ⟨n8, e_n8, h⟩ := qNm_of h
              refine g_nmi e_n8 ?_
              exact g_iret E hQ (by rw [← Option.some.inj h]) (by rw [← Option.some.inj h]) gdX12_mark_142
            ·
              obtain ⟨h1, -, ⟨hx, h⟩ | ⟨hx4, h⟩⟩ := qEq_of h
              ·
                refine g_tabIn (kx := 5) (off := 66) E 143 gdX12_mark_77 hx (by decide) (by decide) (by decide) (by decide) (by decide) ?_
                refine g_aload_n E gdX12_mark_143 rfl 1 rfl ?_
                refine g_get (T := TX12) E fw_X12 0 (wM_0 g ad o) rfl 43 (by decide) w_1509 rfl rfl gdX12_mark_144 ?_
                refine g_iload_n E gdX12_mark_147 rfl 2 rfl ?_
                obtain ⟨hi9, h⟩ := qIn_of h
                refine g_iald E 35 (wM_35 g ad o) (by decide) hi9 gdX12_mark_148 ?_
                obtain ⟨n10, e_n10, h⟩ := qNm_of h
                refine g_nmi e_n10 ?_
                exact g_iret E hQ (by rw [← Option.some.inj h]) (by rw [← Option.some.inj h]) gdX12_mark_149
              ·
                refine g_tabOut E 150 gdX12_mark_77 h1 (by omega) (by decide) ?_
                refine g_aload_n E gdX12_mark_150 rfl 1 rfl ?_
                refine g_iload_n E gdX12_mark_151 rfl 2 rfl ?_
                obtain ⟨r11, hc12, h⟩ := qB_of h
                refine g_Vi (r := r11) (As := [iv x1]) (rest := []) (w := wM g ad o) E (c_X12_couldCome l g ad o x1 r11 hc12) okm_X12_couldCome okw_X12_couldCome w_1969 rfl (wM_0 g ad o) rfl rfl (Nat.le_of_ble_eq_true rfl) ⟨Nat.le_of_ble_eq_true rfl, Nat.le_of_ble_eq_true rfl⟩ gdX12_mark_152 ?_
                exact g_iret E hQ (by rw [← Option.some.inj h]) (by rw [← Option.some.inj h]) gdX12_mark_155
    ·
      refine g_aload_n E gdX12_mark_70 rfl 1 rfl ?_
      refine g_iconst E gdX12_mark_71 ?_
      obtain ⟨r13, o15, hc14, h⟩ := qB2_of h
      refine g_Vi (r := r13) (As := [iv 3]) (rest := []) (w := wM g ad o15) E (c_X12_meets l g ad o 3 (r13, o15) hc14) okm_X12_meets okw_X12_meets w_1708 rfl (wM_0 g ad o) rfl rfl (Nat.le_of_ble_eq_true rfl) ⟨Nat.le_of_ble_eq_true rfl, Nat.le_of_ble_eq_true rfl⟩ gdX12_mark_72 ?_
      exact g_iret E hQ (by rw [← Option.some.inj h]) (by rw [← Option.some.inj h]) gdX12_mark_75
  have j60 : ∀ (o : OO) (x1 : Int) (x2 : Int), b_X12_mark_60 o x1 x2 = some v → Go X 60 (wM g ad o) [(0, .ref (ad 0)), (1, iv x1), (2, iv x2)] [] := by
    intro o x1 x2 h
    unfold b_X12_mark_60 at h
    refine g_iconst E gdX12_mark_60 ?_
    refine g_goto E 65 gdX12_mark_61 (by decide) ?_
    exact j65 o x1 x2 1 h
  have j64 : ∀ (o : OO) (x1 : Int) (x2 : Int), b_X12_mark_64 o x1 x2 = some v → Go X 64 (wM g ad o) [(0, .ref (ad 0)), (1, iv x1), (2, iv x2)] [] := by
    intro o x1 x2 h
    unfold b_X12_mark_64 at h
    refine g_iconst E gdX12_mark_64 ?_
    exact j65 o x1 x2 0 h
  have j45 : ∀ (o : OO) (x1 : Int) (x2 : Int), b_X12_mark_45 o x1 x2 = some v → Go X 45 (wM g ad o) [(0, .ref (ad 0)), (1, iv x1), (2, iv x2)] [] := by
    intro o x1 x2 h
    unfold b_X12_mark_45 at h
    refine g_iload_n E gdX12_mark_45 rfl 2 rfl ?_
    refine g_iconst E gdX12_mark_46 ?_
    refine g_icmp_ne E 64 gdX12_mark_47 (by decide) h (fun h => ?_) (fun h => ?_)
    ·
      exact j64 o x1 x2 h
    ·
      refine g_aload_n E gdX12_mark_50 rfl 0 rfl ?_
      refine g_get (T := TX12) E fw_X12 0 (wM_0 g ad o) rfl 33 (by decide) w_1499 rfl rfl gdX12_mark_51 ?_
      refine g_iload_n E gdX12_mark_54 rfl 1 rfl ?_
      obtain ⟨hi16, h⟩ := qIn_of h
      refine g_iald E 25 (wM_25 g ad o) (by decide) hi16 gdX12_mark_55 ?_
      obtain ⟨n17, e_n17, h⟩ := qNm_of h
      refine g_nmi e_n17 ?_
      refine g_iconst E gdX12_mark_56 ?_
      refine g_icmp_ne E 64 gdX12_mark_57 (by decide) h (fun h => ?_) (fun h => ?_)
      ·
        exact j64 o x1 x2 h
      ·
        exact j60 o x1 x2 h
  unfold s_X12_mark at h
  refine g_aload_n E gdX12_mark_0 rfl 0 rfl ?_
  refine g_iload_n E gdX12_mark_1 rfl 1 rfl ?_
  obtain ⟨r18, hc19, h⟩ := qB_of h
  refine g_Vi (r := r18) (As := [iv x1]) (rest := []) (w := wM g ad o) E (c_X12_isMark l g ad o x1 r18 hc19) okm_X12_isMark okw_X12_isMark w_1903 rfl (wM_0 g ad o) rfl rfl (Nat.le_of_ble_eq_true rfl) ⟨Nat.le_of_ble_eq_true rfl, Nat.le_of_ble_eq_true rfl⟩ gdX12_mark_2 ?_
  refine g_if_eq E 18 gdX12_mark_5 (by decide) h (fun h => ?_) (fun h => ?_)
  ·
    refine g_sub E [] rfl ?_
    exact j18 o h
  ·
    refine g_iload_n E gdX12_mark_8 rfl 2 rfl ?_
    refine g_iconst E gdX12_mark_9 ?_
    refine g_bipush E gdX12_mark_10 (by decide) ?_
    obtain ⟨r20, hc21, h⟩ := qB_of h
    refine g_Si (r := r20) (As := [iv x2, iv 1, iv 6]) (rest := []) (w := wM g ad o) E (c_X12_in l g (wM g ad o) x2 1 6 r20 hc21) okm_X12_in w_1706 w_1705 rfl rfl (Nat.le_of_ble_eq_true rfl) ⟨Nat.le_of_ble_eq_true rfl, Nat.le_of_ble_eq_true rfl⟩ gdX12_mark_12 ?_
    refine g_if_ne E 20 gdX12_mark_15 (by decide) h (fun h => ?_) (fun h => ?_)
    ·
      refine g_aload_n E gdX12_mark_20 rfl 0 rfl ?_
      refine g_get (T := TX12) E fw_X12 0 (wM_0 g ad o) rfl 33 (by decide) w_1499 rfl rfl gdX12_mark_21 ?_
      refine g_iload_n E gdX12_mark_24 rfl 1 rfl ?_
      obtain ⟨hi22, h⟩ := qIn_of h
      refine g_iald E 25 (wM_25 g ad o) (by decide) hi22 gdX12_mark_25 ?_
      obtain ⟨n23, e_n23, h⟩ := qNm_of h
      refine g_nmi e_n23 ?_
      refine g_iload_n E gdX12_mark_26 rfl 2 rfl ?_
      refine g_icmp_eq E 60 gdX12_mark_27 (by decide) h (fun h => ?_) (fun h => ?_)
      ·
        exact j60 o x1 x2 h
      ·
        refine g_iload_n E gdX12_mark_30 rfl 2 rfl ?_
        refine g_iconst E gdX12_mark_31 ?_
        refine g_icmp_ne E 45 gdX12_mark_32 (by decide) h (fun h => ?_) (fun h => ?_)
        ·
          exact j45 o x1 x2 h
        ·
          refine g_aload_n E gdX12_mark_35 rfl 0 rfl ?_
          refine g_get (T := TX12) E fw_X12 0 (wM_0 g ad o) rfl 33 (by decide) w_1499 rfl rfl gdX12_mark_36 ?_
          refine g_iload_n E gdX12_mark_39 rfl 1 rfl ?_
          obtain ⟨hi24, h⟩ := qIn_of h
          refine g_iald E 25 (wM_25 g ad o) (by decide) hi24 gdX12_mark_40 ?_
          obtain ⟨n25, e_n25, h⟩ := qNm_of h
          refine g_nmi e_n25 ?_
          refine g_iconst E gdX12_mark_41 ?_
          refine g_icmp_eq E 60 gdX12_mark_42 (by decide) h (fun h => ?_) (fun h => ?_)
          ·
            exact j60 o x1 x2 h
          ·
            exact j45 o x1 x2 h
    ·
      refine g_sub E [] rfl ?_
      exact j18 o h
set_option maxHeartbeats 4000000 in
set_option maxRecDepth 100000 in
theorem c_X12_mean (l : Launch) (g : GG) (ad : Nat → Nat) (o : OO) (x1 : Int) (v : Int × OO) (h : s_X12_mean o x1 = some v) : CI l g yX12_mean cX12_mean 6 (some .int) 1 24 (wM g ad o) [.ref (ad 0), iv x1] v.1 (wM g ad v.2) := by
  refine met_I (by decide) (Nat.le_of_ble_eq_true rfl) ?_
  intro X E hQ
  show Go X 0 (wM g ad o) [(0, .ref (ad 0)), (1, iv x1)] []
  have j116 : ∀ (o : OO) (y0 : Int), b_X12_mean_116 o y0 = some v → Go X 116 (wM g ad o) [] [iv y0] := by
    intro o y0 h
    unfold b_X12_mean_116 at h
    exact g_iret E hQ (by rw [← Option.some.inj h]) (by rw [← Option.some.inj h]) gdX12_mean_116
  have j96 : ∀ (o : OO) (x2 : Int) (x3 : Int), b_X12_mean_96 o x2 x3 = some v → Go X 96 (wM g ad o) [(0, .ref (ad 0)), (2, iv x2), (3, iv x3)] [] := by
    intro o x2 x3 h
    unfold b_X12_mean_96 at h
    refine g_iload_n E gdX12_mean_96 rfl 1 rfl ?_
    refine g_if_ne E 108 gdX12_mean_97 (by decide) h (fun h => ?_) (fun h => ?_)
    ·
      refine g_aload_n E gdX12_mean_108 rfl 0 rfl ?_
      refine g_iload_n E gdX12_mean_109 rfl 2 rfl ?_
      refine g_iload_n E gdX12_mean_110 rfl 1 rfl ?_
      obtain ⟨hd1, h⟩ := qDv_of h
      refine g_idiv E hd1 gdX12_mean_111 ?_
      refine g_iconst E gdX12_mean_112 ?_
      obtain ⟨r2, o4, hc3, h⟩ := qB2_of h
      refine g_Vi (r := r2) (As := [iv (jq x3 x2), iv 1]) (rest := []) (w := wM g ad o4) E (c_X12_ask l g ad o (jq x3 x2) 1 (r2, o4) hc3) okm_X12_ask okw_X12_ask w_1835 rfl (wM_0 g ad o) rfl rfl (Nat.le_of_ble_eq_true rfl) ⟨Nat.le_of_ble_eq_true rfl, Nat.le_of_ble_eq_true rfl⟩ gdX12_mean_113 ?_
      refine g_sub E [] rfl ?_
      exact j116 o4 r2 h
    ·
      refine g_aload_n E gdX12_mean_100 rfl 0 rfl ?_
      refine g_iconst E gdX12_mean_101 ?_
      obtain ⟨r5, o7, hc6, h⟩ := qB2_of h
      refine g_Vi (r := r5) (As := [iv 4]) (rest := []) (w := wM g ad o7) E (c_X12_meets l g ad o 4 (r5, o7) hc6) okm_X12_meets okw_X12_meets w_1708 rfl (wM_0 g ad o) rfl rfl (Nat.le_of_ble_eq_true rfl) ⟨Nat.le_of_ble_eq_true rfl, Nat.le_of_ble_eq_true rfl⟩ gdX12_mean_102 ?_
      refine g_goto E 116 gdX12_mean_105 (by decide) ?_
      refine g_sub E [] rfl ?_
      exact j116 o7 r5 h
  have j88 : ∀ (o : OO) (x1 : Int) (x2 : Int) (x4 : Int) (y0 : Int) (y1 : Int) (v : (Int × Int × Int) ⊕ ((Int × Int))), b_X12_mean_88 o x1 x2 x4 y0 y1 = some v → (∀ (x2 : Int) (x3 : Int) (x4 : Int), v = .inl (x2, x3, x4) → Go X 18 (wM g ad o) [(0, .ref (ad 0)), (1, iv x1), (2, iv x2), (3, iv x3), (4, iv x4)] []) → (∀ (x2 : Int) (x3 : Int), v = .inr ((x2, x3)) → Go X 96 (wM g ad o) [(0, .ref (ad 0)), (2, iv x2), (3, iv x3)] []) → Go X 88 (wM g ad o) [(0, .ref (ad 0)), (1, iv x1), (2, iv x2), (4, iv x4)] [iv y1, iv y0] := by
    intro o x1 x2 x4 y0 y1 v h k0 k1
    unfold b_X12_mean_88 at h
    refine g_iadd E gdX12_mean_88 ?_
    obtain ⟨n8, e_n8, h⟩ := qNm_of h
    refine g_nmi e_n8 ?_
    refine g_istore_n E [(3, iv n8), (0, .ref (ad 0)), (1, iv x1), (2, iv x2), (4, iv x4)] gdX12_mean_89 rfl (by decide) rfl ?_
    refine g_iinc E [(4, iv (x4 + 1)), (3, iv n8), (0, .ref (ad 0)), (1, iv x1), (2, iv x2)] gdX12_mean_90 4 rfl (by decide) rfl ?_
    refine g_goto E 18 gdX12_mean_93 (by decide) ?_
    refine g_sub E [2, 3, 4, 1, 0] rfl ?_
    exact k0 x2 n8 (x4 + 1) (Option.some.inj h).symm
  have j66 : ∀ (o : OO) (x1 : Int) (x3 : Int) (x4 : Int) (x5 : Int) (y0 : Int) (y1 : Int) (v : (Int × Int × Int) ⊕ ((Int × Int))), b_X12_mean_66 o x1 x3 x4 x5 y0 y1 = some v → (∀ (x2 : Int) (x3 : Int) (x4 : Int), v = .inl (x2, x3, x4) → Go X 18 (wM g ad o) [(0, .ref (ad 0)), (1, iv x1), (2, iv x2), (3, iv x3), (4, iv x4)] []) → (∀ (x2 : Int) (x3 : Int), v = .inr ((x2, x3)) → Go X 96 (wM g ad o) [(0, .ref (ad 0)), (2, iv x2), (3, iv x3)] []) → Go X 66 (wM g ad o) [(0, .ref (ad 0)), (1, iv x1), (3, iv x3), (4, iv x4), (5, iv x5)] [iv y1, iv y0] := by
    intro o x1 x3 x4 x5 y0 y1 v h k0 k1
    unfold b_X12_mean_66 at h
    refine g_iadd E gdX12_mean_66 ?_
    obtain ⟨n9, e_n9, h⟩ := qNm_of h
    refine g_nmi e_n9 ?_
    refine g_istore_n E [(2, iv n9), (0, .ref (ad 0)), (1, iv x1), (3, iv x3), (4, iv x4), (5, iv x5)] gdX12_mean_67 rfl (by decide) rfl ?_
    refine g_iload_n E gdX12_mean_68 rfl 3 rfl ?_
    refine g_iload E gdX12_mean_69 5 rfl ?_
    refine g_if_eq E 87 gdX12_mean_71 (by decide) h (fun h => ?_) (fun h => ?_)
    ·
      refine g_iconst E gdX12_mean_87 ?_
      refine g_sub E [1, 2, 0, 4] rfl ?_
      exact j88 o x1 n9 x4 x3 0 v h k0 k1
    ·
      refine g_aload_n E gdX12_mean_74 rfl 1 rfl ?_
      refine g_iload E gdX12_mean_75 4 rfl ?_
      refine g_aload_n E gdX12_mean_77 rfl 1 rfl ?_
      refine g_get (T := TX12) E fw_X12 0 (wM_0 g ad o) rfl 4 (by decide) w_1470 rfl rfl gdX12_mean_78 ?_
      obtain ⟨r10, hc11, h⟩ := qB_of h
      refine g_Vi (r := r10) (As := [iv x4, iv (o.1 0 4)]) (rest := [iv x3]) (w := wM g ad o) E (c_X12_valueOf l g ad o x4 (o.1 0 4) r10 hc11) okm_X12_valueOf okw_X12_valueOf w_1815 rfl (wM_0 g ad o) rfl rfl (Nat.le_of_ble_eq_true rfl) ⟨Nat.le_of_ble_eq_true rfl, Nat.le_of_ble_eq_true rfl⟩ gdX12_mean_81 ?_
      refine g_goto E 88 gdX12_mean_84 (by decide) ?_
      refine g_sub E [1, 2, 0, 4] rfl ?_
      exact j88 o x1 n9 x4 x3 r10 v h k0 k1
  have j53 : ∀ (o : OO) (x1 : Int) (x2 : Int) (x3 : Int) (x4 : Int) (y0 : Int) (v : (Int × Int × Int) ⊕ ((Int × Int))), b_X12_mean_53 o x1 x2 x3 x4 y0 = some v → (∀ (x2 : Int) (x3 : Int) (x4 : Int), v = .inl (x2, x3, x4) → Go X 18 (wM g ad o) [(0, .ref (ad 0)), (1, iv x1), (2, iv x2), (3, iv x3), (4, iv x4)] []) → (∀ (x2 : Int) (x3 : Int), v = .inr ((x2, x3)) → Go X 96 (wM g ad o) [(0, .ref (ad 0)), (2, iv x2), (3, iv x3)] []) → Go X 53 (wM g ad o) [(0, .ref (ad 0)), (1, iv x1), (2, iv x2), (3, iv x3), (4, iv x4)] [iv y0] := by
    intro o x1 x2 x3 x4 y0 v h k0 k1
    unfold b_X12_mean_53 at h
    refine g_istore E [(5, iv y0), (0, .ref (ad 0)), (1, iv x1), (2, iv x2), (3, iv x3), (4, iv x4)] gdX12_mean_53 (by decide) rfl ?_
    refine g_iload_n E gdX12_mean_55 rfl 3 rfl ?_
    refine g_iload E gdX12_mean_56 0 rfl ?_
    refine g_if_eq E 65 gdX12_mean_58 (by decide) h (fun h => ?_) (fun h => ?_)
    ·
      refine g_iconst E gdX12_mean_65 ?_
      refine g_sub E [1, 2, 4, 5, 0] rfl ?_
      exact j66 o x1 x3 x4 y0 x2 0 v h k0 k1
    ·
      refine g_iconst E gdX12_mean_61 ?_
      refine g_goto E 66 gdX12_mean_62 (by decide) ?_
      refine g_sub E [1, 2, 4, 5, 0] rfl ?_
      exact j66 o x1 x3 x4 y0 x2 1 v h k0 k1
  have j52 : ∀ (o : OO) (x1 : Int) (x2 : Int) (x3 : Int) (x4 : Int) (v : (Int × Int × Int) ⊕ ((Int × Int))), b_X12_mean_52 o x1 x2 x3 x4 = some v → (∀ (x2 : Int) (x3 : Int) (x4 : Int), v = .inl (x2, x3, x4) → Go X 18 (wM g ad o) [(0, .ref (ad 0)), (1, iv x1), (2, iv x2), (3, iv x3), (4, iv x4)] []) → (∀ (x2 : Int) (x3 : Int), v = .inr ((x2, x3)) → Go X 96 (wM g ad o) [(0, .ref (ad 0)), (2, iv x2), (3, iv x3)] []) → Go X 52 (wM g ad o) [(0, .ref (ad 0)), (1, iv x1), (2, iv x2), (3, iv x3), (4, iv x4)] [] := by
    intro o x1 x2 x3 x4 v h k0 k1
    unfold b_X12_mean_52 at h
    refine g_iconst E gdX12_mean_52 ?_
    exact j53 o x1 x2 x3 x4 0 v h k0 k1
  have l18 : ∀ (o : OO) (x1 : Int) (r : (Int × Int)) (s0 : Int × Int × Int), loopW (fun s => l_X12_mean_18 o x1 s.1 s.2.1 s.2.2) s0 = some r → (∀ (x2 : Int) (x3 : Int), r = ((x2, x3)) → Go X 96 (wM g ad o) [(0, .ref (ad 0)), (2, iv x2), (3, iv x3)] []) → Go X 18 (wM g ad o) [(0, .ref (ad 0)), (1, iv x1), (2, iv s0.1), (3, iv s0.2.1), (4, iv s0.2.2)] [] := by
    intro o x1 r s0 h k1
    refine loop_rule (Head := fun s0 => Go X 18 (wM g ad o) [(0, .ref (ad 0)), (1, iv x1), (2, iv s0.1), (3, iv s0.2.1), (4, iv s0.2.2)] []) h ?_
    intro s v h kk kx
    obtain ⟨x2, x3, x4⟩ := s
    have h : l_X12_mean_18 o x1 x2 x3 x4 = some v := h
    have k0 : ∀ (x2 : Int) (x3 : Int) (x4 : Int), v = .inl (x2, x3, x4) → Go X 18 (wM g ad o) [(0, .ref (ad 0)), (1, iv x1), (2, iv x2), (3, iv x3), (4, iv x4)] [] := fun x2 x3 x4 e => kk (x2, x3, x4) e
    have k1 : ∀ (x2 : Int) (x3 : Int), v = .inr ((x2, x3)) → Go X 96 (wM g ad o) [(0, .ref (ad 0)), (2, iv x2), (3, iv x3)] [] := fun x2 x3 e => k1 x2 x3 (kx _ e).symm
    unfold l_X12_mean_18 at h
    refine g_iload E gdX12_mean_18 4 rfl ?_
    refine g_aload_n E gdX12_mean_20 rfl 0 rfl ?_
    refine g_get (T := TX12) E fw_X12 0 (wM_0 g ad o) rfl 17 (by decide) w_1483 rfl rfl gdX12_mean_21 ?_
    refine g_icmp_ge E 96 gdX12_mean_24 (by decide) h (fun h => ?_) (fun h => ?_)
    ·
      refine g_sub E [0, 2, 3] rfl ?_
      exact k1 x2 x3 (Option.some.inj h).symm
    ·
      refine g_aload_n E gdX12_mean_27 rfl 0 rfl ?_
      refine g_get (T := TX12) E fw_X12 0 (wM_0 g ad o) rfl 19 (by decide) w_1485 rfl rfl gdX12_mean_28 ?_
      refine g_iload E gdX12_mean_31 4 rfl ?_
      obtain ⟨hi12, h⟩ := qIn_of h
      refine g_iald E 14 (wM_14 g ad o) (by decide) hi12 gdX12_mean_33 ?_
      obtain ⟨n13, e_n13, h⟩ := qNm_of h
      refine g_nmi e_n13 ?_
      refine g_iload_n E gdX12_mean_34 rfl 1 rfl ?_
      refine g_icmp_ne E 52 gdX12_mean_35 (by decide) h (fun h => ?_) (fun h => ?_)
      ·
        exact j52 o x1 x2 x3 x4 v h k0 k1
      ·
        refine g_aload_n E gdX12_mean_38 rfl 0 rfl ?_
        refine g_get (T := TX12) E fw_X12 0 (wM_0 g ad o) rfl 21 (by decide) w_1487 rfl rfl gdX12_mean_39 ?_
        refine g_iload E gdX12_mean_42 4 rfl ?_
        obtain ⟨hi14, h⟩ := qIn_of h
        refine g_zald E 16 (wM_16 g ad o) (by decide) hi14 gdX12_mean_44 ?_
        obtain ⟨n15, e_n15, h⟩ := qNm_of h
        refine g_nmi e_n15 ?_
        refine g_if_ne E 52 gdX12_mean_45 (by decide) h (fun h => ?_) (fun h => ?_)
        ·
          exact j52 o x1 x2 x3 x4 v h k0 k1
        ·
          refine g_iconst E gdX12_mean_48 ?_
          refine g_goto E 53 gdX12_mean_49 (by decide) ?_
          exact j53 o x1 x2 x3 x4 1 v h k0 k1
  have j18 : ∀ (o : OO) (x1 : Int) (x2 : Int) (x3 : Int) (x4 : Int), e_X12_mean_18 o x1 x2 x3 x4 = some v → Go X 18 (wM g ad o) [(0, .ref (ad 0)), (1, iv x1), (2, iv x2), (3, iv x3), (4, iv x4)] [] := by
    intro o x1 x2 x3 x4 h
    unfold e_X12_mean_18 at h
    obtain ⟨r, hr, h⟩ := qB_of h
    refine l18 o x1 r _ hr ?_
    ·
      intro u0 u1 e
      subst e
      have h : b_X12_mean_96 o u0 u1 = some v := h
      exact j96 o u0 u1 h
  unfold s_X12_mean at h
  refine g_iload_n E gdX12_mean_0 rfl 1 rfl ?_
  refine g_iconst E gdX12_mean_1 ?_
  refine g_iconst E gdX12_mean_2 ?_
  obtain ⟨r16, hc17, h⟩ := qB_of h
  refine g_Si (r := r16) (As := [iv x1, iv 0, iv 2]) (rest := []) (w := wM g ad o) E (c_X12_in l g (wM g ad o) x1 0 2 r16 hc17) okm_X12_in w_1706 w_1705 rfl rfl (Nat.le_of_ble_eq_true rfl) ⟨Nat.le_of_ble_eq_true rfl, Nat.le_of_ble_eq_true rfl⟩ gdX12_mean_3 ?_
  refine g_if_ne E 11 gdX12_mean_6 (by decide) h (fun h => ?_) (fun h => ?_)
  ·
    refine g_iconst E gdX12_mean_11 ?_
    refine g_istore_n E [(2, iv 0), (0, .ref (ad 0)), (1, iv x1)] gdX12_mean_12 rfl (by decide) rfl ?_
    refine g_iconst E gdX12_mean_13 ?_
    refine g_istore_n E [(3, iv 0), (2, iv 0), (0, .ref (ad 0)), (1, iv x1)] gdX12_mean_14 rfl (by decide) rfl ?_
    refine g_iconst E gdX12_mean_15 ?_
    refine g_istore E [(4, iv 0), (3, iv 0), (2, iv 0), (0, .ref (ad 0)), (1, iv x1)] gdX12_mean_16 (by decide) rfl ?_
    refine g_sub E [3, 4, 2, 1, 0] rfl ?_
    exact j18 o x1 0 0 0 h
  ·
    refine g_iconst E gdX12_mean_9 ?_
    exact g_iret E hQ (by rw [← Option.some.inj h]) (by rw [← Option.some.inj h]) gdX12_mean_10
