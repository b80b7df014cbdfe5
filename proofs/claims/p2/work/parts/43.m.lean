set_option maxRecDepth 200000 in
theorem w_1734 : Cond.code yX12_isText cX12_isText 1 (some .boolean) ∈ tb := tb_mem 1734 (by rfl) rfl
set_option maxRecDepth 200000 in
theorem w_1733 : Cond.static yX12_isText ∈ tb := tb_mem 1733 (by decide +kernel) rfl
set_option maxRecDepth 200000 in
theorem w_1732 : Cond.methodLink "CityRoadModel" 220 yX12_isText ∈ tb := tb_mem 1732 (by decide +kernel) rfl
set_option maxRecDepth 200000 in
theorem w_1480 : Cond.fieldLink "CityRoadModel" 37 "CityRoadModel" "items" "[I" ∈ tb := tb_mem 1480 (by decide +kernel) rfl
set_option maxRecDepth 200000 in
theorem w_1757 : Cond.code yX12_letter cX12_letter 1 (some .int) ∈ tb := tb_mem 1757 (by rfl) rfl
set_option maxRecDepth 200000 in
theorem w_1756 : Cond.static yX12_letter ∈ tb := tb_mem 1756 (by decide +kernel) rfl
set_option maxRecDepth 200000 in
theorem w_1755 : Cond.methodLink "CityRoadModel" 232 yX12_letter ∈ tb := tb_mem 1755 (by decide +kernel) rfl
set_option maxRecDepth 200000 in
theorem w_1742 : Cond.code yX12_askedText cX12_askedText 2 (some .int) ∈ tb := tb_mem 1742 (by rfl) rfl
set_option maxRecDepth 200000 in
theorem w_1741 : Cond.instanceMethod yX12_askedText ∈ tb := tb_mem 1741 (by decide +kernel) rfl
set_option maxRecDepth 200000 in
theorem w_39 : Cond.selects "CityRoadModel" yX12_askedText yX12_askedText ∈ tb := tb_mem 39 (by decide +kernel) rfl
set_option maxRecDepth 200000 in
theorem w_1739 : Cond.methodLink "CityRoadModel" 226 yX12_askedText ∈ tb := tb_mem 1739 (by decide +kernel) rfl
set_option maxRecDepth 200000 in
theorem w_1754 : Cond.code yX12_reads cX12_reads 6 (some .int) ∈ tb := tb_mem 1754 (by rfl) rfl
set_option maxRecDepth 200000 in
theorem w_1753 : Cond.instanceMethod yX12_reads ∈ tb := tb_mem 1753 (by decide +kernel) rfl
set_option maxRecDepth 200000 in
theorem w_40 : Cond.selects "CityRoadModel" yX12_reads yX12_reads ∈ tb := tb_mem 40 (by decide +kernel) rfl
set_option maxRecDepth 200000 in
theorem w_1751 : Cond.methodLink "CityRoadModel" 235 yX12_reads ∈ tb := tb_mem 1751 (by decide +kernel) rfl
set_option maxRecDepth 200000 in
theorem w_1764 : Cond.code yX12_isDay cX12_isDay 1 (some .boolean) ∈ tb := tb_mem 1764 (by rfl) rfl
set_option maxRecDepth 200000 in
theorem w_1763 : Cond.static yX12_isDay ∈ tb := tb_mem 1763 (by decide +kernel) rfl
set_option maxRecDepth 200000 in
theorem w_1762 : Cond.methodLink "CityRoadModel" 238 yX12_isDay ∈ tb := tb_mem 1762 (by decide +kernel) rfl
set_option maxRecDepth 200000 in
theorem w_1771 : Cond.code yX12_isAsked cX12_isAsked 3 (some .boolean) ∈ tb := tb_mem 1771 (by rfl) rfl
set_option maxRecDepth 200000 in
theorem w_1770 : Cond.static yX12_isAsked ∈ tb := tb_mem 1770 (by decide +kernel) rfl
set_option maxRecDepth 200000 in
theorem w_1769 : Cond.methodLink "CityRoadModel" 251 yX12_isAsked ∈ tb := tb_mem 1769 (by decide +kernel) rfl
set_option maxRecDepth 200000 in
theorem w_1898 : Cond.code yX12_enter cX12_enter 3 (some .int) ∈ tb := tb_mem 1898 (by rfl) rfl
set_option maxRecDepth 200000 in
theorem w_1897 : Cond.instanceMethod yX12_enter ∈ tb := tb_mem 1897 (by decide +kernel) rfl
set_option maxRecDepth 200000 in
theorem w_59 : Cond.selects "CityRoadModel" yX12_enter yX12_enter ∈ tb := tb_mem 59 (by decide +kernel) rfl
set_option maxRecDepth 200000 in
theorem w_1895 : Cond.methodLink "CityRoadModel" 334 yX12_enter ∈ tb := tb_mem 1895 (by decide +kernel) rfl
set_option maxRecDepth 200000 in
theorem w_1509 : Cond.fieldLink "CityRoadModel" 114 "CityRoadModel" "first" "[I" ∈ tb := tb_mem 1509 (by decide +kernel) rfl
set_option maxRecDepth 200000 in
theorem w_1510 : Cond.fieldLink "CityRoadModel" 117 "CityRoadModel" "second" "[I" ∈ tb := tb_mem 1510 (by decide +kernel) rfl
set_option maxRecDepth 200000 in
theorem w_2086 : Cond.constantLong "CityRoadModel" 422 (10) ∈ tb := tb_mem 2086 (by decide +kernel) rfl
set_option maxRecDepth 200000 in
theorem w_1511 : Cond.fieldLink "CityRoadModel" 120 "CityRoadModel" "third" "[I" ∈ tb := tb_mem 1511 (by decide +kernel) rfl
set_option maxRecDepth 200000 in
theorem w_1972 : Cond.code yX12_couldCome cX12_couldCome 6 (some .int) ∈ tb := tb_mem 1972 (by rfl) rfl
set_option maxRecDepth 200000 in
theorem w_1971 : Cond.instanceMethod yX12_couldCome ∈ tb := tb_mem 1971 (by decide +kernel) rfl
set_option maxRecDepth 200000 in
theorem w_67 : Cond.selects "CityRoadModel" yX12_couldCome yX12_couldCome ∈ tb := tb_mem 67 (by decide +kernel) rfl
set_option maxRecDepth 200000 in
theorem w_1969 : Cond.methodLink "CityRoadModel" 361 yX12_couldCome ∈ tb := tb_mem 1969 (by decide +kernel) rfl
set_option maxRecDepth 200000 in
theorem w_2057 : Cond.code yX12_isVoidHearing cX12_isVoidHearing 2 (some .boolean) ∈ tb := tb_mem 2057 (by rfl) rfl
set_option maxRecDepth 200000 in
theorem w_2056 : Cond.instanceMethod yX12_isVoidHearing ∈ tb := tb_mem 2056 (by decide +kernel) rfl
set_option maxRecDepth 200000 in
theorem w_77 : Cond.selects "CityRoadModel" yX12_isVoidHearing yX12_isVoidHearing ∈ tb := tb_mem 77 (by decide +kernel) rfl
set_option maxRecDepth 200000 in
theorem w_2054 : Cond.methodLink "CityRoadModel" 407 yX12_isVoidHearing ∈ tb := tb_mem 2054 (by decide +kernel) rfl
set_option maxRecDepth 200000 in
theorem w_2061 : Cond.code yX12_isVoidTaking cX12_isVoidTaking 4 (some .boolean) ∈ tb := tb_mem 2061 (by rfl) rfl
set_option maxRecDepth 200000 in
theorem w_2060 : Cond.instanceMethod yX12_isVoidTaking ∈ tb := tb_mem 2060 (by decide +kernel) rfl
set_option maxRecDepth 200000 in
theorem w_78 : Cond.selects "CityRoadModel" yX12_isVoidTaking yX12_isVoidTaking ∈ tb := tb_mem 78 (by decide +kernel) rfl
set_option maxRecDepth 200000 in
theorem w_2058 : Cond.methodLink "CityRoadModel" 410 yX12_isVoidTaking ∈ tb := tb_mem 2058 (by decide +kernel) rfl
set_option maxRecDepth 200000 in
theorem w_1890 : Cond.code yX12_slope cX12_slope 4 (some .int) ∈ tb := tb_mem 1890 (by rfl) rfl
set_option maxRecDepth 200000 in
theorem w_1889 : Cond.instanceMethod yX12_slope ∈ tb := tb_mem 1889 (by decide +kernel) rfl
set_option maxRecDepth 200000 in
theorem w_57 : Cond.selects "CityRoadModel" yX12_slope yX12_slope ∈ tb := tb_mem 57 (by decide +kernel) rfl
set_option maxRecDepth 200000 in
theorem w_1887 : Cond.methodLink "CityRoadModel" 302 yX12_slope ∈ tb := tb_mem 1887 (by decide +kernel) rfl
set_option maxRecDepth 200000 in
theorem w_1512 : Cond.fieldLink "CityRoadModel" 123 "CityRoadModel" "left" "[I" ∈ tb := tb_mem 1512 (by decide +kernel) rfl
set_option maxRecDepth 200000 in
theorem w_1513 : Cond.fieldLink "CityRoadModel" 126 "CityRoadModel" "cellCosts" "[I" ∈ tb := tb_mem 1513 (by decide +kernel) rfl
set_option maxRecDepth 200000 in
theorem w_1894 : Cond.code yX12_goOn cX12_goOn 5 (some .int) ∈ tb := tb_mem 1894 (by rfl) rfl
set_option maxRecDepth 200000 in
theorem w_1893 : Cond.instanceMethod yX12_goOn ∈ tb := tb_mem 1893 (by decide +kernel) rfl
set_option maxRecDepth 200000 in
theorem w_58 : Cond.selects "CityRoadModel" yX12_goOn yX12_goOn ∈ tb := tb_mem 58 (by decide +kernel) rfl
set_option maxRecDepth 200000 in
theorem w_1891 : Cond.methodLink "CityRoadModel" 321 yX12_goOn ∈ tb := tb_mem 1891 (by decide +kernel) rfl
set_option maxRecDepth 200000 in
theorem w_1886 : Cond.code yX12_leads cX12_leads 4 (some .boolean) ∈ tb := tb_mem 1886 (by rfl) rfl
set_option maxRecDepth 200000 in
theorem w_1885 : Cond.instanceMethod yX12_leads ∈ tb := tb_mem 1885 (by decide +kernel) rfl
set_option maxRecDepth 200000 in
theorem w_56 : Cond.selects "CityRoadModel" yX12_leads yX12_leads ∈ tb := tb_mem 56 (by decide +kernel) rfl
set_option maxRecDepth 200000 in
theorem w_1883 : Cond.methodLink "CityRoadModel" 318 yX12_leads ∈ tb := tb_mem 1883 (by decide +kernel) rfl
theorem gdX12_isText_0 : decode cX12_isText 0 = .ok (.iload_n 0, 1) := by decide +kernel
theorem gdX12_isText_1 : decode cX12_isText 1 = .ok (.iconst 0, 1) := by decide +kernel
theorem gdX12_isText_2 : decode cX12_isText 2 = .ok (.iconst 3, 1) := by decide +kernel
theorem gdX12_isText_3 : decode cX12_isText 3 = .ok (.invokestatic 208, 3) := by decide +kernel
theorem gdX12_isText_6 : decode cX12_isText 6 = .ok (.ireturn, 1) := by decide +kernel
theorem gdX12_askedText_29 : decode cX12_askedText 29 = .ok (.ireturn, 1) := by decide +kernel
theorem gdX12_askedText_0 : decode cX12_askedText 0 = .ok (.iload_n 1, 1) := by decide +kernel
theorem gdX12_askedText_1 : decode cX12_askedText 1 = .ok (.invokestatic 220, 3) := by decide +kernel
theorem gdX12_askedText_4 : decode cX12_askedText 4 = .ok (.ifCond .ne 7, 3) := by decide +kernel
theorem gdX12_askedText_11 : decode cX12_askedText 11 = .ok (.aload_n 0, 1) := by decide +kernel
theorem gdX12_askedText_12 : decode cX12_askedText 12 = .ok (.getfield 22, 3) := by decide +kernel
theorem gdX12_askedText_15 : decode cX12_askedText 15 = .ok (.iload_n 1, 1) := by decide +kernel
theorem gdX12_askedText_16 : decode cX12_askedText 16 = .ok (.iaload, 1) := by decide +kernel
theorem gdX12_askedText_17 : decode cX12_askedText 17 = .ok (.ifCond .ge 11, 3) := by decide +kernel
theorem gdX12_askedText_28 : decode cX12_askedText 28 = .ok (.iconst 0, 1) := by decide +kernel
theorem gdX12_askedText_20 : decode cX12_askedText 20 = .ok (.aload_n 0, 1) := by decide +kernel
theorem gdX12_askedText_21 : decode cX12_askedText 21 = .ok (.iconst 1, 1) := by decide +kernel
theorem gdX12_askedText_22 : decode cX12_askedText 22 = .ok (.invokevirtual 216, 3) := by decide +kernel
theorem gdX12_askedText_25 : decode cX12_askedText 25 = .ok (.goto 4, 3) := by decide +kernel
theorem gdX12_askedText_7 : decode cX12_askedText 7 = .ok (.iconst (-1), 1) := by decide +kernel
theorem gdX12_askedText_8 : decode cX12_askedText 8 = .ok (.goto 21, 3) := by decide +kernel
theorem gdX12_letter_0 : decode cX12_letter 0 = .ok (.iload_n 0, 1) := by decide +kernel
theorem gdX12_letter_1 : decode cX12_letter 1 = .ok (.tableswitch 93 70 84 #[77, 93, 90, 93, 93, 83, 93, 81, 85, 93, 87, 93, 93, 75, 79], 75) := by decide +kernel
theorem gdX12_letter_78 : decode cX12_letter 78 = .ok (.iconst 1, 1) := by decide +kernel
theorem gdX12_letter_79 : decode cX12_letter 79 = .ok (.ireturn, 1) := by decide +kernel
theorem gdX12_letter_94 : decode cX12_letter 94 = .ok (.bipush (-9), 2) := by decide +kernel
theorem gdX12_letter_96 : decode cX12_letter 96 = .ok (.ireturn, 1) := by decide +kernel
theorem gdX12_letter_91 : decode cX12_letter 91 = .ok (.bipush 7, 2) := by decide +kernel
theorem gdX12_letter_93 : decode cX12_letter 93 = .ok (.ireturn, 1) := by decide +kernel
theorem gdX12_letter_84 : decode cX12_letter 84 = .ok (.iconst 4, 1) := by decide +kernel
theorem gdX12_letter_85 : decode cX12_letter 85 = .ok (.ireturn, 1) := by decide +kernel
theorem gdX12_letter_82 : decode cX12_letter 82 = .ok (.iconst 3, 1) := by decide +kernel
theorem gdX12_letter_83 : decode cX12_letter 83 = .ok (.ireturn, 1) := by decide +kernel
theorem gdX12_letter_86 : decode cX12_letter 86 = .ok (.iconst 5, 1) := by decide +kernel
theorem gdX12_letter_87 : decode cX12_letter 87 = .ok (.ireturn, 1) := by decide +kernel
theorem gdX12_letter_88 : decode cX12_letter 88 = .ok (.bipush 6, 2) := by decide +kernel
theorem gdX12_letter_90 : decode cX12_letter 90 = .ok (.ireturn, 1) := by decide +kernel
theorem gdX12_letter_76 : decode cX12_letter 76 = .ok (.iconst 0, 1) := by decide +kernel
theorem gdX12_letter_77 : decode cX12_letter 77 = .ok (.ireturn, 1) := by decide +kernel
theorem gdX12_letter_80 : decode cX12_letter 80 = .ok (.iconst 2, 1) := by decide +kernel
theorem gdX12_letter_81 : decode cX12_letter 81 = .ok (.ireturn, 1) := by decide +kernel
theorem gdX12_reads_65 : decode cX12_reads 65 = .ok (.iload_n 2, 1) := by decide +kernel
theorem gdX12_reads_66 : decode cX12_reads 66 = .ok (.ireturn, 1) := by decide +kernel
theorem gdX12_reads_149 : decode cX12_reads 149 = .ok (.iload_n 2, 1) := by decide +kernel
theorem gdX12_reads_150 : decode cX12_reads 150 = .ok (.ireturn, 1) := by decide +kernel
theorem gdX12_reads_165 : decode cX12_reads 165 = .ok (.bipush (-9), 2) := by decide +kernel
theorem gdX12_reads_167 : decode cX12_reads 167 = .ok (.ireturn, 1) := by decide +kernel
theorem gdX12_reads_144 : decode cX12_reads 144 = .ok (.iload 4, 2) := by decide +kernel
theorem gdX12_reads_146 : decode cX12_reads 146 = .ok (.ifCond .ne 5, 3) := by decide +kernel
theorem gdX12_reads_151 : decode cX12_reads 151 = .ok (.aload_n 0, 1) := by decide +kernel
theorem gdX12_reads_152 : decode cX12_reads 152 = .ok (.getfield 37, 3) := by decide +kernel
theorem gdX12_reads_155 : decode cX12_reads 155 = .ok (.iload_n 3, 1) := by decide +kernel
theorem gdX12_reads_156 : decode cX12_reads 156 = .ok (.invokestatic 232, 3) := by decide +kernel
theorem gdX12_reads_159 : decode cX12_reads 159 = .ok (.iload 5, 2) := by decide +kernel
theorem gdX12_reads_161 : decode cX12_reads 161 = .ok (.iastore, 1) := by decide +kernel
theorem gdX12_reads_162 : decode cX12_reads 162 = .ok (.goto (-138), 3) := by decide +kernel
theorem gdX12_reads_76 : decode cX12_reads 76 = .ok (.iload_n 2, 1) := by decide +kernel
theorem gdX12_reads_77 : decode cX12_reads 77 = .ok (.aload_n 0, 1) := by decide +kernel
theorem gdX12_reads_78 : decode cX12_reads 78 = .ok (.getfield 22, 3) := by decide +kernel
theorem gdX12_reads_81 : decode cX12_reads 81 = .ok (.iload_n 1, 1) := by decide +kernel
theorem gdX12_reads_82 : decode cX12_reads 82 = .ok (.iaload, 1) := by decide +kernel
theorem gdX12_reads_83 : decode cX12_reads 83 = .ok (.if_icmp .ge 61, 3) := by decide +kernel
theorem gdX12_reads_86 : decode cX12_reads 86 = .ok (.iload 4, 2) := by decide +kernel
theorem gdX12_reads_88 : decode cX12_reads 88 = .ok (.iconst 4, 1) := by decide +kernel
theorem gdX12_reads_89 : decode cX12_reads 89 = .ok (.if_icmp .ge 55, 3) := by decide +kernel
theorem gdX12_reads_92 : decode cX12_reads 92 = .ok (.aload_n 0, 1) := by decide +kernel
theorem gdX12_reads_93 : decode cX12_reads 93 = .ok (.getfield 25, 3) := by decide +kernel
theorem gdX12_reads_96 : decode cX12_reads 96 = .ok (.bipush 40, 2) := by decide +kernel
theorem gdX12_reads_98 : decode cX12_reads 98 = .ok (.iload_n 1, 1) := by decide +kernel
theorem gdX12_reads_99 : decode cX12_reads 99 = .ok (.imul, 1) := by decide +kernel
theorem gdX12_reads_100 : decode cX12_reads 100 = .ok (.iload_n 2, 1) := by decide +kernel
theorem gdX12_reads_101 : decode cX12_reads 101 = .ok (.iadd, 1) := by decide +kernel
theorem gdX12_reads_102 : decode cX12_reads 102 = .ok (.iaload, 1) := by decide +kernel
theorem gdX12_reads_103 : decode cX12_reads 103 = .ok (.bipush 48, 2) := by decide +kernel
theorem gdX12_reads_105 : decode cX12_reads 105 = .ok (.bipush 57, 2) := by decide +kernel
theorem gdX12_reads_107 : decode cX12_reads 107 = .ok (.invokestatic 208, 3) := by decide +kernel
theorem gdX12_reads_110 : decode cX12_reads 110 = .ok (.ifCond .eq 34, 3) := by decide +kernel
theorem gdX12_reads_113 : decode cX12_reads 113 = .ok (.bipush 10, 2) := by decide +kernel
theorem gdX12_reads_115 : decode cX12_reads 115 = .ok (.iload 5, 2) := by decide +kernel
theorem gdX12_reads_117 : decode cX12_reads 117 = .ok (.imul, 1) := by decide +kernel
theorem gdX12_reads_118 : decode cX12_reads 118 = .ok (.aload_n 0, 1) := by decide +kernel
theorem gdX12_reads_119 : decode cX12_reads 119 = .ok (.getfield 25, 3) := by decide +kernel
theorem gdX12_reads_122 : decode cX12_reads 122 = .ok (.bipush 40, 2) := by decide +kernel
theorem gdX12_reads_124 : decode cX12_reads 124 = .ok (.iload_n 1, 1) := by decide +kernel
theorem gdX12_reads_125 : decode cX12_reads 125 = .ok (.imul, 1) := by decide +kernel
theorem gdX12_reads_126 : decode cX12_reads 126 = .ok (.iload_n 2, 1) := by decide +kernel
theorem gdX12_reads_127 : decode cX12_reads 127 = .ok (.iadd, 1) := by decide +kernel
theorem gdX12_reads_128 : decode cX12_reads 128 = .ok (.iaload, 1) := by decide +kernel
theorem gdX12_reads_129 : decode cX12_reads 129 = .ok (.iadd, 1) := by decide +kernel
theorem gdX12_reads_130 : decode cX12_reads 130 = .ok (.bipush 48, 2) := by decide +kernel
theorem gdX12_reads_132 : decode cX12_reads 132 = .ok (.isub, 1) := by decide +kernel
theorem gdX12_reads_133 : decode cX12_reads 133 = .ok (.istore 5, 2) := by decide +kernel
theorem gdX12_reads_135 : decode cX12_reads 135 = .ok (.iinc 4 1, 3) := by decide +kernel
theorem gdX12_reads_138 : decode cX12_reads 138 = .ok (.iinc 2 1, 3) := by decide +kernel
theorem gdX12_reads_141 : decode cX12_reads 141 = .ok (.goto (-65), 3) := by decide +kernel
theorem gdX12_reads_24 : decode cX12_reads 24 = .ok (.iload_n 2, 1) := by decide +kernel
theorem gdX12_reads_25 : decode cX12_reads 25 = .ok (.aload_n 0, 1) := by decide +kernel
theorem gdX12_reads_26 : decode cX12_reads 26 = .ok (.getfield 22, 3) := by decide +kernel
theorem gdX12_reads_29 : decode cX12_reads 29 = .ok (.iload_n 1, 1) := by decide +kernel
theorem gdX12_reads_30 : decode cX12_reads 30 = .ok (.iaload, 1) := by decide +kernel
theorem gdX12_reads_31 : decode cX12_reads 31 = .ok (.if_icmp .ge 134, 3) := by decide +kernel
theorem gdX12_reads_34 : decode cX12_reads 34 = .ok (.aload_n 0, 1) := by decide +kernel
theorem gdX12_reads_35 : decode cX12_reads 35 = .ok (.getfield 25, 3) := by decide +kernel
theorem gdX12_reads_38 : decode cX12_reads 38 = .ok (.bipush 40, 2) := by decide +kernel
theorem gdX12_reads_40 : decode cX12_reads 40 = .ok (.iload_n 1, 1) := by decide +kernel
theorem gdX12_reads_41 : decode cX12_reads 41 = .ok (.imul, 1) := by decide +kernel
theorem gdX12_reads_42 : decode cX12_reads 42 = .ok (.iload_n 2, 1) := by decide +kernel
theorem gdX12_reads_43 : decode cX12_reads 43 = .ok (.iadd, 1) := by decide +kernel
theorem gdX12_reads_44 : decode cX12_reads 44 = .ok (.iaload, 1) := by decide +kernel
theorem gdX12_reads_45 : decode cX12_reads 45 = .ok (.istore_n 3, 1) := by decide +kernel
theorem gdX12_reads_46 : decode cX12_reads 46 = .ok (.iload_n 3, 1) := by decide +kernel
theorem gdX12_reads_47 : decode cX12_reads 47 = .ok (.bipush 32, 2) := by decide +kernel
theorem gdX12_reads_49 : decode cX12_reads 49 = .ok (.if_icmp .ne 9, 3) := by decide +kernel
theorem gdX12_reads_58 : decode cX12_reads 58 = .ok (.iload_n 3, 1) := by decide +kernel
theorem gdX12_reads_59 : decode cX12_reads 59 = .ok (.invokestatic 232, 3) := by decide +kernel
theorem gdX12_reads_62 : decode cX12_reads 62 = .ok (.ifCond .ge 5, 3) := by decide +kernel
theorem gdX12_reads_67 : decode cX12_reads 67 = .ok (.iinc 2 1, 3) := by decide +kernel
theorem gdX12_reads_70 : decode cX12_reads 70 = .ok (.iconst 0, 1) := by decide +kernel
theorem gdX12_reads_71 : decode cX12_reads 71 = .ok (.istore 4, 2) := by decide +kernel
theorem gdX12_reads_73 : decode cX12_reads 73 = .ok (.iconst 0, 1) := by decide +kernel
theorem gdX12_reads_74 : decode cX12_reads 74 = .ok (.istore 5, 2) := by decide +kernel
theorem gdX12_reads_52 : decode cX12_reads 52 = .ok (.iinc 2 1, 3) := by decide +kernel
theorem gdX12_reads_55 : decode cX12_reads 55 = .ok (.goto (-31), 3) := by decide +kernel
theorem gdX12_reads_22 : decode cX12_reads 22 = .ok (.iconst 0, 1) := by decide +kernel
theorem gdX12_reads_23 : decode cX12_reads 23 = .ok (.istore_n 2, 1) := by decide +kernel
theorem gdX12_reads_2 : decode cX12_reads 2 = .ok (.iload_n 2, 1) := by decide +kernel
theorem gdX12_reads_3 : decode cX12_reads 3 = .ok (.bipush 8, 2) := by decide +kernel
theorem gdX12_reads_5 : decode cX12_reads 5 = .ok (.if_icmp .ge 17, 3) := by decide +kernel
theorem gdX12_reads_8 : decode cX12_reads 8 = .ok (.aload_n 0, 1) := by decide +kernel
theorem gdX12_reads_9 : decode cX12_reads 9 = .ok (.getfield 37, 3) := by decide +kernel
theorem gdX12_reads_12 : decode cX12_reads 12 = .ok (.iload_n 2, 1) := by decide +kernel
theorem gdX12_reads_13 : decode cX12_reads 13 = .ok (.bipush (-9), 2) := by decide +kernel
theorem gdX12_reads_15 : decode cX12_reads 15 = .ok (.iastore, 1) := by decide +kernel
theorem gdX12_reads_16 : decode cX12_reads 16 = .ok (.iinc 2 1, 3) := by decide +kernel
theorem gdX12_reads_19 : decode cX12_reads 19 = .ok (.goto (-17), 3) := by decide +kernel
theorem gdX12_reads_0 : decode cX12_reads 0 = .ok (.iconst 0, 1) := by decide +kernel
theorem gdX12_reads_1 : decode cX12_reads 1 = .ok (.istore_n 2, 1) := by decide +kernel
theorem gdX12_fault_19 : decode cX12_fault 19 = .ok (.ireturn, 1) := by decide +kernel
theorem gdX12_fault_0 : decode cX12_fault 0 = .ok (.aload_n 0, 1) := by decide +kernel
theorem gdX12_fault_1 : decode cX12_fault 1 = .ok (.iload_n 1, 1) := by decide +kernel
theorem gdX12_fault_2 : decode cX12_fault 2 = .ok (.invokevirtual 226, 3) := by decide +kernel
theorem gdX12_fault_5 : decode cX12_fault 5 = .ok (.istore_n 2, 1) := by decide +kernel
theorem gdX12_fault_6 : decode cX12_fault 6 = .ok (.iload_n 2, 1) := by decide +kernel
theorem gdX12_fault_7 : decode cX12_fault 7 = .ok (.ifCond .ge 7, 3) := by decide +kernel
theorem gdX12_fault_14 : decode cX12_fault 14 = .ok (.aload_n 0, 1) := by decide +kernel
theorem gdX12_fault_15 : decode cX12_fault 15 = .ok (.iload_n 1, 1) := by decide +kernel
theorem gdX12_fault_16 : decode cX12_fault 16 = .ok (.invokevirtual 235, 3) := by decide +kernel
theorem gdX12_fault_10 : decode cX12_fault 10 = .ok (.iload_n 2, 1) := by decide +kernel
theorem gdX12_fault_11 : decode cX12_fault 11 = .ok (.goto 8, 3) := by decide +kernel
theorem gdX12_finding_0 : decode cX12_finding 0 = .ok (.aload_n 0, 1) := by decide +kernel
theorem gdX12_finding_1 : decode cX12_finding 1 = .ok (.getfield 202, 3) := by decide +kernel
theorem gdX12_finding_4 : decode cX12_finding 4 = .ok (.ireturn, 1) := by decide +kernel
theorem gdX12_findings_19 : decode cX12_findings 19 = .ok (.ireturn, 1) := by decide +kernel
theorem gdX12_findings_0 : decode cX12_findings 0 = .ok (.iload_n 1, 1) := by decide +kernel
theorem gdX12_findings_1 : decode cX12_findings 1 = .ok (.iconst 1, 1) := by decide +kernel
theorem gdX12_findings_2 : decode cX12_findings 2 = .ok (.iconst 5, 1) := by decide +kernel
theorem gdX12_findings_3 : decode cX12_findings 3 = .ok (.invokestatic 208, 3) := by decide +kernel
theorem gdX12_findings_6 : decode cX12_findings 6 = .ok (.ifCond .eq 12, 3) := by decide +kernel
theorem gdX12_findings_18 : decode cX12_findings 18 = .ok (.iconst (-1), 1) := by decide +kernel
theorem gdX12_findings_9 : decode cX12_findings 9 = .ok (.aload_n 0, 1) := by decide +kernel
theorem gdX12_findings_10 : decode cX12_findings 10 = .ok (.getfield 7, 3) := by decide +kernel
theorem gdX12_findings_13 : decode cX12_findings 13 = .ok (.iload_n 1, 1) := by decide +kernel
theorem gdX12_findings_14 : decode cX12_findings 14 = .ok (.iaload, 1) := by decide +kernel
theorem gdX12_findings_15 : decode cX12_findings 15 = .ok (.goto 4, 3) := by decide +kernel
theorem gdX12_isDay_0 : decode cX12_isDay 0 = .ok (.iload_n 0, 1) := by decide +kernel
theorem gdX12_isDay_1 : decode cX12_isDay 1 = .ok (.iconst 0, 1) := by decide +kernel
theorem gdX12_isDay_2 : decode cX12_isDay 2 = .ok (.sipush 999, 3) := by decide +kernel
theorem gdX12_isDay_5 : decode cX12_isDay 5 = .ok (.invokestatic 208, 3) := by decide +kernel
theorem gdX12_isDay_8 : decode cX12_isDay 8 = .ok (.ireturn, 1) := by decide +kernel
theorem gdX12_isAsked_29 : decode cX12_isAsked 29 = .ok (.ireturn, 1) := by decide +kernel
theorem gdX12_isAsked_28 : decode cX12_isAsked 28 = .ok (.iconst 0, 1) := by decide +kernel
theorem gdX12_isAsked_0 : decode cX12_isAsked 0 = .ok (.iload_n 0, 1) := by decide +kernel
theorem gdX12_isAsked_1 : decode cX12_isAsked 1 = .ok (.iconst 0, 1) := by decide +kernel
theorem gdX12_isAsked_2 : decode cX12_isAsked 2 = .ok (.bipush 7, 2) := by decide +kernel
theorem gdX12_isAsked_4 : decode cX12_isAsked 4 = .ok (.invokestatic 208, 3) := by decide +kernel
theorem gdX12_isAsked_7 : decode cX12_isAsked 7 = .ok (.ifCond .eq 21, 3) := by decide +kernel
theorem gdX12_isAsked_10 : decode cX12_isAsked 10 = .ok (.iload_n 1, 1) := by decide +kernel
theorem gdX12_isAsked_11 : decode cX12_isAsked 11 = .ok (.invokestatic 238, 3) := by decide +kernel
theorem gdX12_isAsked_14 : decode cX12_isAsked 14 = .ok (.ifCond .eq 14, 3) := by decide +kernel
theorem gdX12_isAsked_17 : decode cX12_isAsked 17 = .ok (.iload_n 2, 1) := by decide +kernel
theorem gdX12_isAsked_18 : decode cX12_isAsked 18 = .ok (.invokestatic 238, 3) := by decide +kernel
theorem gdX12_isAsked_21 : decode cX12_isAsked 21 = .ok (.ifCond .eq 7, 3) := by decide +kernel
theorem gdX12_isAsked_24 : decode cX12_isAsked 24 = .ok (.iconst 1, 1) := by decide +kernel
theorem gdX12_isAsked_25 : decode cX12_isAsked 25 = .ok (.goto 4, 3) := by decide +kernel
theorem gdX12_force_20 : decode cX12_force 20 = .ok (.ireturn, 1) := by decide +kernel
theorem gdX12_force_0 : decode cX12_force 0 = .ok (.iload_n 1, 1) := by decide +kernel
theorem gdX12_force_1 : decode cX12_force 1 = .ok (.iload_n 2, 1) := by decide +kernel
theorem gdX12_force_2 : decode cX12_force 2 = .ok (.iload_n 3, 1) := by decide +kernel
theorem gdX12_force_3 : decode cX12_force 3 = .ok (.invokestatic 251, 3) := by decide +kernel
theorem gdX12_force_6 : decode cX12_force 6 = .ok (.ifCond .eq 13, 3) := by decide +kernel
theorem gdX12_force_19 : decode cX12_force 19 = .ok (.iconst (-1), 1) := by decide +kernel
theorem gdX12_force_9 : decode cX12_force 9 = .ok (.aload_n 0, 1) := by decide +kernel
theorem gdX12_force_10 : decode cX12_force 10 = .ok (.iload_n 1, 1) := by decide +kernel
theorem gdX12_force_11 : decode cX12_force 11 = .ok (.iload_n 2, 1) := by decide +kernel
theorem gdX12_force_12 : decode cX12_force 12 = .ok (.iload_n 3, 1) := by decide +kernel
theorem gdX12_force_13 : decode cX12_force 13 = .ok (.invokevirtual 248, 3) := by decide +kernel
theorem gdX12_force_16 : decode cX12_force 16 = .ok (.goto 4, 3) := by decide +kernel
theorem gdX12_enter_0 : decode cX12_enter 0 = .ok (.aload_n 0, 1) := by decide +kernel
theorem gdX12_enter_1 : decode cX12_enter 1 = .ok (.getfield 83, 3) := by decide +kernel
theorem gdX12_enter_4 : decode cX12_enter 4 = .ok (.aload_n 0, 1) := by decide +kernel
theorem gdX12_enter_5 : decode cX12_enter 5 = .ok (.getfield 305, 3) := by decide +kernel
theorem gdX12_enter_8 : decode cX12_enter 8 = .ok (.iload_n 1, 1) := by decide +kernel
theorem gdX12_enter_9 : decode cX12_enter 9 = .ok (.iastore, 1) := by decide +kernel
theorem gdX12_enter_10 : decode cX12_enter 10 = .ok (.aload_n 0, 1) := by decide +kernel
theorem gdX12_enter_11 : decode cX12_enter 11 = .ok (.getfield 86, 3) := by decide +kernel
theorem gdX12_enter_14 : decode cX12_enter 14 = .ok (.aload_n 0, 1) := by decide +kernel
theorem gdX12_enter_15 : decode cX12_enter 15 = .ok (.getfield 305, 3) := by decide +kernel
theorem gdX12_enter_18 : decode cX12_enter 18 = .ok (.aload_n 0, 1) := by decide +kernel
theorem gdX12_enter_19 : decode cX12_enter 19 = .ok (.getfield 229, 3) := by decide +kernel
theorem gdX12_enter_22 : decode cX12_enter 22 = .ok (.iastore, 1) := by decide +kernel
theorem gdX12_enter_23 : decode cX12_enter 23 = .ok (.aload_n 0, 1) := by decide +kernel
theorem gdX12_enter_24 : decode cX12_enter 24 = .ok (.getfield 89, 3) := by decide +kernel
theorem gdX12_enter_27 : decode cX12_enter 27 = .ok (.aload_n 0, 1) := by decide +kernel
theorem gdX12_enter_28 : decode cX12_enter 28 = .ok (.getfield 305, 3) := by decide +kernel
theorem gdX12_enter_31 : decode cX12_enter 31 = .ok (.iload_n 2, 1) := by decide +kernel
theorem gdX12_enter_32 : decode cX12_enter 32 = .ok (.iastore, 1) := by decide +kernel
theorem gdX12_enter_33 : decode cX12_enter 33 = .ok (.aload_n 0, 1) := by decide +kernel
theorem gdX12_enter_34 : decode cX12_enter 34 = .ok (.getfield 95, 3) := by decide +kernel
theorem gdX12_enter_37 : decode cX12_enter 37 = .ok (.aload_n 0, 1) := by decide +kernel
theorem gdX12_enter_38 : decode cX12_enter 38 = .ok (.getfield 305, 3) := by decide +kernel
theorem gdX12_enter_41 : decode cX12_enter 41 = .ok (.bipush (-9), 2) := by decide +kernel
theorem gdX12_enter_43 : decode cX12_enter 43 = .ok (.iastore, 1) := by decide +kernel
theorem gdX12_enter_44 : decode cX12_enter 44 = .ok (.aload_n 0, 1) := by decide +kernel
theorem gdX12_enter_45 : decode cX12_enter 45 = .ok (.getfield 98, 3) := by decide +kernel
theorem gdX12_enter_48 : decode cX12_enter 48 = .ok (.aload_n 0, 1) := by decide +kernel
theorem gdX12_enter_49 : decode cX12_enter 49 = .ok (.getfield 305, 3) := by decide +kernel
theorem gdX12_enter_52 : decode cX12_enter 52 = .ok (.iconst 0, 1) := by decide +kernel
theorem gdX12_enter_53 : decode cX12_enter 53 = .ok (.iastore, 1) := by decide +kernel
theorem gdX12_enter_54 : decode cX12_enter 54 = .ok (.aload_n 0, 1) := by decide +kernel
theorem gdX12_enter_55 : decode cX12_enter 55 = .ok (.dup, 1) := by decide +kernel
theorem gdX12_enter_56 : decode cX12_enter 56 = .ok (.getfield 305, 3) := by decide +kernel
theorem gdX12_enter_59 : decode cX12_enter 59 = .ok (.iconst 1, 1) := by decide +kernel
theorem gdX12_enter_60 : decode cX12_enter 60 = .ok (.iadd, 1) := by decide +kernel
theorem gdX12_enter_61 : decode cX12_enter 61 = .ok (.putfield 305, 3) := by decide +kernel
theorem gdX12_enter_64 : decode cX12_enter 64 = .ok (.aload_n 0, 1) := by decide +kernel
theorem gdX12_enter_65 : decode cX12_enter 65 = .ok (.getfield 305, 3) := by decide +kernel
theorem gdX12_enter_68 : decode cX12_enter 68 = .ok (.iconst 1, 1) := by decide +kernel
theorem gdX12_enter_69 : decode cX12_enter 69 = .ok (.isub, 1) := by decide +kernel
theorem gdX12_enter_70 : decode cX12_enter 70 = .ok (.ireturn, 1) := by decide +kernel
theorem gdX12_grant_17 : decode cX12_grant 17 = .ok (.iconst (-1), 1) := by decide +kernel
theorem gdX12_grant_18 : decode cX12_grant 18 = .ok (.ireturn, 1) := by decide +kernel
theorem gdX12_grant_0 : decode cX12_grant 0 = .ok (.iload_n 1, 1) := by decide +kernel
theorem gdX12_grant_1 : decode cX12_grant 1 = .ok (.iconst 1, 1) := by decide +kernel
theorem gdX12_grant_2 : decode cX12_grant 2 = .ok (.bipush 10, 2) := by decide +kernel
theorem gdX12_grant_4 : decode cX12_grant 4 = .ok (.invokestatic 208, 3) := by decide +kernel
theorem gdX12_grant_7 : decode cX12_grant 7 = .ok (.ifCond .eq 10, 3) := by decide +kernel
theorem gdX12_grant_10 : decode cX12_grant 10 = .ok (.iload_n 2, 1) := by decide +kernel
theorem gdX12_grant_11 : decode cX12_grant 11 = .ok (.invokestatic 238, 3) := by decide +kernel
theorem gdX12_grant_14 : decode cX12_grant 14 = .ok (.ifCond .ne 5, 3) := by decide +kernel
theorem gdX12_grant_19 : decode cX12_grant 19 = .ok (.aload_n 0, 1) := by decide +kernel
theorem gdX12_grant_20 : decode cX12_grant 20 = .ok (.getfield 305, 3) := by decide +kernel
theorem gdX12_grant_23 : decode cX12_grant 23 = .ok (.bipush 24, 2) := by decide +kernel
theorem gdX12_grant_25 : decode cX12_grant 25 = .ok (.if_icmp .ne 6, 3) := by decide +kernel
theorem gdX12_grant_31 : decode cX12_grant 31 = .ok (.aload_n 0, 1) := by decide +kernel
theorem gdX12_grant_32 : decode cX12_grant 32 = .ok (.iconst 5, 1) := by decide +kernel
theorem gdX12_grant_33 : decode cX12_grant 33 = .ok (.bipush (-9), 2) := by decide +kernel
theorem gdX12_grant_35 : decode cX12_grant 35 = .ok (.invokevirtual 334, 3) := by decide +kernel
theorem gdX12_grant_38 : decode cX12_grant 38 = .ok (.istore_n 3, 1) := by decide +kernel
theorem gdX12_grant_39 : decode cX12_grant 39 = .ok (.aload_n 0, 1) := by decide +kernel
theorem gdX12_grant_40 : decode cX12_grant 40 = .ok (.getfield 114, 3) := by decide +kernel
theorem gdX12_grant_43 : decode cX12_grant 43 = .ok (.iload_n 3, 1) := by decide +kernel
theorem gdX12_grant_44 : decode cX12_grant 44 = .ok (.iload_n 1, 1) := by decide +kernel
theorem gdX12_grant_45 : decode cX12_grant 45 = .ok (.iastore, 1) := by decide +kernel
theorem gdX12_grant_46 : decode cX12_grant 46 = .ok (.aload_n 0, 1) := by decide +kernel
theorem gdX12_grant_47 : decode cX12_grant 47 = .ok (.getfield 117, 3) := by decide +kernel
theorem gdX12_grant_50 : decode cX12_grant 50 = .ok (.iload_n 3, 1) := by decide +kernel
theorem gdX12_grant_51 : decode cX12_grant 51 = .ok (.iload_n 2, 1) := by decide +kernel
theorem gdX12_grant_52 : decode cX12_grant 52 = .ok (.iastore, 1) := by decide +kernel
theorem gdX12_grant_53 : decode cX12_grant 53 = .ok (.iload_n 3, 1) := by decide +kernel
theorem gdX12_grant_54 : decode cX12_grant 54 = .ok (.ireturn, 1) := by decide +kernel
theorem gdX12_grant_28 : decode cX12_grant 28 = .ok (.bipush (-2), 2) := by decide +kernel
theorem gdX12_grant_30 : decode cX12_grant 30 = .ok (.ireturn, 1) := by decide +kernel
theorem gdX12_grants_16 : decode cX12_grants 16 = .ok (.iconst (-1), 1) := by decide +kernel
theorem gdX12_grants_17 : decode cX12_grants 17 = .ok (.ireturn, 1) := by decide +kernel
theorem gdX12_grants_36 : decode cX12_grants 36 = .ok (.aload_n 0, 1) := by decide +kernel
theorem gdX12_grants_37 : decode cX12_grants 37 = .ok (.iconst 3, 1) := by decide +kernel
theorem gdX12_grants_38 : decode cX12_grants 38 = .ok (.invokevirtual 216, 3) := by decide +kernel
theorem gdX12_grants_41 : decode cX12_grants 41 = .ok (.ireturn, 1) := by decide +kernel
theorem gdX12_grants_110 : decode cX12_grants 110 = .ok (.invokevirtual 290, 3) := by decide +kernel
theorem gdX12_grants_113 : decode cX12_grants 113 = .ok (.ireturn, 1) := by decide +kernel
theorem gdX12_grants_96 : decode cX12_grants 96 = .ok (.putfield 413, 3) := by decide +kernel
theorem gdX12_grants_99 : decode cX12_grants 99 = .ok (.aload_n 0, 1) := by decide +kernel
theorem gdX12_grants_100 : decode cX12_grants 100 = .ok (.iload_n 3, 1) := by decide +kernel
theorem gdX12_grants_101 : decode cX12_grants 101 = .ok (.iload_n 3, 1) := by decide +kernel
theorem gdX12_grants_102 : decode cX12_grants 102 = .ok (.ifCond .lt 7, 3) := by decide +kernel
theorem gdX12_grants_109 : decode cX12_grants 109 = .ok (.iconst 0, 1) := by decide +kernel
theorem gdX12_grants_105 : decode cX12_grants 105 = .ok (.iconst 1, 1) := by decide +kernel
theorem gdX12_grants_106 : decode cX12_grants 106 = .ok (.goto 4, 3) := by decide +kernel
theorem gdX12_grants_66 : decode cX12_grants 66 = .ok (.isub, 1) := by decide +kernel
theorem gdX12_grants_67 : decode cX12_grants 67 = .ok (.istore_n 3, 1) := by decide +kernel
theorem gdX12_grants_68 : decode cX12_grants 68 = .ok (.aload_n 0, 1) := by decide +kernel
theorem gdX12_grants_69 : decode cX12_grants 69 = .ok (.iload_n 3, 1) := by decide +kernel
theorem gdX12_grants_70 : decode cX12_grants 70 = .ok (.ifCond .lt 25, 3) := by decide +kernel
theorem gdX12_grants_95 : decode cX12_grants 95 = .ok (.lconst 0, 1) := by decide +kernel
theorem gdX12_grants_73 : decode cX12_grants 73 = .ok (.aload_n 0, 1) := by decide +kernel
theorem gdX12_grants_74 : decode cX12_grants 74 = .ok (.getfield 92, 3) := by decide +kernel
theorem gdX12_grants_77 : decode cX12_grants 77 = .ok (.iload_n 2, 1) := by decide +kernel
theorem gdX12_grants_78 : decode cX12_grants 78 = .ok (.iaload, 1) := by decide +kernel
theorem gdX12_grants_79 : decode cX12_grants 79 = .ok (.i2l, 1) := by decide +kernel
theorem gdX12_grants_80 : decode cX12_grants 80 = .ok (.aload_n 0, 1) := by decide +kernel
theorem gdX12_grants_81 : decode cX12_grants 81 = .ok (.getfield 114, 3) := by decide +kernel
theorem gdX12_grants_84 : decode cX12_grants 84 = .ok (.iload_n 1, 1) := by decide +kernel
theorem gdX12_grants_85 : decode cX12_grants 85 = .ok (.iaload, 1) := by decide +kernel
theorem gdX12_grants_86 : decode cX12_grants 86 = .ok (.i2l, 1) := by decide +kernel
theorem gdX12_grants_87 : decode cX12_grants 87 = .ok (.lmul, 1) := by decide +kernel
theorem gdX12_grants_88 : decode cX12_grants 88 = .ok (.ldc2_w 422, 3) := by decide +kernel
theorem gdX12_grants_91 : decode cX12_grants 91 = .ok (.ldiv, 1) := by decide +kernel
theorem gdX12_grants_92 : decode cX12_grants 92 = .ok (.goto 4, 3) := by decide +kernel
theorem gdX12_grants_0 : decode cX12_grants 0 = .ok (.aload_n 0, 1) := by decide +kernel
theorem gdX12_grants_1 : decode cX12_grants 1 = .ok (.iload_n 1, 1) := by decide +kernel
theorem gdX12_grants_2 : decode cX12_grants 2 = .ok (.invokevirtual 308, 3) := by decide +kernel
theorem gdX12_grants_5 : decode cX12_grants 5 = .ok (.ifCond .eq 11, 3) := by decide +kernel
theorem gdX12_grants_8 : decode cX12_grants 8 = .ok (.aload_n 0, 1) := by decide +kernel
theorem gdX12_grants_9 : decode cX12_grants 9 = .ok (.iload_n 2, 1) := by decide +kernel
theorem gdX12_grants_10 : decode cX12_grants 10 = .ok (.invokevirtual 308, 3) := by decide +kernel
theorem gdX12_grants_13 : decode cX12_grants 13 = .ok (.ifCond .ne 5, 3) := by decide +kernel
theorem gdX12_grants_18 : decode cX12_grants 18 = .ok (.aload_n 0, 1) := by decide +kernel
theorem gdX12_grants_19 : decode cX12_grants 19 = .ok (.getfield 83, 3) := by decide +kernel
theorem gdX12_grants_22 : decode cX12_grants 22 = .ok (.iload_n 1, 1) := by decide +kernel
theorem gdX12_grants_23 : decode cX12_grants 23 = .ok (.iaload, 1) := by decide +kernel
theorem gdX12_grants_24 : decode cX12_grants 24 = .ok (.iconst 5, 1) := by decide +kernel
theorem gdX12_grants_25 : decode cX12_grants 25 = .ok (.if_icmp .ne 11, 3) := by decide +kernel
theorem gdX12_grants_28 : decode cX12_grants 28 = .ok (.aload_n 0, 1) := by decide +kernel
theorem gdX12_grants_29 : decode cX12_grants 29 = .ok (.iload_n 2, 1) := by decide +kernel
theorem gdX12_grants_30 : decode cX12_grants 30 = .ok (.invokevirtual 311, 3) := by decide +kernel
theorem gdX12_grants_33 : decode cX12_grants 33 = .ok (.ifCond .ne 9, 3) := by decide +kernel
theorem gdX12_grants_42 : decode cX12_grants 42 = .ok (.aload_n 0, 1) := by decide +kernel
theorem gdX12_grants_43 : decode cX12_grants 43 = .ok (.getfield 117, 3) := by decide +kernel
theorem gdX12_grants_46 : decode cX12_grants 46 = .ok (.iload_n 1, 1) := by decide +kernel
theorem gdX12_grants_47 : decode cX12_grants 47 = .ok (.iaload, 1) := by decide +kernel
theorem gdX12_grants_48 : decode cX12_grants 48 = .ok (.aload_n 0, 1) := by decide +kernel
theorem gdX12_grants_49 : decode cX12_grants 49 = .ok (.getfield 171, 3) := by decide +kernel
theorem gdX12_grants_52 : decode cX12_grants 52 = .ok (.ifCond .ge 10, 3) := by decide +kernel
theorem gdX12_grants_62 : decode cX12_grants 62 = .ok (.aload_n 0, 1) := by decide +kernel
theorem gdX12_grants_63 : decode cX12_grants 63 = .ok (.getfield 171, 3) := by decide +kernel
theorem gdX12_grants_55 : decode cX12_grants 55 = .ok (.aload_n 0, 1) := by decide +kernel
theorem gdX12_grants_56 : decode cX12_grants 56 = .ok (.getfield 229, 3) := by decide +kernel
theorem gdX12_grants_59 : decode cX12_grants 59 = .ok (.goto 7, 3) := by decide +kernel
theorem gdX12_hear_16 : decode cX12_hear 16 = .ok (.iconst (-1), 1) := by decide +kernel
theorem gdX12_hear_17 : decode cX12_hear 17 = .ok (.ireturn, 1) := by decide +kernel
theorem gdX12_hear_0 : decode cX12_hear 0 = .ok (.aload_n 0, 1) := by decide +kernel
theorem gdX12_hear_1 : decode cX12_hear 1 = .ok (.iload_n 1, 1) := by decide +kernel
theorem gdX12_hear_2 : decode cX12_hear 2 = .ok (.invokevirtual 296, 3) := by decide +kernel
theorem gdX12_hear_5 : decode cX12_hear 5 = .ok (.ifCond .eq 11, 3) := by decide +kernel
theorem gdX12_hear_8 : decode cX12_hear 8 = .ok (.aload_n 0, 1) := by decide +kernel
theorem gdX12_hear_9 : decode cX12_hear 9 = .ok (.iload_n 2, 1) := by decide +kernel
theorem gdX12_hear_10 : decode cX12_hear 10 = .ok (.invokevirtual 308, 3) := by decide +kernel
theorem gdX12_hear_13 : decode cX12_hear 13 = .ok (.ifCond .ne 5, 3) := by decide +kernel
theorem gdX12_hear_18 : decode cX12_hear 18 = .ok (.aload_n 0, 1) := by decide +kernel
theorem gdX12_hear_19 : decode cX12_hear 19 = .ok (.iload_n 2, 1) := by decide +kernel
theorem gdX12_hear_20 : decode cX12_hear 20 = .ok (.invokevirtual 311, 3) := by decide +kernel
theorem gdX12_hear_23 : decode cX12_hear 23 = .ok (.ifCond .ne 9, 3) := by decide +kernel
theorem gdX12_hear_32 : decode cX12_hear 32 = .ok (.aload_n 0, 1) := by decide +kernel
theorem gdX12_hear_33 : decode cX12_hear 33 = .ok (.iload_n 1, 1) := by decide +kernel
theorem gdX12_hear_34 : decode cX12_hear 34 = .ok (.iload_n 2, 1) := by decide +kernel
theorem gdX12_hear_35 : decode cX12_hear 35 = .ok (.invokevirtual 374, 3) := by decide +kernel
theorem gdX12_hear_38 : decode cX12_hear 38 = .ok (.istore_n 3, 1) := by decide +kernel
theorem gdX12_hear_39 : decode cX12_hear 39 = .ok (.iload_n 3, 1) := by decide +kernel
theorem gdX12_hear_40 : decode cX12_hear 40 = .ok (.ifCond .lt 5, 3) := by decide +kernel
theorem gdX12_hear_45 : decode cX12_hear 45 = .ok (.aload_n 0, 1) := by decide +kernel
theorem gdX12_hear_46 : decode cX12_hear 46 = .ok (.getfield 371, 3) := by decide +kernel
theorem gdX12_hear_49 : decode cX12_hear 49 = .ok (.bipush 60, 2) := by decide +kernel
theorem gdX12_hear_51 : decode cX12_hear 51 = .ok (.if_icmp .ne 6, 3) := by decide +kernel
theorem gdX12_hear_57 : decode cX12_hear 57 = .ok (.aload_n 0, 1) := by decide +kernel
theorem gdX12_hear_58 : decode cX12_hear 58 = .ok (.getfield 138, 3) := by decide +kernel
theorem gdX12_hear_61 : decode cX12_hear 61 = .ok (.aload_n 0, 1) := by decide +kernel
theorem gdX12_hear_62 : decode cX12_hear 62 = .ok (.getfield 371, 3) := by decide +kernel
theorem gdX12_hear_65 : decode cX12_hear 65 = .ok (.iload_n 1, 1) := by decide +kernel
theorem gdX12_hear_66 : decode cX12_hear 66 = .ok (.iastore, 1) := by decide +kernel
theorem gdX12_hear_67 : decode cX12_hear 67 = .ok (.aload_n 0, 1) := by decide +kernel
theorem gdX12_hear_68 : decode cX12_hear 68 = .ok (.getfield 141, 3) := by decide +kernel
theorem gdX12_hear_71 : decode cX12_hear 71 = .ok (.aload_n 0, 1) := by decide +kernel
theorem gdX12_hear_72 : decode cX12_hear 72 = .ok (.getfield 371, 3) := by decide +kernel
theorem gdX12_hear_75 : decode cX12_hear 75 = .ok (.iload_n 2, 1) := by decide +kernel
theorem gdX12_hear_76 : decode cX12_hear 76 = .ok (.iastore, 1) := by decide +kernel
theorem gdX12_hear_77 : decode cX12_hear 77 = .ok (.aload_n 0, 1) := by decide +kernel
theorem gdX12_hear_78 : decode cX12_hear 78 = .ok (.getfield 144, 3) := by decide +kernel
theorem gdX12_hear_81 : decode cX12_hear 81 = .ok (.aload_n 0, 1) := by decide +kernel
theorem gdX12_hear_82 : decode cX12_hear 82 = .ok (.getfield 371, 3) := by decide +kernel
theorem gdX12_hear_85 : decode cX12_hear 85 = .ok (.aload_n 0, 1) := by decide +kernel
theorem gdX12_hear_86 : decode cX12_hear 86 = .ok (.getfield 229, 3) := by decide +kernel
theorem gdX12_hear_89 : decode cX12_hear 89 = .ok (.iastore, 1) := by decide +kernel
theorem gdX12_hear_90 : decode cX12_hear 90 = .ok (.aload_n 0, 1) := by decide +kernel
theorem gdX12_hear_91 : decode cX12_hear 91 = .ok (.dup, 1) := by decide +kernel
theorem gdX12_hear_92 : decode cX12_hear 92 = .ok (.getfield 371, 3) := by decide +kernel
theorem gdX12_hear_95 : decode cX12_hear 95 = .ok (.iconst 1, 1) := by decide +kernel
theorem gdX12_hear_96 : decode cX12_hear 96 = .ok (.iadd, 1) := by decide +kernel
theorem gdX12_hear_97 : decode cX12_hear 97 = .ok (.putfield 371, 3) := by decide +kernel
theorem gdX12_hear_100 : decode cX12_hear 100 = .ok (.aload_n 0, 1) := by decide +kernel
theorem gdX12_hear_101 : decode cX12_hear 101 = .ok (.getfield 229, 3) := by decide +kernel
theorem gdX12_hear_104 : decode cX12_hear 104 = .ok (.ireturn, 1) := by decide +kernel
theorem gdX12_hear_54 : decode cX12_hear 54 = .ok (.bipush (-2), 2) := by decide +kernel
theorem gdX12_hear_56 : decode cX12_hear 56 = .ok (.ireturn, 1) := by decide +kernel
theorem gdX12_hear_43 : decode cX12_hear 43 = .ok (.iload_n 3, 1) := by decide +kernel
theorem gdX12_hear_44 : decode cX12_hear 44 = .ok (.ireturn, 1) := by decide +kernel
theorem gdX12_hear_26 : decode cX12_hear 26 = .ok (.aload_n 0, 1) := by decide +kernel
theorem gdX12_hear_27 : decode cX12_hear 27 = .ok (.iconst 3, 1) := by decide +kernel
theorem gdX12_hear_28 : decode cX12_hear 28 = .ok (.invokevirtual 216, 3) := by decide +kernel
theorem gdX12_hear_31 : decode cX12_hear 31 = .ok (.ireturn, 1) := by decide +kernel
theorem gdX12_hearing_33 : decode cX12_hearing 33 = .ok (.iconst (-1), 1) := by decide +kernel
theorem gdX12_hearing_34 : decode cX12_hearing 34 = .ok (.ireturn, 1) := by decide +kernel
theorem gdX12_hearing_0 : decode cX12_hearing 0 = .ok (.aload_n 0, 1) := by decide +kernel
theorem gdX12_hearing_1 : decode cX12_hearing 1 = .ok (.iload_n 1, 1) := by decide +kernel
theorem gdX12_hearing_2 : decode cX12_hearing 2 = .ok (.invokevirtual 308, 3) := by decide +kernel
theorem gdX12_hearing_5 : decode cX12_hearing 5 = .ok (.ifCond .eq 28, 3) := by decide +kernel
theorem gdX12_hearing_8 : decode cX12_hearing 8 = .ok (.iload_n 2, 1) := by decide +kernel
theorem gdX12_hearing_9 : decode cX12_hearing 9 = .ok (.invokestatic 257, 3) := by decide +kernel
theorem gdX12_hearing_12 : decode cX12_hearing 12 = .ok (.ifCond .eq 21, 3) := by decide +kernel
theorem gdX12_hearing_15 : decode cX12_hearing 15 = .ok (.iload_n 3, 1) := by decide +kernel
theorem gdX12_hearing_16 : decode cX12_hearing 16 = .ok (.iconst 0, 1) := by decide +kernel
theorem gdX12_hearing_17 : decode cX12_hearing 17 = .ok (.bipush 23, 2) := by decide +kernel
theorem gdX12_hearing_19 : decode cX12_hearing 19 = .ok (.invokestatic 208, 3) := by decide +kernel
theorem gdX12_hearing_22 : decode cX12_hearing 22 = .ok (.ifCond .eq 11, 3) := by decide +kernel
theorem gdX12_hearing_25 : decode cX12_hearing 25 = .ok (.iload 4, 2) := by decide +kernel
theorem gdX12_hearing_27 : decode cX12_hearing 27 = .ok (.invokestatic 238, 3) := by decide +kernel
theorem gdX12_hearing_30 : decode cX12_hearing 30 = .ok (.ifCond .ne 5, 3) := by decide +kernel
theorem gdX12_hearing_35 : decode cX12_hearing 35 = .ok (.aload_n 0, 1) := by decide +kernel
theorem gdX12_hearing_36 : decode cX12_hearing 36 = .ok (.getfield 305, 3) := by decide +kernel
theorem gdX12_hearing_39 : decode cX12_hearing 39 = .ok (.bipush 24, 2) := by decide +kernel
theorem gdX12_hearing_41 : decode cX12_hearing 41 = .ok (.if_icmp .ne 6, 3) := by decide +kernel
theorem gdX12_hearing_47 : decode cX12_hearing 47 = .ok (.aload_n 0, 1) := by decide +kernel
theorem gdX12_hearing_48 : decode cX12_hearing 48 = .ok (.iload_n 1, 1) := by decide +kernel
theorem gdX12_hearing_49 : decode cX12_hearing 49 = .ok (.invokevirtual 311, 3) := by decide +kernel
theorem gdX12_hearing_52 : decode cX12_hearing 52 = .ok (.ifCond .ne 9, 3) := by decide +kernel
theorem gdX12_hearing_61 : decode cX12_hearing 61 = .ok (.iload 4, 2) := by decide +kernel
theorem gdX12_hearing_63 : decode cX12_hearing 63 = .ok (.aload_n 0, 1) := by decide +kernel
theorem gdX12_hearing_64 : decode cX12_hearing 64 = .ok (.getfield 229, 3) := by decide +kernel
theorem gdX12_hearing_67 : decode cX12_hearing 67 = .ok (.if_icmp .ge 6, 3) := by decide +kernel
theorem gdX12_hearing_73 : decode cX12_hearing 73 = .ok (.aload_n 0, 1) := by decide +kernel
theorem gdX12_hearing_74 : decode cX12_hearing 74 = .ok (.bipush 6, 2) := by decide +kernel
theorem gdX12_hearing_76 : decode cX12_hearing 76 = .ok (.iload_n 1, 1) := by decide +kernel
theorem gdX12_hearing_77 : decode cX12_hearing 77 = .ok (.invokevirtual 334, 3) := by decide +kernel
theorem gdX12_hearing_80 : decode cX12_hearing 80 = .ok (.istore 5, 2) := by decide +kernel
theorem gdX12_hearing_82 : decode cX12_hearing 82 = .ok (.aload_n 0, 1) := by decide +kernel
theorem gdX12_hearing_83 : decode cX12_hearing 83 = .ok (.getfield 114, 3) := by decide +kernel
theorem gdX12_hearing_86 : decode cX12_hearing 86 = .ok (.iload 5, 2) := by decide +kernel
theorem gdX12_hearing_88 : decode cX12_hearing 88 = .ok (.iload_n 2, 1) := by decide +kernel
theorem gdX12_hearing_89 : decode cX12_hearing 89 = .ok (.iastore, 1) := by decide +kernel
theorem gdX12_hearing_90 : decode cX12_hearing 90 = .ok (.aload_n 0, 1) := by decide +kernel
theorem gdX12_hearing_91 : decode cX12_hearing 91 = .ok (.getfield 117, 3) := by decide +kernel
theorem gdX12_hearing_94 : decode cX12_hearing 94 = .ok (.iload 5, 2) := by decide +kernel
theorem gdX12_hearing_96 : decode cX12_hearing 96 = .ok (.iload_n 3, 1) := by decide +kernel
theorem gdX12_hearing_97 : decode cX12_hearing 97 = .ok (.iastore, 1) := by decide +kernel
theorem gdX12_hearing_98 : decode cX12_hearing 98 = .ok (.aload_n 0, 1) := by decide +kernel
theorem gdX12_hearing_99 : decode cX12_hearing 99 = .ok (.getfield 120, 3) := by decide +kernel
theorem gdX12_hearing_102 : decode cX12_hearing 102 = .ok (.iload 5, 2) := by decide +kernel
theorem gdX12_hearing_104 : decode cX12_hearing 104 = .ok (.iload 4, 2) := by decide +kernel
theorem gdX12_hearing_106 : decode cX12_hearing 106 = .ok (.iastore, 1) := by decide +kernel
theorem gdX12_hearing_107 : decode cX12_hearing 107 = .ok (.iload 5, 2) := by decide +kernel
theorem gdX12_hearing_109 : decode cX12_hearing 109 = .ok (.ireturn, 1) := by decide +kernel
theorem gdX12_hearing_70 : decode cX12_hearing 70 = .ok (.bipush (-4), 2) := by decide +kernel
theorem gdX12_hearing_72 : decode cX12_hearing 72 = .ok (.ireturn, 1) := by decide +kernel
theorem gdX12_hearing_55 : decode cX12_hearing 55 = .ok (.aload_n 0, 1) := by decide +kernel
theorem gdX12_hearing_56 : decode cX12_hearing 56 = .ok (.iconst 3, 1) := by decide +kernel
theorem gdX12_hearing_57 : decode cX12_hearing 57 = .ok (.invokevirtual 216, 3) := by decide +kernel
theorem gdX12_hearing_60 : decode cX12_hearing 60 = .ok (.ireturn, 1) := by decide +kernel
theorem gdX12_hearing_44 : decode cX12_hearing 44 = .ok (.bipush (-2), 2) := by decide +kernel
theorem gdX12_hearing_46 : decode cX12_hearing 46 = .ok (.ireturn, 1) := by decide +kernel
theorem gdX12_house_32 : decode cX12_house 32 = .ok (.ireturn, 1) := by decide +kernel
theorem gdX12_house_31 : decode cX12_house 31 = .ok (.iconst (-1), 1) := by decide +kernel
theorem gdX12_house_0 : decode cX12_house 0 = .ok (.aload_n 0, 1) := by decide +kernel
theorem gdX12_house_1 : decode cX12_house 1 = .ok (.iload_n 1, 1) := by decide +kernel
theorem gdX12_house_2 : decode cX12_house 2 = .ok (.invokevirtual 274, 3) := by decide +kernel
theorem gdX12_house_5 : decode cX12_house 5 = .ok (.ifCond .eq 26, 3) := by decide +kernel
theorem gdX12_house_8 : decode cX12_house 8 = .ok (.iload_n 2, 1) := by decide +kernel
theorem gdX12_house_9 : decode cX12_house 9 = .ok (.iconst 0, 1) := by decide +kernel
theorem gdX12_house_10 : decode cX12_house 10 = .ok (.iconst 5, 1) := by decide +kernel
theorem gdX12_house_11 : decode cX12_house 11 = .ok (.invokestatic 208, 3) := by decide +kernel
theorem gdX12_house_14 : decode cX12_house 14 = .ok (.ifCond .eq 17, 3) := by decide +kernel
theorem gdX12_house_17 : decode cX12_house 17 = .ok (.aload_n 0, 1) := by decide +kernel
theorem gdX12_house_18 : decode cX12_house 18 = .ok (.aload_n 0, 1) := by decide +kernel
theorem gdX12_house_19 : decode cX12_house 19 = .ok (.iload_n 1, 1) := by decide +kernel
theorem gdX12_house_20 : decode cX12_house 20 = .ok (.iload_n 2, 1) := by decide +kernel
theorem gdX12_house_21 : decode cX12_house 21 = .ok (.invokevirtual 287, 3) := by decide +kernel
theorem gdX12_house_24 : decode cX12_house 24 = .ok (.iconst 1, 1) := by decide +kernel
theorem gdX12_house_25 : decode cX12_house 25 = .ok (.invokevirtual 290, 3) := by decide +kernel
theorem gdX12_house_28 : decode cX12_house 28 = .ok (.goto 4, 3) := by decide +kernel
theorem gdX12_couldCome_124 : decode cX12_couldCome 124 = .ok (.iload_n 2, 1) := by decide +kernel
theorem gdX12_couldCome_125 : decode cX12_couldCome 125 = .ok (.ireturn, 1) := by decide +kernel
theorem gdX12_couldCome_118 : decode cX12_couldCome 118 = .ok (.iinc 3 1, 3) := by decide +kernel
theorem gdX12_couldCome_121 : decode cX12_couldCome 121 = .ok (.goto (-117), 3) := by decide +kernel
theorem gdX12_couldCome_116 : decode cX12_couldCome 116 = .ok (.iadd, 1) := by decide +kernel
theorem gdX12_couldCome_117 : decode cX12_couldCome 117 = .ok (.istore_n 2, 1) := by decide +kernel
theorem gdX12_couldCome_115 : decode cX12_couldCome 115 = .ok (.iconst 0, 1) := by decide +kernel
theorem gdX12_couldCome_98 : decode cX12_couldCome 98 = .ok (.istore 5, 2) := by decide +kernel
theorem gdX12_couldCome_100 : decode cX12_couldCome 100 = .ok (.iload_n 2, 1) := by decide +kernel
theorem gdX12_couldCome_101 : decode cX12_couldCome 101 = .ok (.iload 4, 2) := by decide +kernel
theorem gdX12_couldCome_103 : decode cX12_couldCome 103 = .ok (.ifCond .eq 12, 3) := by decide +kernel
theorem gdX12_couldCome_106 : decode cX12_couldCome 106 = .ok (.iload 5, 2) := by decide +kernel
theorem gdX12_couldCome_108 : decode cX12_couldCome 108 = .ok (.ifCond .eq 7, 3) := by decide +kernel
theorem gdX12_couldCome_111 : decode cX12_couldCome 111 = .ok (.iconst 1, 1) := by decide +kernel
theorem gdX12_couldCome_112 : decode cX12_couldCome 112 = .ok (.goto 4, 3) := by decide +kernel
theorem gdX12_couldCome_93 : decode cX12_couldCome 93 = .ok (.iconst 1, 1) := by decide +kernel
theorem gdX12_couldCome_94 : decode cX12_couldCome 94 = .ok (.goto 4, 3) := by decide +kernel
theorem gdX12_couldCome_60 : decode cX12_couldCome 60 = .ok (.istore 4, 2) := by decide +kernel
theorem gdX12_couldCome_62 : decode cX12_couldCome 62 = .ok (.aload_n 0, 1) := by decide +kernel
theorem gdX12_couldCome_63 : decode cX12_couldCome 63 = .ok (.getfield 74, 3) := by decide +kernel
theorem gdX12_couldCome_66 : decode cX12_couldCome 66 = .ok (.iload_n 3, 1) := by decide +kernel
theorem gdX12_couldCome_67 : decode cX12_couldCome 67 = .ok (.iaload, 1) := by decide +kernel
theorem gdX12_couldCome_68 : decode cX12_couldCome 68 = .ok (.ifCond .lt 25, 3) := by decide +kernel
theorem gdX12_couldCome_71 : decode cX12_couldCome 71 = .ok (.aload_n 0, 1) := by decide +kernel
theorem gdX12_couldCome_72 : decode cX12_couldCome 72 = .ok (.getfield 117, 3) := by decide +kernel
theorem gdX12_couldCome_75 : decode cX12_couldCome 75 = .ok (.iload_n 1, 1) := by decide +kernel
theorem gdX12_couldCome_76 : decode cX12_couldCome 76 = .ok (.iaload, 1) := by decide +kernel
theorem gdX12_couldCome_77 : decode cX12_couldCome 77 = .ok (.bipush 9, 2) := by decide +kernel
theorem gdX12_couldCome_79 : decode cX12_couldCome 79 = .ok (.if_icmp .lt 14, 3) := by decide +kernel
theorem gdX12_couldCome_82 : decode cX12_couldCome 82 = .ok (.aload_n 0, 1) := by decide +kernel
theorem gdX12_couldCome_83 : decode cX12_couldCome 83 = .ok (.getfield 117, 3) := by decide +kernel
theorem gdX12_couldCome_86 : decode cX12_couldCome 86 = .ok (.iload_n 1, 1) := by decide +kernel
theorem gdX12_couldCome_87 : decode cX12_couldCome 87 = .ok (.iaload, 1) := by decide +kernel
theorem gdX12_couldCome_88 : decode cX12_couldCome 88 = .ok (.bipush 16, 2) := by decide +kernel
theorem gdX12_couldCome_90 : decode cX12_couldCome 90 = .ok (.if_icmp .le 7, 3) := by decide +kernel
theorem gdX12_couldCome_97 : decode cX12_couldCome 97 = .ok (.iconst 0, 1) := by decide +kernel
theorem gdX12_couldCome_55 : decode cX12_couldCome 55 = .ok (.iconst 1, 1) := by decide +kernel
theorem gdX12_couldCome_56 : decode cX12_couldCome 56 = .ok (.goto 4, 3) := by decide +kernel
theorem gdX12_couldCome_4 : decode cX12_couldCome 4 = .ok (.iload_n 3, 1) := by decide +kernel
theorem gdX12_couldCome_5 : decode cX12_couldCome 5 = .ok (.aload_n 0, 1) := by decide +kernel
theorem gdX12_couldCome_6 : decode cX12_couldCome 6 = .ok (.getfield 281, 3) := by decide +kernel
theorem gdX12_couldCome_9 : decode cX12_couldCome 9 = .ok (.if_icmp .ge 115, 3) := by decide +kernel
theorem gdX12_couldCome_12 : decode cX12_couldCome 12 = .ok (.aload_n 0, 1) := by decide +kernel
theorem gdX12_couldCome_13 : decode cX12_couldCome 13 = .ok (.getfield 71, 3) := by decide +kernel
theorem gdX12_couldCome_16 : decode cX12_couldCome 16 = .ok (.iload_n 3, 1) := by decide +kernel
theorem gdX12_couldCome_17 : decode cX12_couldCome 17 = .ok (.iaload, 1) := by decide +kernel
theorem gdX12_couldCome_18 : decode cX12_couldCome 18 = .ok (.ifCond .lt 100, 3) := by decide +kernel
theorem gdX12_couldCome_21 : decode cX12_couldCome 21 = .ok (.aload_n 0, 1) := by decide +kernel
theorem gdX12_couldCome_22 : decode cX12_couldCome 22 = .ok (.getfield 77, 3) := by decide +kernel
theorem gdX12_couldCome_25 : decode cX12_couldCome 25 = .ok (.iload_n 3, 1) := by decide +kernel
theorem gdX12_couldCome_26 : decode cX12_couldCome 26 = .ok (.baload, 1) := by decide +kernel
theorem gdX12_couldCome_27 : decode cX12_couldCome 27 = .ok (.ifCond .ne 28, 3) := by decide +kernel
theorem gdX12_couldCome_30 : decode cX12_couldCome 30 = .ok (.aload_n 0, 1) := by decide +kernel
theorem gdX12_couldCome_31 : decode cX12_couldCome 31 = .ok (.getfield 46, 3) := by decide +kernel
theorem gdX12_couldCome_34 : decode cX12_couldCome 34 = .ok (.aload_n 0, 1) := by decide +kernel
theorem gdX12_couldCome_35 : decode cX12_couldCome 35 = .ok (.getfield 71, 3) := by decide +kernel
theorem gdX12_couldCome_38 : decode cX12_couldCome 38 = .ok (.iload_n 3, 1) := by decide +kernel
theorem gdX12_couldCome_39 : decode cX12_couldCome 39 = .ok (.iaload, 1) := by decide +kernel
theorem gdX12_couldCome_40 : decode cX12_couldCome 40 = .ok (.iaload, 1) := by decide +kernel
theorem gdX12_couldCome_41 : decode cX12_couldCome 41 = .ok (.aload_n 0, 1) := by decide +kernel
theorem gdX12_couldCome_42 : decode cX12_couldCome 42 = .ok (.getfield 114, 3) := by decide +kernel
theorem gdX12_couldCome_45 : decode cX12_couldCome 45 = .ok (.iload_n 1, 1) := by decide +kernel
theorem gdX12_couldCome_46 : decode cX12_couldCome 46 = .ok (.iaload, 1) := by decide +kernel
theorem gdX12_couldCome_47 : decode cX12_couldCome 47 = .ok (.invokestatic 337, 3) := by decide +kernel
theorem gdX12_couldCome_50 : decode cX12_couldCome 50 = .ok (.bipush 6, 2) := by decide +kernel
theorem gdX12_couldCome_52 : decode cX12_couldCome 52 = .ok (.if_icmp .gt 7, 3) := by decide +kernel
theorem gdX12_couldCome_59 : decode cX12_couldCome 59 = .ok (.iconst 0, 1) := by decide +kernel
theorem gdX12_couldCome_0 : decode cX12_couldCome 0 = .ok (.iconst 0, 1) := by decide +kernel
theorem gdX12_couldCome_1 : decode cX12_couldCome 1 = .ok (.istore_n 2, 1) := by decide +kernel
theorem gdX12_couldCome_2 : decode cX12_couldCome 2 = .ok (.iconst 0, 1) := by decide +kernel
theorem gdX12_couldCome_3 : decode cX12_couldCome 3 = .ok (.istore_n 3, 1) := by decide +kernel
theorem gdX12_isVoidHearing_47 : decode cX12_isVoidHearing 47 = .ok (.ireturn, 1) := by decide +kernel
theorem gdX12_isVoidHearing_42 : decode cX12_isVoidHearing 42 = .ok (.iconst 1, 1) := by decide +kernel
theorem gdX12_isVoidHearing_43 : decode cX12_isVoidHearing 43 = .ok (.goto 4, 3) := by decide +kernel
theorem gdX12_isVoidHearing_0 : decode cX12_isVoidHearing 0 = .ok (.aload_n 0, 1) := by decide +kernel
theorem gdX12_isVoidHearing_1 : decode cX12_isVoidHearing 1 = .ok (.getfield 120, 3) := by decide +kernel
theorem gdX12_isVoidHearing_4 : decode cX12_isVoidHearing 4 = .ok (.iload_n 1, 1) := by decide +kernel
theorem gdX12_isVoidHearing_5 : decode cX12_isVoidHearing 5 = .ok (.iaload, 1) := by decide +kernel
theorem gdX12_isVoidHearing_6 : decode cX12_isVoidHearing 6 = .ok (.aload_n 0, 1) := by decide +kernel
theorem gdX12_isVoidHearing_7 : decode cX12_isVoidHearing 7 = .ok (.getfield 86, 3) := by decide +kernel
theorem gdX12_isVoidHearing_10 : decode cX12_isVoidHearing 10 = .ok (.iload_n 1, 1) := by decide +kernel
theorem gdX12_isVoidHearing_11 : decode cX12_isVoidHearing 11 = .ok (.iaload, 1) := by decide +kernel
theorem gdX12_isVoidHearing_12 : decode cX12_isVoidHearing 12 = .ok (.isub, 1) := by decide +kernel
theorem gdX12_isVoidHearing_13 : decode cX12_isVoidHearing 13 = .ok (.aload_n 0, 1) := by decide +kernel
theorem gdX12_isVoidHearing_14 : decode cX12_isVoidHearing 14 = .ok (.bipush 7, 2) := by decide +kernel
theorem gdX12_isVoidHearing_16 : decode cX12_isVoidHearing 16 = .ok (.aload_n 0, 1) := by decide +kernel
theorem gdX12_isVoidHearing_17 : decode cX12_isVoidHearing 17 = .ok (.getfield 86, 3) := by decide +kernel
theorem gdX12_isVoidHearing_20 : decode cX12_isVoidHearing 20 = .ok (.iload_n 1, 1) := by decide +kernel
theorem gdX12_isVoidHearing_21 : decode cX12_isVoidHearing 21 = .ok (.iaload, 1) := by decide +kernel
theorem gdX12_isVoidHearing_22 : decode cX12_isVoidHearing 22 = .ok (.aload_n 0, 1) := by decide +kernel
theorem gdX12_isVoidHearing_23 : decode cX12_isVoidHearing 23 = .ok (.getfield 86, 3) := by decide +kernel
theorem gdX12_isVoidHearing_26 : decode cX12_isVoidHearing 26 = .ok (.iload_n 1, 1) := by decide +kernel
theorem gdX12_isVoidHearing_27 : decode cX12_isVoidHearing 27 = .ok (.iaload, 1) := by decide +kernel
theorem gdX12_isVoidHearing_28 : decode cX12_isVoidHearing 28 = .ok (.invokevirtual 248, 3) := by decide +kernel
theorem gdX12_isVoidHearing_31 : decode cX12_isVoidHearing 31 = .ok (.if_icmp .lt 11, 3) := by decide +kernel
theorem gdX12_isVoidHearing_34 : decode cX12_isVoidHearing 34 = .ok (.aload_n 0, 1) := by decide +kernel
theorem gdX12_isVoidHearing_35 : decode cX12_isVoidHearing 35 = .ok (.iload_n 1, 1) := by decide +kernel
theorem gdX12_isVoidHearing_36 : decode cX12_isVoidHearing 36 = .ok (.invokevirtual 361, 3) := by decide +kernel
theorem gdX12_isVoidHearing_39 : decode cX12_isVoidHearing 39 = .ok (.ifCond .ne 7, 3) := by decide +kernel
theorem gdX12_isVoidHearing_46 : decode cX12_isVoidHearing 46 = .ok (.iconst 0, 1) := by decide +kernel
theorem gdX12_isVoidTaking_86 : decode cX12_isVoidTaking 86 = .ok (.ireturn, 1) := by decide +kernel
theorem gdX12_isVoidTaking_77 : decode cX12_isVoidTaking 77 = .ok (.iload_n 2, 1) := by decide +kernel
theorem gdX12_isVoidTaking_78 : decode cX12_isVoidTaking 78 = .ok (.ifCond .ne 7, 3) := by decide +kernel
theorem gdX12_isVoidTaking_85 : decode cX12_isVoidTaking 85 = .ok (.iconst 0, 1) := by decide +kernel
theorem gdX12_isVoidTaking_81 : decode cX12_isVoidTaking 81 = .ok (.iconst 1, 1) := by decide +kernel
theorem gdX12_isVoidTaking_82 : decode cX12_isVoidTaking 82 = .ok (.goto 4, 3) := by decide +kernel
theorem gdX12_isVoidTaking_70 : decode cX12_isVoidTaking 70 = .ok (.istore_n 2, 1) := by decide +kernel
theorem gdX12_isVoidTaking_71 : decode cX12_isVoidTaking 71 = .ok (.iinc 3 1, 3) := by decide +kernel
theorem gdX12_isVoidTaking_74 : decode cX12_isVoidTaking 74 = .ok (.goto (-70), 3) := by decide +kernel
theorem gdX12_isVoidTaking_65 : decode cX12_isVoidTaking 65 = .ok (.iconst 1, 1) := by decide +kernel
theorem gdX12_isVoidTaking_66 : decode cX12_isVoidTaking 66 = .ok (.goto 4, 3) := by decide +kernel
theorem gdX12_isVoidTaking_69 : decode cX12_isVoidTaking 69 = .ok (.iconst 0, 1) := by decide +kernel
theorem gdX12_isVoidTaking_4 : decode cX12_isVoidTaking 4 = .ok (.iload_n 3, 1) := by decide +kernel
theorem gdX12_isVoidTaking_5 : decode cX12_isVoidTaking 5 = .ok (.aload_n 0, 1) := by decide +kernel
theorem gdX12_isVoidTaking_6 : decode cX12_isVoidTaking 6 = .ok (.getfield 305, 3) := by decide +kernel
theorem gdX12_isVoidTaking_9 : decode cX12_isVoidTaking 9 = .ok (.if_icmp .ge 68, 3) := by decide +kernel
theorem gdX12_isVoidTaking_12 : decode cX12_isVoidTaking 12 = .ok (.iload_n 2, 1) := by decide +kernel
theorem gdX12_isVoidTaking_13 : decode cX12_isVoidTaking 13 = .ok (.ifCond .ne 52, 3) := by decide +kernel
theorem gdX12_isVoidTaking_16 : decode cX12_isVoidTaking 16 = .ok (.aload_n 0, 1) := by decide +kernel
theorem gdX12_isVoidTaking_17 : decode cX12_isVoidTaking 17 = .ok (.getfield 83, 3) := by decide +kernel
theorem gdX12_isVoidTaking_20 : decode cX12_isVoidTaking 20 = .ok (.iload_n 3, 1) := by decide +kernel
theorem gdX12_isVoidTaking_21 : decode cX12_isVoidTaking 21 = .ok (.iaload, 1) := by decide +kernel
theorem gdX12_isVoidTaking_22 : decode cX12_isVoidTaking 22 = .ok (.bipush 6, 2) := by decide +kernel
theorem gdX12_isVoidTaking_24 : decode cX12_isVoidTaking 24 = .ok (.if_icmp .ne 45, 3) := by decide +kernel
theorem gdX12_isVoidTaking_27 : decode cX12_isVoidTaking 27 = .ok (.aload_n 0, 1) := by decide +kernel
theorem gdX12_isVoidTaking_28 : decode cX12_isVoidTaking 28 = .ok (.getfield 89, 3) := by decide +kernel
theorem gdX12_isVoidTaking_31 : decode cX12_isVoidTaking 31 = .ok (.iload_n 3, 1) := by decide +kernel
theorem gdX12_isVoidTaking_32 : decode cX12_isVoidTaking 32 = .ok (.iaload, 1) := by decide +kernel
theorem gdX12_isVoidTaking_33 : decode cX12_isVoidTaking 33 = .ok (.aload_n 0, 1) := by decide +kernel
theorem gdX12_isVoidTaking_34 : decode cX12_isVoidTaking 34 = .ok (.getfield 89, 3) := by decide +kernel
theorem gdX12_isVoidTaking_37 : decode cX12_isVoidTaking 37 = .ok (.iload_n 1, 1) := by decide +kernel
theorem gdX12_isVoidTaking_38 : decode cX12_isVoidTaking 38 = .ok (.iaload, 1) := by decide +kernel
theorem gdX12_isVoidTaking_39 : decode cX12_isVoidTaking 39 = .ok (.if_icmp .ne 30, 3) := by decide +kernel
theorem gdX12_isVoidTaking_42 : decode cX12_isVoidTaking 42 = .ok (.aload_n 0, 1) := by decide +kernel
theorem gdX12_isVoidTaking_43 : decode cX12_isVoidTaking 43 = .ok (.getfield 120, 3) := by decide +kernel
theorem gdX12_isVoidTaking_46 : decode cX12_isVoidTaking 46 = .ok (.iload_n 3, 1) := by decide +kernel
theorem gdX12_isVoidTaking_47 : decode cX12_isVoidTaking 47 = .ok (.iaload, 1) := by decide +kernel
theorem gdX12_isVoidTaking_48 : decode cX12_isVoidTaking 48 = .ok (.aload_n 0, 1) := by decide +kernel
theorem gdX12_isVoidTaking_49 : decode cX12_isVoidTaking 49 = .ok (.getfield 86, 3) := by decide +kernel
theorem gdX12_isVoidTaking_52 : decode cX12_isVoidTaking 52 = .ok (.iload_n 1, 1) := by decide +kernel
theorem gdX12_isVoidTaking_53 : decode cX12_isVoidTaking 53 = .ok (.iaload, 1) := by decide +kernel
theorem gdX12_isVoidTaking_54 : decode cX12_isVoidTaking 54 = .ok (.if_icmp .gt 15, 3) := by decide +kernel
theorem gdX12_isVoidTaking_57 : decode cX12_isVoidTaking 57 = .ok (.aload_n 0, 1) := by decide +kernel
theorem gdX12_isVoidTaking_58 : decode cX12_isVoidTaking 58 = .ok (.iload_n 3, 1) := by decide +kernel
theorem gdX12_isVoidTaking_59 : decode cX12_isVoidTaking 59 = .ok (.invokevirtual 407, 3) := by decide +kernel
theorem gdX12_isVoidTaking_62 : decode cX12_isVoidTaking 62 = .ok (.ifCond .ne 7, 3) := by decide +kernel
theorem gdX12_isVoidTaking_0 : decode cX12_isVoidTaking 0 = .ok (.iconst 0, 1) := by decide +kernel
theorem gdX12_isVoidTaking_1 : decode cX12_isVoidTaking 1 = .ok (.istore_n 2, 1) := by decide +kernel
theorem gdX12_isVoidTaking_2 : decode cX12_isVoidTaking 2 = .ok (.iconst 0, 1) := by decide +kernel
theorem gdX12_isVoidTaking_3 : decode cX12_isVoidTaking 3 = .ok (.istore_n 3, 1) := by decide +kernel
theorem gdX12_isVoid_72 : decode cX12_isVoid 72 = .ok (.ireturn, 1) := by decide +kernel
theorem gdX12_isVoid_67 : decode cX12_isVoid 67 = .ok (.iconst 1, 1) := by decide +kernel
theorem gdX12_isVoid_68 : decode cX12_isVoid 68 = .ok (.goto 4, 3) := by decide +kernel
theorem gdX12_isVoid_71 : decode cX12_isVoid 71 = .ok (.iconst 0, 1) := by decide +kernel
theorem gdX12_isVoid_37 : decode cX12_isVoid 37 = .ok (.aload_n 0, 1) := by decide +kernel
theorem gdX12_isVoid_38 : decode cX12_isVoid 38 = .ok (.getfield 83, 3) := by decide +kernel
theorem gdX12_isVoid_41 : decode cX12_isVoid 41 = .ok (.iload_n 1, 1) := by decide +kernel
theorem gdX12_isVoid_42 : decode cX12_isVoid 42 = .ok (.iaload, 1) := by decide +kernel
theorem gdX12_isVoid_43 : decode cX12_isVoid 43 = .ok (.bipush 6, 2) := by decide +kernel
theorem gdX12_isVoid_45 : decode cX12_isVoid 45 = .ok (.if_icmp .ne 14, 3) := by decide +kernel
theorem gdX12_isVoid_59 : decode cX12_isVoid 59 = .ok (.aload_n 0, 1) := by decide +kernel
theorem gdX12_isVoid_60 : decode cX12_isVoid 60 = .ok (.iload_n 1, 1) := by decide +kernel
theorem gdX12_isVoid_61 : decode cX12_isVoid 61 = .ok (.invokevirtual 410, 3) := by decide +kernel
theorem gdX12_isVoid_64 : decode cX12_isVoid 64 = .ok (.ifCond .eq 7, 3) := by decide +kernel
theorem gdX12_isVoid_48 : decode cX12_isVoid 48 = .ok (.aload_n 0, 1) := by decide +kernel
theorem gdX12_isVoid_49 : decode cX12_isVoid 49 = .ok (.iload_n 1, 1) := by decide +kernel
theorem gdX12_isVoid_50 : decode cX12_isVoid 50 = .ok (.invokevirtual 407, 3) := by decide +kernel
theorem gdX12_isVoid_53 : decode cX12_isVoid 53 = .ok (.ifCond .eq 18, 3) := by decide +kernel
theorem gdX12_isVoid_56 : decode cX12_isVoid 56 = .ok (.goto 11, 3) := by decide +kernel
theorem gdX12_isVoid_0 : decode cX12_isVoid 0 = .ok (.aload_n 0, 1) := by decide +kernel
theorem gdX12_isVoid_1 : decode cX12_isVoid 1 = .ok (.iload_n 1, 1) := by decide +kernel
theorem gdX12_isVoid_2 : decode cX12_isVoid 2 = .ok (.invokevirtual 308, 3) := by decide +kernel
theorem gdX12_isVoid_5 : decode cX12_isVoid 5 = .ok (.ifCond .ne 5, 3) := by decide +kernel
theorem gdX12_isVoid_10 : decode cX12_isVoid 10 = .ok (.aload_n 0, 1) := by decide +kernel
theorem gdX12_isVoid_11 : decode cX12_isVoid 11 = .ok (.getfield 83, 3) := by decide +kernel
theorem gdX12_isVoid_14 : decode cX12_isVoid 14 = .ok (.iload_n 1, 1) := by decide +kernel
theorem gdX12_isVoid_15 : decode cX12_isVoid 15 = .ok (.iaload, 1) := by decide +kernel
theorem gdX12_isVoid_16 : decode cX12_isVoid 16 = .ok (.bipush 6, 2) := by decide +kernel
theorem gdX12_isVoid_18 : decode cX12_isVoid 18 = .ok (.if_icmp .eq 19, 3) := by decide +kernel
theorem gdX12_isVoid_21 : decode cX12_isVoid 21 = .ok (.aload_n 0, 1) := by decide +kernel
theorem gdX12_isVoid_22 : decode cX12_isVoid 22 = .ok (.getfield 83, 3) := by decide +kernel
theorem gdX12_isVoid_25 : decode cX12_isVoid 25 = .ok (.iload_n 1, 1) := by decide +kernel
theorem gdX12_isVoid_26 : decode cX12_isVoid 26 = .ok (.iaload, 1) := by decide +kernel
theorem gdX12_isVoid_27 : decode cX12_isVoid 27 = .ok (.iconst 3, 1) := by decide +kernel
theorem gdX12_isVoid_28 : decode cX12_isVoid 28 = .ok (.if_icmp .eq 9, 3) := by decide +kernel
theorem gdX12_isVoid_31 : decode cX12_isVoid 31 = .ok (.aload_n 0, 1) := by decide +kernel
theorem gdX12_isVoid_32 : decode cX12_isVoid 32 = .ok (.iconst 3, 1) := by decide +kernel
theorem gdX12_isVoid_33 : decode cX12_isVoid 33 = .ok (.invokevirtual 216, 3) := by decide +kernel
theorem gdX12_isVoid_36 : decode cX12_isVoid 36 = .ok (.ireturn, 1) := by decide +kernel
theorem gdX12_isVoid_8 : decode cX12_isVoid 8 = .ok (.iconst (-1), 1) := by decide +kernel
theorem gdX12_isVoid_9 : decode cX12_isVoid 9 = .ok (.ireturn, 1) := by decide +kernel
theorem gdX12_judge_22 : decode cX12_judge 22 = .ok (.iconst (-1), 1) := by decide +kernel
theorem gdX12_judge_23 : decode cX12_judge 23 = .ok (.ireturn, 1) := by decide +kernel
theorem gdX12_judge_68 : decode cX12_judge 68 = .ok (.ireturn, 1) := by decide +kernel
theorem gdX12_judge_0 : decode cX12_judge 0 = .ok (.aload_n 0, 1) := by decide +kernel
theorem gdX12_judge_1 : decode cX12_judge 1 = .ok (.iload_n 1, 1) := by decide +kernel
theorem gdX12_judge_2 : decode cX12_judge 2 = .ok (.invokevirtual 308, 3) := by decide +kernel
theorem gdX12_judge_5 : decode cX12_judge 5 = .ok (.ifCond .eq 17, 3) := by decide +kernel
theorem gdX12_judge_8 : decode cX12_judge 8 = .ok (.iload_n 2, 1) := by decide +kernel
theorem gdX12_judge_9 : decode cX12_judge 9 = .ok (.invokestatic 212, 3) := by decide +kernel
theorem gdX12_judge_12 : decode cX12_judge 12 = .ok (.ifCond .eq 10, 3) := by decide +kernel
theorem gdX12_judge_15 : decode cX12_judge 15 = .ok (.iload_n 3, 1) := by decide +kernel
theorem gdX12_judge_16 : decode cX12_judge 16 = .ok (.invokestatic 212, 3) := by decide +kernel
theorem gdX12_judge_19 : decode cX12_judge 19 = .ok (.ifCond .ne 5, 3) := by decide +kernel
theorem gdX12_judge_24 : decode cX12_judge 24 = .ok (.aload_n 0, 1) := by decide +kernel
theorem gdX12_judge_25 : decode cX12_judge 25 = .ok (.iload_n 1, 1) := by decide +kernel
theorem gdX12_judge_26 : decode cX12_judge 26 = .ok (.invokevirtual 311, 3) := by decide +kernel
theorem gdX12_judge_29 : decode cX12_judge 29 = .ok (.ifCond .ne 9, 3) := by decide +kernel
theorem gdX12_judge_38 : decode cX12_judge 38 = .ok (.aload_n 0, 1) := by decide +kernel
theorem gdX12_judge_39 : decode cX12_judge 39 = .ok (.iload_n 2, 1) := by decide +kernel
theorem gdX12_judge_40 : decode cX12_judge 40 = .ok (.iload_n 3, 1) := by decide +kernel
theorem gdX12_judge_41 : decode cX12_judge 41 = .ok (.invokevirtual 437, 3) := by decide +kernel
theorem gdX12_judge_44 : decode cX12_judge 44 = .ok (.istore 4, 2) := by decide +kernel
theorem gdX12_judge_46 : decode cX12_judge 46 = .ok (.iload 4, 2) := by decide +kernel
theorem gdX12_judge_48 : decode cX12_judge 48 = .ok (.ifCond .ge 8, 3) := by decide +kernel
theorem gdX12_judge_56 : decode cX12_judge 56 = .ok (.aload_n 0, 1) := by decide +kernel
theorem gdX12_judge_57 : decode cX12_judge 57 = .ok (.aload_n 0, 1) := by decide +kernel
theorem gdX12_judge_58 : decode cX12_judge 58 = .ok (.iload_n 1, 1) := by decide +kernel
theorem gdX12_judge_59 : decode cX12_judge 59 = .ok (.iload_n 2, 1) := by decide +kernel
theorem gdX12_judge_60 : decode cX12_judge 60 = .ok (.iload_n 3, 1) := by decide +kernel
theorem gdX12_judge_61 : decode cX12_judge 61 = .ok (.invokevirtual 440, 3) := by decide +kernel
theorem gdX12_judge_64 : decode cX12_judge 64 = .ok (.iconst 1, 1) := by decide +kernel
theorem gdX12_judge_65 : decode cX12_judge 65 = .ok (.invokevirtual 290, 3) := by decide +kernel
theorem gdX12_judge_51 : decode cX12_judge 51 = .ok (.iload 4, 2) := by decide +kernel
theorem gdX12_judge_53 : decode cX12_judge 53 = .ok (.goto 15, 3) := by decide +kernel
theorem gdX12_judge_32 : decode cX12_judge 32 = .ok (.aload_n 0, 1) := by decide +kernel
theorem gdX12_judge_33 : decode cX12_judge 33 = .ok (.iconst 3, 1) := by decide +kernel
theorem gdX12_judge_34 : decode cX12_judge 34 = .ok (.invokevirtual 216, 3) := by decide +kernel
theorem gdX12_judge_37 : decode cX12_judge 37 = .ok (.ireturn, 1) := by decide +kernel
theorem gdX12_later_16 : decode cX12_later 16 = .ok (.iconst (-1), 1) := by decide +kernel
theorem gdX12_later_17 : decode cX12_later 17 = .ok (.ireturn, 1) := by decide +kernel
theorem gdX12_later_0 : decode cX12_later 0 = .ok (.iload_n 1, 1) := by decide +kernel
theorem gdX12_later_1 : decode cX12_later 1 = .ok (.ifCond .lt 15, 3) := by decide +kernel
theorem gdX12_later_4 : decode cX12_later 4 = .ok (.iload_n 1, 1) := by decide +kernel
theorem gdX12_later_5 : decode cX12_later 5 = .ok (.sipush 999, 3) := by decide +kernel
theorem gdX12_later_8 : decode cX12_later 8 = .ok (.aload_n 0, 1) := by decide +kernel
theorem gdX12_later_9 : decode cX12_later 9 = .ok (.getfield 229, 3) := by decide +kernel
theorem gdX12_later_12 : decode cX12_later 12 = .ok (.isub, 1) := by decide +kernel
theorem gdX12_later_13 : decode cX12_later 13 = .ok (.if_icmp .le 5, 3) := by decide +kernel
theorem gdX12_later_18 : decode cX12_later 18 = .ok (.aload_n 0, 1) := by decide +kernel
theorem gdX12_later_19 : decode cX12_later 19 = .ok (.dup, 1) := by decide +kernel
theorem gdX12_later_20 : decode cX12_later 20 = .ok (.getfield 229, 3) := by decide +kernel
theorem gdX12_later_23 : decode cX12_later 23 = .ok (.iload_n 1, 1) := by decide +kernel
theorem gdX12_later_24 : decode cX12_later 24 = .ok (.iadd, 1) := by decide +kernel
theorem gdX12_later_25 : decode cX12_later 25 = .ok (.putfield 229, 3) := by decide +kernel
theorem gdX12_later_28 : decode cX12_later 28 = .ok (.aload_n 0, 1) := by decide +kernel
theorem gdX12_later_29 : decode cX12_later 29 = .ok (.getfield 229, 3) := by decide +kernel
theorem gdX12_later_32 : decode cX12_later 32 = .ok (.ireturn, 1) := by decide +kernel
theorem gdX12_lay_0 : decode cX12_lay 0 = .ok (.aload_n 0, 1) := by decide +kernel
theorem gdX12_lay_1 : decode cX12_lay 1 = .ok (.iload_n 1, 1) := by decide +kernel
theorem gdX12_lay_2 : decode cX12_lay 2 = .ok (.invokevirtual 223, 3) := by decide +kernel
theorem gdX12_lay_5 : decode cX12_lay 5 = .ok (.istore 4, 2) := by decide +kernel
theorem gdX12_lay_7 : decode cX12_lay 7 = .ok (.iload 4, 2) := by decide +kernel
theorem gdX12_lay_9 : decode cX12_lay 9 = .ok (.ifCond .ge 6, 3) := by decide +kernel
theorem gdX12_lay_15 : decode cX12_lay 15 = .ok (.iload_n 2, 1) := by decide +kernel
theorem gdX12_lay_16 : decode cX12_lay 16 = .ok (.iconst 0, 1) := by decide +kernel
theorem gdX12_lay_17 : decode cX12_lay 17 = .ok (.aload_n 0, 1) := by decide +kernel
theorem gdX12_lay_18 : decode cX12_lay 18 = .ok (.getfield 13, 3) := by decide +kernel
theorem gdX12_lay_21 : decode cX12_lay 21 = .ok (.iload_n 1, 1) := by decide +kernel
theorem gdX12_lay_22 : decode cX12_lay 22 = .ok (.iaload, 1) := by decide +kernel
theorem gdX12_lay_23 : decode cX12_lay 23 = .ok (.iconst 1, 1) := by decide +kernel
theorem gdX12_lay_24 : decode cX12_lay 24 = .ok (.isub, 1) := by decide +kernel
theorem gdX12_lay_25 : decode cX12_lay 25 = .ok (.invokestatic 208, 3) := by decide +kernel
theorem gdX12_lay_28 : decode cX12_lay 28 = .ok (.ifCond .ne 9, 3) := by decide +kernel
theorem gdX12_lay_37 : decode cX12_lay 37 = .ok (.aload_n 0, 1) := by decide +kernel
theorem gdX12_lay_38 : decode cX12_lay 38 = .ok (.aload_n 0, 1) := by decide +kernel
theorem gdX12_lay_39 : decode cX12_lay 39 = .ok (.getfield 16, 3) := by decide +kernel
theorem gdX12_lay_42 : decode cX12_lay 42 = .ok (.bipush 40, 2) := by decide +kernel
theorem gdX12_lay_44 : decode cX12_lay 44 = .ok (.iload_n 1, 1) := by decide +kernel
theorem gdX12_lay_45 : decode cX12_lay 45 = .ok (.imul, 1) := by decide +kernel
theorem gdX12_lay_46 : decode cX12_lay 46 = .ok (.iload_n 2, 1) := by decide +kernel
theorem gdX12_lay_47 : decode cX12_lay 47 = .ok (.iadd, 1) := by decide +kernel
theorem gdX12_lay_48 : decode cX12_lay 48 = .ok (.iaload, 1) := by decide +kernel
theorem gdX12_lay_49 : decode cX12_lay 49 = .ok (.putfield 205, 3) := by decide +kernel
theorem gdX12_lay_52 : decode cX12_lay 52 = .ok (.aload_n 0, 1) := by decide +kernel
theorem gdX12_lay_53 : decode cX12_lay 53 = .ok (.getfield 16, 3) := by decide +kernel
theorem gdX12_lay_56 : decode cX12_lay 56 = .ok (.bipush 40, 2) := by decide +kernel
theorem gdX12_lay_58 : decode cX12_lay 58 = .ok (.iload_n 1, 1) := by decide +kernel
theorem gdX12_lay_59 : decode cX12_lay 59 = .ok (.imul, 1) := by decide +kernel
theorem gdX12_lay_60 : decode cX12_lay 60 = .ok (.iload_n 2, 1) := by decide +kernel
theorem gdX12_lay_61 : decode cX12_lay 61 = .ok (.iadd, 1) := by decide +kernel
theorem gdX12_lay_62 : decode cX12_lay 62 = .ok (.iload_n 3, 1) := by decide +kernel
theorem gdX12_lay_63 : decode cX12_lay 63 = .ok (.iastore, 1) := by decide +kernel
theorem gdX12_lay_64 : decode cX12_lay 64 = .ok (.iconst 1, 1) := by decide +kernel
theorem gdX12_lay_65 : decode cX12_lay 65 = .ok (.ireturn, 1) := by decide +kernel
theorem gdX12_lay_31 : decode cX12_lay 31 = .ok (.aload_n 0, 1) := by decide +kernel
theorem gdX12_lay_32 : decode cX12_lay 32 = .ok (.iconst 2, 1) := by decide +kernel
theorem gdX12_lay_33 : decode cX12_lay 33 = .ok (.invokevirtual 216, 3) := by decide +kernel
theorem gdX12_lay_36 : decode cX12_lay 36 = .ok (.ireturn, 1) := by decide +kernel
theorem gdX12_lay_12 : decode cX12_lay 12 = .ok (.iload 4, 2) := by decide +kernel
theorem gdX12_lay_14 : decode cX12_lay 14 = .ok (.ireturn, 1) := by decide +kernel
theorem gdX12_costOf_42 : decode cX12_costOf 42 = .ok (.iadd, 1) := by decide +kernel
theorem gdX12_costOf_43 : decode cX12_costOf 43 = .ok (.ireturn, 1) := by decide +kernel
theorem gdX12_costOf_0 : decode cX12_costOf 0 = .ok (.aload_n 0, 1) := by decide +kernel
theorem gdX12_costOf_1 : decode cX12_costOf 1 = .ok (.iload_n 1, 1) := by decide +kernel
theorem gdX12_costOf_2 : decode cX12_costOf 2 = .ok (.invokevirtual 260, 3) := by decide +kernel
theorem gdX12_costOf_5 : decode cX12_costOf 5 = .ok (.istore_n 3, 1) := by decide +kernel
theorem gdX12_costOf_6 : decode cX12_costOf 6 = .ok (.aload_n 0, 1) := by decide +kernel
theorem gdX12_costOf_7 : decode cX12_costOf 7 = .ok (.getfield 16, 3) := by decide +kernel
theorem gdX12_costOf_10 : decode cX12_costOf 10 = .ok (.bipush 40, 2) := by decide +kernel
theorem gdX12_costOf_12 : decode cX12_costOf 12 = .ok (.iload_n 2, 1) := by decide +kernel
theorem gdX12_costOf_13 : decode cX12_costOf 13 = .ok (.imul, 1) := by decide +kernel
theorem gdX12_costOf_14 : decode cX12_costOf 14 = .ok (.aload_n 0, 1) := by decide +kernel
theorem gdX12_costOf_15 : decode cX12_costOf 15 = .ok (.getfield 40, 3) := by decide +kernel
theorem gdX12_costOf_18 : decode cX12_costOf 18 = .ok (.iload_n 1, 1) := by decide +kernel
theorem gdX12_costOf_19 : decode cX12_costOf 19 = .ok (.iaload, 1) := by decide +kernel
theorem gdX12_costOf_20 : decode cX12_costOf 20 = .ok (.iadd, 1) := by decide +kernel
theorem gdX12_costOf_21 : decode cX12_costOf 21 = .ok (.iaload, 1) := by decide +kernel
theorem gdX12_costOf_22 : decode cX12_costOf 22 = .ok (.iload_n 3, 1) := by decide +kernel
theorem gdX12_costOf_23 : decode cX12_costOf 23 = .ok (.ifCond .ge 7, 3) := by decide +kernel
theorem gdX12_costOf_30 : decode cX12_costOf 30 = .ok (.aload_n 0, 1) := by decide +kernel
theorem gdX12_costOf_31 : decode cX12_costOf 31 = .ok (.iload_n 3, 1) := by decide +kernel
theorem gdX12_costOf_32 : decode cX12_costOf 32 = .ok (.aload_n 0, 1) := by decide +kernel
theorem gdX12_costOf_33 : decode cX12_costOf 33 = .ok (.getfield 229, 3) := by decide +kernel
theorem gdX12_costOf_36 : decode cX12_costOf 36 = .ok (.invokevirtual 277, 3) := by decide +kernel
theorem gdX12_costOf_39 : decode cX12_costOf 39 = .ok (.bipush 100, 2) := by decide +kernel
theorem gdX12_costOf_41 : decode cX12_costOf 41 = .ok (.idiv, 1) := by decide +kernel
theorem gdX12_costOf_26 : decode cX12_costOf 26 = .ok (.iconst 0, 1) := by decide +kernel
theorem gdX12_costOf_27 : decode cX12_costOf 27 = .ok (.goto 15, 3) := by decide +kernel
theorem gdX12_slope_24 : decode cX12_slope 24 = .ok (.ireturn, 1) := by decide +kernel
theorem gdX12_slope_0 : decode cX12_slope 0 = .ok (.aload_n 0, 1) := by decide +kernel
theorem gdX12_slope_1 : decode cX12_slope 1 = .ok (.getfield 43, 3) := by decide +kernel
theorem gdX12_slope_4 : decode cX12_slope 4 = .ok (.iload_n 1, 1) := by decide +kernel
theorem gdX12_slope_5 : decode cX12_slope 5 = .ok (.iaload, 1) := by decide +kernel
theorem gdX12_slope_6 : decode cX12_slope 6 = .ok (.aload_n 0, 1) := by decide +kernel
theorem gdX12_slope_7 : decode cX12_slope 7 = .ok (.getfield 43, 3) := by decide +kernel
theorem gdX12_slope_10 : decode cX12_slope 10 = .ok (.iload_n 2, 1) := by decide +kernel
theorem gdX12_slope_11 : decode cX12_slope 11 = .ok (.iaload, 1) := by decide +kernel
theorem gdX12_slope_12 : decode cX12_slope 12 = .ok (.isub, 1) := by decide +kernel
theorem gdX12_slope_13 : decode cX12_slope 13 = .ok (.istore_n 3, 1) := by decide +kernel
theorem gdX12_slope_14 : decode cX12_slope 14 = .ok (.iload_n 3, 1) := by decide +kernel
theorem gdX12_slope_15 : decode cX12_slope 15 = .ok (.ifCond .ge 8, 3) := by decide +kernel
theorem gdX12_slope_23 : decode cX12_slope 23 = .ok (.iload_n 3, 1) := by decide +kernel
theorem gdX12_slope_18 : decode cX12_slope 18 = .ok (.iload_n 3, 1) := by decide +kernel
theorem gdX12_slope_19 : decode cX12_slope 19 = .ok (.ineg, 1) := by decide +kernel
theorem gdX12_slope_20 : decode cX12_slope 20 = .ok (.goto 4, 3) := by decide +kernel
theorem gdX12_leads_39 : decode cX12_leads 39 = .ok (.ireturn, 1) := by decide +kernel
theorem gdX12_leads_38 : decode cX12_leads 38 = .ok (.iconst 0, 1) := by decide +kernel
theorem gdX12_leads_0 : decode cX12_leads 0 = .ok (.iload_n 2, 1) := by decide +kernel
theorem gdX12_leads_1 : decode cX12_leads 1 = .ok (.ifCond .lt 37, 3) := by decide +kernel
theorem gdX12_leads_4 : decode cX12_leads 4 = .ok (.aload_n 0, 1) := by decide +kernel
theorem gdX12_leads_5 : decode cX12_leads 5 = .ok (.getfield 40, 3) := by decide +kernel
theorem gdX12_leads_8 : decode cX12_leads 8 = .ok (.iload_n 1, 1) := by decide +kernel
theorem gdX12_leads_9 : decode cX12_leads 9 = .ok (.iaload, 1) := by decide +kernel
theorem gdX12_leads_10 : decode cX12_leads 10 = .ok (.iconst 4, 1) := by decide +kernel
theorem gdX12_leads_11 : decode cX12_leads 11 = .ok (.if_icmp .eq 27, 3) := by decide +kernel
theorem gdX12_leads_14 : decode cX12_leads 14 = .ok (.aload_n 0, 1) := by decide +kernel
theorem gdX12_leads_15 : decode cX12_leads 15 = .ok (.getfield 40, 3) := by decide +kernel
theorem gdX12_leads_18 : decode cX12_leads 18 = .ok (.iload_n 2, 1) := by decide +kernel
theorem gdX12_leads_19 : decode cX12_leads 19 = .ok (.iaload, 1) := by decide +kernel
theorem gdX12_leads_20 : decode cX12_leads 20 = .ok (.iconst 4, 1) := by decide +kernel
theorem gdX12_leads_21 : decode cX12_leads 21 = .ok (.if_icmp .eq 17, 3) := by decide +kernel
theorem gdX12_leads_24 : decode cX12_leads 24 = .ok (.aload_n 0, 1) := by decide +kernel
theorem gdX12_leads_25 : decode cX12_leads 25 = .ok (.iload_n 1, 1) := by decide +kernel
theorem gdX12_leads_26 : decode cX12_leads 26 = .ok (.iload_n 2, 1) := by decide +kernel
theorem gdX12_leads_27 : decode cX12_leads 27 = .ok (.invokevirtual 302, 3) := by decide +kernel
theorem gdX12_leads_30 : decode cX12_leads 30 = .ok (.iload_n 3, 1) := by decide +kernel
theorem gdX12_leads_31 : decode cX12_leads 31 = .ok (.if_icmp .gt 7, 3) := by decide +kernel
theorem gdX12_leads_34 : decode cX12_leads 34 = .ok (.iconst 1, 1) := by decide +kernel
theorem gdX12_leads_35 : decode cX12_leads 35 = .ok (.goto 4, 3) := by decide +kernel
theorem gdX12_goOn_33 : decode cX12_goOn 33 = .ok (.iadd, 1) := by decide +kernel
theorem gdX12_goOn_34 : decode cX12_goOn 34 = .ok (.aload_n 0, 1) := by decide +kernel
theorem gdX12_goOn_35 : decode cX12_goOn 35 = .ok (.getfield 123, 3) := by decide +kernel
theorem gdX12_goOn_38 : decode cX12_goOn 38 = .ok (.iconst 5, 1) := by decide +kernel
theorem gdX12_goOn_39 : decode cX12_goOn 39 = .ok (.iload 4, 2) := by decide +kernel
theorem gdX12_goOn_41 : decode cX12_goOn 41 = .ok (.imul, 1) := by decide +kernel
theorem gdX12_goOn_42 : decode cX12_goOn 42 = .ok (.iload_n 3, 1) := by decide +kernel
theorem gdX12_goOn_43 : decode cX12_goOn 43 = .ok (.iadd, 1) := by decide +kernel
theorem gdX12_goOn_44 : decode cX12_goOn 44 = .ok (.iaload, 1) := by decide +kernel
theorem gdX12_goOn_45 : decode cX12_goOn 45 = .ok (.iadd, 1) := by decide +kernel
theorem gdX12_goOn_46 : decode cX12_goOn 46 = .ok (.ireturn, 1) := by decide +kernel
theorem gdX12_goOn_32 : decode cX12_goOn 32 = .ok (.iconst 0, 1) := by decide +kernel
theorem gdX12_goOn_0 : decode cX12_goOn 0 = .ok (.bipush 10, 2) := by decide +kernel
theorem gdX12_goOn_2 : decode cX12_goOn 2 = .ok (.aload_n 0, 1) := by decide +kernel
theorem gdX12_goOn_3 : decode cX12_goOn 3 = .ok (.iload_n 1, 1) := by decide +kernel
theorem gdX12_goOn_4 : decode cX12_goOn 4 = .ok (.iload 4, 2) := by decide +kernel
theorem gdX12_goOn_6 : decode cX12_goOn 6 = .ok (.invokevirtual 302, 3) := by decide +kernel
theorem gdX12_goOn_9 : decode cX12_goOn 9 = .ok (.imul, 1) := by decide +kernel
theorem gdX12_goOn_10 : decode cX12_goOn 10 = .ok (.aload_n 0, 1) := by decide +kernel
theorem gdX12_goOn_11 : decode cX12_goOn 11 = .ok (.getfield 126, 3) := by decide +kernel
theorem gdX12_goOn_14 : decode cX12_goOn 14 = .ok (.iload 4, 2) := by decide +kernel
theorem gdX12_goOn_16 : decode cX12_goOn 16 = .ok (.iaload, 1) := by decide +kernel
theorem gdX12_goOn_17 : decode cX12_goOn 17 = .ok (.iadd, 1) := by decide +kernel
theorem gdX12_goOn_18 : decode cX12_goOn 18 = .ok (.iload_n 2, 1) := by decide +kernel
theorem gdX12_goOn_19 : decode cX12_goOn 19 = .ok (.iconst 4, 1) := by decide +kernel
theorem gdX12_goOn_20 : decode cX12_goOn 20 = .ok (.if_icmp .ge 12, 3) := by decide +kernel
theorem gdX12_goOn_23 : decode cX12_goOn 23 = .ok (.iload_n 2, 1) := by decide +kernel
theorem gdX12_goOn_24 : decode cX12_goOn 24 = .ok (.iload_n 3, 1) := by decide +kernel
theorem gdX12_goOn_25 : decode cX12_goOn 25 = .ok (.if_icmp .eq 7, 3) := by decide +kernel
theorem gdX12_goOn_28 : decode cX12_goOn 28 = .ok (.iconst 5, 1) := by decide +kernel
theorem gdX12_goOn_29 : decode cX12_goOn 29 = .ok (.goto 4, 3) := by decide +kernel
theorem gdX12_setLeft_224 : decode cX12_setLeft 224 = .ok (.return_, 1) := by decide +kernel
theorem gdX12_setLeft_221 : decode cX12_setLeft 221 = .ok (.goto (-184), 3) := by decide +kernel
theorem gdX12_setLeft_215 : decode cX12_setLeft 215 = .ok (.iinc 4 1, 3) := by decide +kernel
theorem gdX12_setLeft_218 : decode cX12_setLeft 218 = .ok (.goto (-172), 3) := by decide +kernel
theorem gdX12_setLeft_209 : decode cX12_setLeft 209 = .ok (.iinc 5 1, 3) := by decide +kernel
theorem gdX12_setLeft_212 : decode cX12_setLeft 212 = .ok (.goto (-156), 3) := by decide +kernel
theorem gdX12_setLeft_202 : decode cX12_setLeft 202 = .ok (.iastore, 1) := by decide +kernel
theorem gdX12_setLeft_203 : decode cX12_setLeft 203 = .ok (.iinc 7 1, 3) := by decide +kernel
theorem gdX12_setLeft_206 : decode cX12_setLeft 206 = .ok (.goto (-96), 3) := by decide +kernel
theorem gdX12_setLeft_156 : decode cX12_setLeft 156 = .ok (.istore_n 3, 1) := by decide +kernel
theorem gdX12_setLeft_157 : decode cX12_setLeft 157 = .ok (.aload_n 0, 1) := by decide +kernel
theorem gdX12_setLeft_158 : decode cX12_setLeft 158 = .ok (.getfield 123, 3) := by decide +kernel
theorem gdX12_setLeft_161 : decode cX12_setLeft 161 = .ok (.iconst 5, 1) := by decide +kernel
theorem gdX12_setLeft_162 : decode cX12_setLeft 162 = .ok (.iload 4, 2) := by decide +kernel
theorem gdX12_setLeft_164 : decode cX12_setLeft 164 = .ok (.imul, 1) := by decide +kernel
theorem gdX12_setLeft_165 : decode cX12_setLeft 165 = .ok (.iload 7, 2) := by decide +kernel
theorem gdX12_setLeft_167 : decode cX12_setLeft 167 = .ok (.iadd, 1) := by decide +kernel
theorem gdX12_setLeft_168 : decode cX12_setLeft 168 = .ok (.iload 8, 2) := by decide +kernel
theorem gdX12_setLeft_170 : decode cX12_setLeft 170 = .ok (.aload_n 0, 1) := by decide +kernel
theorem gdX12_setLeft_171 : decode cX12_setLeft 171 = .ok (.getfield 123, 3) := by decide +kernel
theorem gdX12_setLeft_174 : decode cX12_setLeft 174 = .ok (.iconst 5, 1) := by decide +kernel
theorem gdX12_setLeft_175 : decode cX12_setLeft 175 = .ok (.iload 4, 2) := by decide +kernel
theorem gdX12_setLeft_177 : decode cX12_setLeft 177 = .ok (.imul, 1) := by decide +kernel
theorem gdX12_setLeft_178 : decode cX12_setLeft 178 = .ok (.iload 7, 2) := by decide +kernel
theorem gdX12_setLeft_180 : decode cX12_setLeft 180 = .ok (.iadd, 1) := by decide +kernel
theorem gdX12_setLeft_181 : decode cX12_setLeft 181 = .ok (.iaload, 1) := by decide +kernel
theorem gdX12_setLeft_182 : decode cX12_setLeft 182 = .ok (.if_icmp .ge 8, 3) := by decide +kernel
theorem gdX12_setLeft_190 : decode cX12_setLeft 190 = .ok (.aload_n 0, 1) := by decide +kernel
theorem gdX12_setLeft_191 : decode cX12_setLeft 191 = .ok (.getfield 123, 3) := by decide +kernel
theorem gdX12_setLeft_194 : decode cX12_setLeft 194 = .ok (.iconst 5, 1) := by decide +kernel
theorem gdX12_setLeft_195 : decode cX12_setLeft 195 = .ok (.iload 4, 2) := by decide +kernel
theorem gdX12_setLeft_197 : decode cX12_setLeft 197 = .ok (.imul, 1) := by decide +kernel
theorem gdX12_setLeft_198 : decode cX12_setLeft 198 = .ok (.iload 7, 2) := by decide +kernel
theorem gdX12_setLeft_200 : decode cX12_setLeft 200 = .ok (.iadd, 1) := by decide +kernel
theorem gdX12_setLeft_201 : decode cX12_setLeft 201 = .ok (.iaload, 1) := by decide +kernel
theorem gdX12_setLeft_185 : decode cX12_setLeft 185 = .ok (.iload 8, 2) := by decide +kernel
theorem gdX12_setLeft_187 : decode cX12_setLeft 187 = .ok (.goto 15, 3) := by decide +kernel
theorem gdX12_setLeft_151 : decode cX12_setLeft 151 = .ok (.iconst 1, 1) := by decide +kernel
theorem gdX12_setLeft_152 : decode cX12_setLeft 152 = .ok (.goto 4, 3) := by decide +kernel
theorem gdX12_setLeft_110 : decode cX12_setLeft 110 = .ok (.iload 7, 2) := by decide +kernel
theorem gdX12_setLeft_112 : decode cX12_setLeft 112 = .ok (.iconst 5, 1) := by decide +kernel
theorem gdX12_setLeft_113 : decode cX12_setLeft 113 = .ok (.if_icmp .ge 96, 3) := by decide +kernel
theorem gdX12_setLeft_116 : decode cX12_setLeft 116 = .ok (.aload_n 0, 1) := by decide +kernel
theorem gdX12_setLeft_117 : decode cX12_setLeft 117 = .ok (.iload 4, 2) := by decide +kernel
theorem gdX12_setLeft_119 : decode cX12_setLeft 119 = .ok (.iload 7, 2) := by decide +kernel
theorem gdX12_setLeft_121 : decode cX12_setLeft 121 = .ok (.iload 5, 2) := by decide +kernel
theorem gdX12_setLeft_123 : decode cX12_setLeft 123 = .ok (.iload 6, 2) := by decide +kernel
theorem gdX12_setLeft_125 : decode cX12_setLeft 125 = .ok (.invokevirtual 321, 3) := by decide +kernel
theorem gdX12_setLeft_128 : decode cX12_setLeft 128 = .ok (.istore 8, 2) := by decide +kernel
theorem gdX12_setLeft_130 : decode cX12_setLeft 130 = .ok (.iload_n 3, 1) := by decide +kernel
theorem gdX12_setLeft_131 : decode cX12_setLeft 131 = .ok (.ifCond .ne 20, 3) := by decide +kernel
theorem gdX12_setLeft_134 : decode cX12_setLeft 134 = .ok (.iload 8, 2) := by decide +kernel
theorem gdX12_setLeft_136 : decode cX12_setLeft 136 = .ok (.aload_n 0, 1) := by decide +kernel
theorem gdX12_setLeft_137 : decode cX12_setLeft 137 = .ok (.getfield 123, 3) := by decide +kernel
theorem gdX12_setLeft_140 : decode cX12_setLeft 140 = .ok (.iconst 5, 1) := by decide +kernel
theorem gdX12_setLeft_141 : decode cX12_setLeft 141 = .ok (.iload 4, 2) := by decide +kernel
theorem gdX12_setLeft_143 : decode cX12_setLeft 143 = .ok (.imul, 1) := by decide +kernel
theorem gdX12_setLeft_144 : decode cX12_setLeft 144 = .ok (.iload 7, 2) := by decide +kernel
theorem gdX12_setLeft_146 : decode cX12_setLeft 146 = .ok (.iadd, 1) := by decide +kernel
theorem gdX12_setLeft_147 : decode cX12_setLeft 147 = .ok (.iaload, 1) := by decide +kernel
theorem gdX12_setLeft_148 : decode cX12_setLeft 148 = .ok (.if_icmp .ge 7, 3) := by decide +kernel
theorem gdX12_setLeft_155 : decode cX12_setLeft 155 = .ok (.iconst 0, 1) := by decide +kernel
theorem gdX12_setLeft_56 : decode cX12_setLeft 56 = .ok (.iload 5, 2) := by decide +kernel
theorem gdX12_setLeft_58 : decode cX12_setLeft 58 = .ok (.iconst 4, 1) := by decide +kernel
theorem gdX12_setLeft_59 : decode cX12_setLeft 59 = .ok (.if_icmp .ge 156, 3) := by decide +kernel
theorem gdX12_setLeft_62 : decode cX12_setLeft 62 = .ok (.iload 4, 2) := by decide +kernel
theorem gdX12_setLeft_64 : decode cX12_setLeft 64 = .ok (.iload 5, 2) := by decide +kernel
theorem gdX12_setLeft_66 : decode cX12_setLeft 66 = .ok (.invokestatic 315, 3) := by decide +kernel
theorem gdX12_setLeft_69 : decode cX12_setLeft 69 = .ok (.istore 6, 2) := by decide +kernel
theorem gdX12_setLeft_71 : decode cX12_setLeft 71 = .ok (.iload 4, 2) := by decide +kernel
theorem gdX12_setLeft_73 : decode cX12_setLeft 73 = .ok (.iload_n 1, 1) := by decide +kernel
theorem gdX12_setLeft_74 : decode cX12_setLeft 74 = .ok (.if_icmp .eq 135, 3) := by decide +kernel
theorem gdX12_setLeft_77 : decode cX12_setLeft 77 = .ok (.aload_n 0, 1) := by decide +kernel
theorem gdX12_setLeft_78 : decode cX12_setLeft 78 = .ok (.iload 4, 2) := by decide +kernel
theorem gdX12_setLeft_80 : decode cX12_setLeft 80 = .ok (.iload 6, 2) := by decide +kernel
theorem gdX12_setLeft_82 : decode cX12_setLeft 82 = .ok (.iload_n 2, 1) := by decide +kernel
theorem gdX12_setLeft_83 : decode cX12_setLeft 83 = .ok (.invokevirtual 318, 3) := by decide +kernel
theorem gdX12_setLeft_86 : decode cX12_setLeft 86 = .ok (.ifCond .eq 123, 3) := by decide +kernel
theorem gdX12_setLeft_89 : decode cX12_setLeft 89 = .ok (.aload_n 0, 1) := by decide +kernel
theorem gdX12_setLeft_90 : decode cX12_setLeft 90 = .ok (.getfield 123, 3) := by decide +kernel
theorem gdX12_setLeft_93 : decode cX12_setLeft 93 = .ok (.iconst 5, 1) := by decide +kernel
theorem gdX12_setLeft_94 : decode cX12_setLeft 94 = .ok (.iload 6, 2) := by decide +kernel
theorem gdX12_setLeft_96 : decode cX12_setLeft 96 = .ok (.imul, 1) := by decide +kernel
theorem gdX12_setLeft_97 : decode cX12_setLeft 97 = .ok (.iload 5, 2) := by decide +kernel
theorem gdX12_setLeft_99 : decode cX12_setLeft 99 = .ok (.iadd, 1) := by decide +kernel
theorem gdX12_setLeft_100 : decode cX12_setLeft 100 = .ok (.iaload, 1) := by decide +kernel
theorem gdX12_setLeft_101 : decode cX12_setLeft 101 = .ok (.ldc_w 314, 3) := by decide +kernel
theorem gdX12_setLeft_104 : decode cX12_setLeft 104 = .ok (.if_icmp .ge 105, 3) := by decide +kernel
theorem gdX12_setLeft_107 : decode cX12_setLeft 107 = .ok (.iconst 0, 1) := by decide +kernel
theorem gdX12_setLeft_108 : decode cX12_setLeft 108 = .ok (.istore 7, 2) := by decide +kernel
theorem gdX12_setLeft_46 : decode cX12_setLeft 46 = .ok (.iload 4, 2) := by decide +kernel
theorem gdX12_setLeft_48 : decode cX12_setLeft 48 = .ok (.bipush 64, 2) := by decide +kernel
theorem gdX12_setLeft_50 : decode cX12_setLeft 50 = .ok (.if_icmp .ge 171, 3) := by decide +kernel
theorem gdX12_setLeft_53 : decode cX12_setLeft 53 = .ok (.iconst 0, 1) := by decide +kernel
theorem gdX12_setLeft_54 : decode cX12_setLeft 54 = .ok (.istore 5, 2) := by decide +kernel
theorem gdX12_setLeft_37 : decode cX12_setLeft 37 = .ok (.iload_n 3, 1) := by decide +kernel
theorem gdX12_setLeft_38 : decode cX12_setLeft 38 = .ok (.ifCond .eq 186, 3) := by decide +kernel
theorem gdX12_setLeft_41 : decode cX12_setLeft 41 = .ok (.iconst 0, 1) := by decide +kernel
theorem gdX12_setLeft_42 : decode cX12_setLeft 42 = .ok (.istore_n 3, 1) := by decide +kernel
theorem gdX12_setLeft_43 : decode cX12_setLeft 43 = .ok (.iconst 0, 1) := by decide +kernel
theorem gdX12_setLeft_44 : decode cX12_setLeft 44 = .ok (.istore 4, 2) := by decide +kernel
theorem gdX12_setLeft_35 : decode cX12_setLeft 35 = .ok (.iconst 1, 1) := by decide +kernel
theorem gdX12_setLeft_36 : decode cX12_setLeft 36 = .ok (.istore_n 3, 1) := by decide +kernel
theorem gdX12_setLeft_28 : decode cX12_setLeft 28 = .ok (.iastore, 1) := by decide +kernel
theorem gdX12_setLeft_29 : decode cX12_setLeft 29 = .ok (.iinc 3 1, 3) := by decide +kernel
theorem gdX12_setLeft_32 : decode cX12_setLeft 32 = .ok (.goto (-30), 3) := by decide +kernel
theorem gdX12_setLeft_2 : decode cX12_setLeft 2 = .ok (.iload_n 3, 1) := by decide +kernel
theorem gdX12_setLeft_3 : decode cX12_setLeft 3 = .ok (.sipush 320, 3) := by decide +kernel
theorem gdX12_setLeft_6 : decode cX12_setLeft 6 = .ok (.if_icmp .ge 29, 3) := by decide +kernel
theorem gdX12_setLeft_9 : decode cX12_setLeft 9 = .ok (.aload_n 0, 1) := by decide +kernel
theorem gdX12_setLeft_10 : decode cX12_setLeft 10 = .ok (.getfield 123, 3) := by decide +kernel
theorem gdX12_setLeft_13 : decode cX12_setLeft 13 = .ok (.iload_n 3, 1) := by decide +kernel
theorem gdX12_setLeft_14 : decode cX12_setLeft 14 = .ok (.iload_n 3, 1) := by decide +kernel
theorem gdX12_setLeft_15 : decode cX12_setLeft 15 = .ok (.iconst 5, 1) := by decide +kernel
theorem gdX12_setLeft_16 : decode cX12_setLeft 16 = .ok (.idiv, 1) := by decide +kernel
theorem gdX12_setLeft_17 : decode cX12_setLeft 17 = .ok (.iload_n 1, 1) := by decide +kernel
theorem gdX12_setLeft_18 : decode cX12_setLeft 18 = .ok (.if_icmp .ne 7, 3) := by decide +kernel
theorem gdX12_setLeft_25 : decode cX12_setLeft 25 = .ok (.ldc_w 314, 3) := by decide +kernel
theorem gdX12_setLeft_21 : decode cX12_setLeft 21 = .ok (.iconst 0, 1) := by decide +kernel
theorem gdX12_setLeft_22 : decode cX12_setLeft 22 = .ok (.goto 6, 3) := by decide +kernel
theorem gdX12_setLeft_0 : decode cX12_setLeft 0 = .ok (.iconst 0, 1) := by decide +kernel
theorem gdX12_setLeft_1 : decode cX12_setLeft 1 = .ok (.istore_n 3, 1) := by decide +kernel
theorem okm_X12_isText : okM yX12_isText cX12_isText 1 (some .boolean) 1 := ⟨w_1734, w_103, by decide +kernel, by decide +kernel, by decide +kernel⟩
theorem okm_X12_letter : okM yX12_letter cX12_letter 1 (some .int) 1 := ⟨w_1757, w_103, by decide +kernel, by decide +kernel, by decide +kernel⟩
theorem okm_X12_askedText : okM yX12_askedText cX12_askedText 2 (some .int) 1 := ⟨w_1742, w_103, by decide +kernel, by decide +kernel, by decide +kernel⟩
theorem okw_X12_askedText : okV yX12_askedText := ⟨w_1741, w_39⟩
theorem okm_X12_reads : okM yX12_reads cX12_reads 6 (some .int) 1 := ⟨w_1754, w_103, by decide +kernel, by decide +kernel, by decide +kernel⟩
theorem okw_X12_reads : okV yX12_reads := ⟨w_1753, w_40⟩
theorem okm_X12_isDay : okM yX12_isDay cX12_isDay 1 (some .boolean) 1 := ⟨w_1764, w_103, by decide +kernel, by decide +kernel, by decide +kernel⟩
theorem okm_X12_isAsked : okM yX12_isAsked cX12_isAsked 3 (some .boolean) 3 := ⟨w_1771, w_103, by decide +kernel, by decide +kernel, by decide +kernel⟩
theorem okm_X12_enter : okM yX12_enter cX12_enter 3 (some .int) 2 := ⟨w_1898, w_103, by decide +kernel, by decide +kernel, by decide +kernel⟩
theorem okw_X12_enter : okV yX12_enter := ⟨w_1897, w_59⟩
theorem okm_X12_couldCome : okM yX12_couldCome cX12_couldCome 6 (some .int) 1 := ⟨w_1972, w_103, by decide +kernel, by decide +kernel, by decide +kernel⟩
theorem okw_X12_couldCome : okV yX12_couldCome := ⟨w_1971, w_67⟩
theorem okm_X12_isVoidHearing : okM yX12_isVoidHearing cX12_isVoidHearing 2 (some .boolean) 1 := ⟨w_2057, w_103, by decide +kernel, by decide +kernel, by decide +kernel⟩
theorem okw_X12_isVoidHearing : okV yX12_isVoidHearing := ⟨w_2056, w_77⟩
theorem okm_X12_isVoidTaking : okM yX12_isVoidTaking cX12_isVoidTaking 4 (some .boolean) 1 := ⟨w_2061, w_103, by decide +kernel, by decide +kernel, by decide +kernel⟩
theorem okw_X12_isVoidTaking : okV yX12_isVoidTaking := ⟨w_2060, w_78⟩
theorem okm_X12_slope : okM yX12_slope cX12_slope 4 (some .int) 2 := ⟨w_1890, w_103, by decide +kernel, by decide +kernel, by decide +kernel⟩
theorem okw_X12_slope : okV yX12_slope := ⟨w_1889, w_57⟩
theorem okm_X12_goOn : okM yX12_goOn cX12_goOn 5 (some .int) 4 := ⟨w_1894, w_103, by decide +kernel, by decide +kernel, by decide +kernel⟩
theorem okw_X12_goOn : okV yX12_goOn := ⟨w_1893, w_58⟩
theorem okm_X12_leads : okM yX12_leads cX12_leads 4 (some .boolean) 3 := ⟨w_1886, w_103, by decide +kernel, by decide +kernel, by decide +kernel⟩
theorem okw_X12_leads : okV yX12_leads := ⟨w_1885, w_56⟩
noncomputable def s_X12_isText (x0 : Int) : Option (Int) := qB (s_X12_in x0 0 3) (fun r1 => qZ r1 (some r1))
set_option maxHeartbeats 4000000 in
set_option maxRecDepth 100000 in
theorem c_X12_isText (l : Launch) (g : GG) (ws : va_W) (x0 : Int) (v : Int) (h : s_X12_isText x0 = some v) : CI l g yX12_isText cX12_isText 1 (some .boolean) 1 22 ws [iv x0] v ws := by
  refine met_I (by decide) (Nat.le_of_ble_eq_true rfl) ?_
  intro X E hQ
  show Go X 0 ws [(0, iv x0)] []
  unfold s_X12_isText at h
  refine g_iload_n E gdX12_isText_0 rfl 0 rfl ?_
  refine g_iconst E gdX12_isText_1 ?_
  refine g_iconst E gdX12_isText_2 ?_
  obtain ⟨r1, hc2, h⟩ := qB_of h
  refine g_Si (r := r1) (As := [iv x0, iv 0, iv 3]) (rest := []) (w := ws) E (c_X12_in l g ws x0 0 3 r1 hc2) okm_X12_in w_1706 w_1705 rfl rfl (Nat.le_of_ble_eq_true rfl) ⟨Nat.le_of_ble_eq_true rfl, Nat.le_of_ble_eq_true rfl⟩ gdX12_isText_3 ?_
  obtain ⟨hz, h⟩ := qZ_of h
  exact g_zret E hQ hz (Option.some.inj h) rfl gdX12_isText_6
noncomputable def b_X12_askedText_29 (o : OO) (y0 : Int) : Option (Int × OO) := some (y0, o)
noncomputable def s_X12_askedText (o : OO) (x1 : Int) : Option (Int × OO) := qB (s_X12_isText x1) (fun r1 => qEq r1 0 (b_X12_askedText_29 o (-1)) (qIn x1 4 (qNm (o.1 5 x1.toNat) (fun n4 => qLt n4 0 (qB2 (s_X12_meets o 1) (fun r5 o7 => b_X12_askedText_29 o7 r5)) (b_X12_askedText_29 o 0)))))
set_option maxHeartbeats 4000000 in
set_option maxRecDepth 100000 in
theorem c_X12_askedText (l : Launch) (g : GG) (ad : Nat → Nat) (o : OO) (x1 : Int) (v : Int × OO) (h : s_X12_askedText o x1 = some v) : CI l g yX12_askedText cX12_askedText 2 (some .int) 2 42 (wM g ad o) [.ref (ad 0), iv x1] v.1 (wM g ad v.2) := by
  refine met_I (by decide) (Nat.le_of_ble_eq_true rfl) ?_
  intro X E hQ
  show Go X 0 (wM g ad o) [(0, .ref (ad 0)), (1, iv x1)] []
  have j29 : ∀ (o : OO) (y0 : Int), b_X12_askedText_29 o y0 = some v → Go X 29 (wM g ad o) [] [iv y0] := by
    intro o y0 h
    unfold b_X12_askedText_29 at h
    exact g_iret E hQ (by rw [← Option.some.inj h]) (by rw [← Option.some.inj h]) gdX12_askedText_29
  unfold s_X12_askedText at h
  refine g_iload_n E gdX12_askedText_0 rfl 1 rfl ?_
  obtain ⟨r1, hc2, h⟩ := qB_of h
  refine g_Si (r := r1) (As := [iv x1]) (rest := []) (w := wM g ad o) E (c_X12_isText l g (wM g ad o) x1 r1 hc2) okm_X12_isText w_1733 w_1732 rfl rfl (Nat.le_of_ble_eq_true rfl) ⟨Nat.le_of_ble_eq_true rfl, Nat.le_of_ble_eq_true rfl⟩ gdX12_askedText_1 ?_
  refine g_if_ne E 11 gdX12_askedText_4 (by decide) h (fun h => ?_) (fun h => ?_)
  ·
    refine g_aload_n E gdX12_askedText_11 rfl 0 rfl ?_
    refine g_get (T := TX12) E fw_X12 0 (wM_0 g ad o) rfl 8 (by decide) w_1474 rfl rfl gdX12_askedText_12 ?_
    refine g_iload_n E gdX12_askedText_15 rfl 1 rfl ?_
    obtain ⟨hi3, h⟩ := qIn_of h
    refine g_iald E 5 (wM_5 g ad o) (by decide) hi3 gdX12_askedText_16 ?_
    obtain ⟨n4, e_n4, h⟩ := qNm_of h
    refine g_nmi e_n4 ?_
    refine g_if_ge E 28 gdX12_askedText_17 (by decide) h (fun h => ?_) (fun h => ?_)
    ·
      refine g_iconst E gdX12_askedText_28 ?_
      refine g_sub E [] rfl ?_
      exact j29 o 0 h
    ·
      refine g_aload_n E gdX12_askedText_20 rfl 0 rfl ?_
      refine g_iconst E gdX12_askedText_21 ?_
      obtain ⟨r5, o7, hc6, h⟩ := qB2_of h
      refine g_Vi (r := r5) (As := [iv 1]) (rest := []) (w := wM g ad o7) E (c_X12_meets l g ad o 1 (r5, o7) hc6) okm_X12_meets okw_X12_meets w_1708 rfl (wM_0 g ad o) rfl rfl (Nat.le_of_ble_eq_true rfl) ⟨Nat.le_of_ble_eq_true rfl, Nat.le_of_ble_eq_true rfl⟩ gdX12_askedText_22 ?_
      refine g_goto E 29 gdX12_askedText_25 (by decide) ?_
      refine g_sub E [] rfl ?_
      exact j29 o7 r5 h
  ·
    refine g_iconst E gdX12_askedText_7 ?_
    refine g_goto E 29 gdX12_askedText_8 (by decide) ?_
    refine g_sub E [] rfl ?_
    exact j29 o (-1) h
noncomputable def s_X12_letter (x0 : Int) : Option (Int) := qEq x0 70 (some 1) (qEq x0 71 (some (-9)) (qEq x0 72 (some 7) (qEq x0 73 (some (-9)) (qEq x0 74 (some (-9)) (qEq x0 75 (some 4) (qEq x0 76 (some (-9)) (qEq x0 77 (some 3) (qEq x0 78 (some 5) (qEq x0 79 (some (-9)) (qEq x0 80 (some 6) (qEq x0 81 (some (-9)) (qEq x0 82 (some (-9)) (qEq x0 83 (some 0) (qEq x0 84 (some 2) (some (-9))))))))))))))))
set_option maxHeartbeats 4000000 in
set_option maxRecDepth 100000 in
theorem c_X12_letter (l : Launch) (g : GG) (ws : va_W) (x0 : Int) (v : Int) (h : s_X12_letter x0 = some v) : CI l g yX12_letter cX12_letter 1 (some .int) 0 0 ws [iv x0] v ws := by
  refine met_I (by decide) (Nat.le_of_ble_eq_true rfl) ?_
  intro X E hQ
  show Go X 0 ws [(0, iv x0)] []
  unfold s_X12_letter at h
  refine g_iload_n E gdX12_letter_0 rfl 0 rfl ?_
  obtain ⟨h1, -, ⟨hx, h⟩ | ⟨hx0, h⟩⟩ := qEq_of h
  ·
    refine g_tabIn (kx := 70) (off := 77) E 78 gdX12_letter_1 hx (by decide) (by decide) (by decide) (by decide) (by decide) ?_
    refine g_iconst E gdX12_letter_78 ?_
    exact g_iret E hQ (Option.some.inj h) rfl gdX12_letter_79
  ·
    obtain ⟨h1, -, ⟨hx, h⟩ | ⟨hx1, h⟩⟩ := qEq_of h
    ·
      refine g_tabIn (kx := 71) (off := 93) E 94 gdX12_letter_1 hx (by decide) (by decide) (by decide) (by decide) (by decide) ?_
      refine g_bipush E gdX12_letter_94 (by decide) ?_
      exact g_iret E hQ (Option.some.inj h) rfl gdX12_letter_96
    ·
      obtain ⟨h1, -, ⟨hx, h⟩ | ⟨hx2, h⟩⟩ := qEq_of h
      ·
        refine g_tabIn (kx := 72) (off := 90) E 91 gdX12_letter_1 hx (by decide) (by decide) (by decide) (by decide) (by decide) ?_
        refine g_bipush E gdX12_letter_91 (by decide) ?_
        exact g_iret E hQ (Option.some.inj h) rfl gdX12_letter_93
      ·
        obtain ⟨h1, -, ⟨hx, h⟩ | ⟨hx3, h⟩⟩ := qEq_of h
        ·
          refine g_tabIn (kx := 73) (off := 93) E 94 gdX12_letter_1 hx (by decide) (by decide) (by decide) (by decide) (by decide) ?_
          refine g_bipush E gdX12_letter_94 (by decide) ?_
          exact g_iret E hQ (Option.some.inj h) rfl gdX12_letter_96
        ·
          obtain ⟨h1, -, ⟨hx, h⟩ | ⟨hx4, h⟩⟩ := qEq_of h
          ·
            refine g_tabIn (kx := 74) (off := 93) E 94 gdX12_letter_1 hx (by decide) (by decide) (by decide) (by decide) (by decide) ?_
            refine g_bipush E gdX12_letter_94 (by decide) ?_
            exact g_iret E hQ (Option.some.inj h) rfl gdX12_letter_96
          ·
            obtain ⟨h1, -, ⟨hx, h⟩ | ⟨hx5, h⟩⟩ := qEq_of h
            ·
              refine g_tabIn (kx := 75) (off := 83) E 84 gdX12_letter_1 hx (by decide) (by decide) (by decide) (by decide) (by decide) ?_
              refine g_iconst E gdX12_letter_84 ?_
              exact g_iret E hQ (Option.some.inj h) rfl gdX12_letter_85
            ·
              obtain ⟨h1, -, ⟨hx, h⟩ | ⟨hx6, h⟩⟩ := qEq_of h
              ·
                refine g_tabIn (kx := 76) (off := 93) E 94 gdX12_letter_1 hx (by decide) (by decide) (by decide) (by decide) (by decide) ?_
                refine g_bipush E gdX12_letter_94 (by decide) ?_
                exact g_iret E hQ (Option.some.inj h) rfl gdX12_letter_96
              ·
                obtain ⟨h1, -, ⟨hx, h⟩ | ⟨hx7, h⟩⟩ := qEq_of h
                ·
                  refine g_tabIn (kx := 77) (off := 81) E 82 gdX12_letter_1 hx (by decide) (by decide) (by decide) (by decide) (by decide) ?_
                  refine g_iconst E gdX12_letter_82 ?_
                  exact g_iret E hQ (Option.some.inj h) rfl gdX12_letter_83
                ·
                  obtain ⟨h1, -, ⟨hx, h⟩ | ⟨hx8, h⟩⟩ := qEq_of h
                  ·
                    refine g_tabIn (kx := 78) (off := 85) E 86 gdX12_letter_1 hx (by decide) (by decide) (by decide) (by decide) (by decide) ?_
                    refine g_iconst E gdX12_letter_86 ?_
                    exact g_iret E hQ (Option.some.inj h) rfl gdX12_letter_87
                  ·
                    obtain ⟨h1, -, ⟨hx, h⟩ | ⟨hx9, h⟩⟩ := qEq_of h
                    ·
                      refine g_tabIn (kx := 79) (off := 93) E 94 gdX12_letter_1 hx (by decide) (by decide) (by decide) (by decide) (by decide) ?_
                      refine g_bipush E gdX12_letter_94 (by decide) ?_
                      exact g_iret E hQ (Option.some.inj h) rfl gdX12_letter_96
                    ·
                      obtain ⟨h1, -, ⟨hx, h⟩ | ⟨hx10, h⟩⟩ := qEq_of h
                      ·
                        refine g_tabIn (kx := 80) (off := 87) E 88 gdX12_letter_1 hx (by decide) (by decide) (by decide) (by decide) (by decide) ?_
                        refine g_bipush E gdX12_letter_88 (by decide) ?_
                        exact g_iret E hQ (Option.some.inj h) rfl gdX12_letter_90
                      ·
                        obtain ⟨h1, -, ⟨hx, h⟩ | ⟨hx11, h⟩⟩ := qEq_of h
                        ·
                          refine g_tabIn (kx := 81) (off := 93) E 94 gdX12_letter_1 hx (by decide) (by decide) (by decide) (by decide) (by decide) ?_
                          refine g_bipush E gdX12_letter_94 (by decide) ?_
                          exact g_iret E hQ (Option.some.inj h) rfl gdX12_letter_96
                        ·
                          obtain ⟨h1, -, ⟨hx, h⟩ | ⟨hx12, h⟩⟩ := qEq_of h
                          ·
                            refine g_tabIn (kx := 82) (off := 93) E 94 gdX12_letter_1 hx (by decide) (by decide) (by decide) (by decide) (by decide) ?_
                            refine g_bipush E gdX12_letter_94 (by decide) ?_
                            exact g_iret E hQ (Option.some.inj h) rfl gdX12_letter_96
                          ·
                            obtain ⟨h1, -, ⟨hx, h⟩ | ⟨hx13, h⟩⟩ := qEq_of h
                            ·
                              refine g_tabIn (kx := 83) (off := 75) E 76 gdX12_letter_1 hx (by decide) (by decide) (by decide) (by decide) (by decide) ?_
                              refine g_iconst E gdX12_letter_76 ?_
                              exact g_iret E hQ (Option.some.inj h) rfl gdX12_letter_77
                            ·
                              obtain ⟨h1, -, ⟨hx, h⟩ | ⟨hx14, h⟩⟩ := qEq_of h
                              ·
                                refine g_tabIn (kx := 84) (off := 79) E 80 gdX12_letter_1 hx (by decide) (by decide) (by decide) (by decide) (by decide) ?_
                                refine g_iconst E gdX12_letter_80 ?_
                                exact g_iret E hQ (Option.some.inj h) rfl gdX12_letter_81
                              ·
                                refine g_tabOut E 94 gdX12_letter_1 h1 (by omega) (by decide) ?_
                                refine g_bipush E gdX12_letter_94 (by decide) ?_
                                exact g_iret E hQ (Option.some.inj h) rfl gdX12_letter_96
noncomputable def b_X12_reads_65 (o : OO) (x2 : Int) : Option (Int × OO) := some (x2, o)
noncomputable def b_X12_reads_149 (o : OO) (x2 : Int) : Option (Int × OO) := some (x2, o)
noncomputable def b_X12_reads_165 (o : OO) : Option (Int × OO) := some ((-9), o)
noncomputable def b_X12_reads_144 (o : OO) (x1 : Int) (x2 : Int) (x3 : Int) (x4 : Int) (x5 : Int) : Option ((OO × Int) ⊕ ((OO × Int) ⊕ (OO × Int) ⊕ (OO))) := qEq x4 0 (some (.inr (.inr (.inl (o, x2))))) (qB (s_X12_letter x3) (fun r1 => qIn r1 8 (qNm (st1 o 10 r1.toNat x5) (fun o4 => some (.inl (o4, x2))))))
noncomputable def l_X12_reads_76 (o : OO) (x1 : Int) (x3 : Int) (x2 : Int) (x4 : Int) (x5 : Int) : Option ((Int × Int × Int) ⊕ ((Int × Int × Int))) := qIn x1 4 (qNm (o.1 5 x1.toNat) (fun n6 => qLt x2 n6 (qLt x4 4 (qIn ((40 * x1) + x2) 160 (qNm (o.1 6 ((40 * x1) + x2).toNat) (fun n8 => qB (s_X12_in n8 48 57) (fun r9 => qEq r9 0 (some (.inr ((x2, x4, x5)))) (qIn ((40 * x1) + x2) 160 (qNm (o.1 6 ((40 * x1) + x2).toNat) (fun n12 => qNm (((10 * x5) + n12) - 48) (fun n13 => some (.inl (x2 + 1, x4 + 1, n13)))))))))) (some (.inr ((x2, x4, x5))))) (some (.inr ((x2, x4, x5))))))
noncomputable def e_X12_reads_76 (o : OO) (x1 : Int) (x2 : Int) (x3 : Int) (x4 : Int) (x5 : Int) : Option ((OO × Int) ⊕ ((OO × Int) ⊕ (OO × Int) ⊕ (OO))) := qB (loopW (fun s => l_X12_reads_76 o x1 x3 s.1 s.2.1 s.2.2) (x2, x4, x5)) (fun r => b_X12_reads_144 o x1 r.1 x3 r.2.1 r.2.2)
noncomputable def l_X12_reads_24 (x1 : Int) (o : OO) (x2 : Int) : Option ((OO × Int) ⊕ ((OO × Int) ⊕ (OO × Int) ⊕ (OO))) := qIn x1 4 (qNm (o.1 5 x1.toNat) (fun n15 => qLt x2 n15 (qIn ((40 * x1) + x2) 160 (qNm (o.1 6 ((40 * x1) + x2).toNat) (fun n17 => qEq n17 32 (some (.inl (o, x2 + 1))) (qB (s_X12_letter n17) (fun r18 => qLt r18 0 (some (.inr (.inl (o, x2)))) (e_X12_reads_76 o x1 (x2 + 1) n17 0 0)))))) (some (.inr (.inr (.inr o))))))
noncomputable def e_X12_reads_24 (o : OO) (x1 : Int) (x2 : Int) : Option (Int × OO) := qB (loopW (fun s => l_X12_reads_24 x1 s.1 s.2) (o, x2)) (Sum.elim (fun r => b_X12_reads_65 r.1 r.2) (Sum.elim (fun r => b_X12_reads_149 r.1 r.2) (fun r => b_X12_reads_165 r)))
noncomputable def b_X12_reads_22 (o : OO) (x1 : Int) : Option (Int × OO) := e_X12_reads_24 o x1 0
noncomputable def l_X12_reads_2 (x1 : Int) (o : OO) (x2 : Int) : Option ((OO × Int) ⊕ ((OO))) := qLt x2 8 (qIn x2 8 (qNm (st1 o 10 x2.toNat (-9)) (fun o21 => some (.inl (o21, x2 + 1))))) (some (.inr (o)))
noncomputable def e_X12_reads_2 (o : OO) (x1 : Int) (x2 : Int) : Option (Int × OO) := qB (loopW (fun s => l_X12_reads_2 x1 s.1 s.2) (o, x2)) (fun r => b_X12_reads_22 r x1)
noncomputable def s_X12_reads (o : OO) (x1 : Int) : Option (Int × OO) := e_X12_reads_2 o x1 0
set_option maxHeartbeats 4000000 in
set_option maxRecDepth 100000 in
theorem c_X12_reads (l : Launch) (g : GG) (ad : Nat → Nat) (o : OO) (x1 : Int) (v : Int × OO) (h : s_X12_reads o x1 = some v) : CI l g yX12_reads cX12_reads 6 (some .int) 1 22 (wM g ad o) [.ref (ad 0), iv x1] v.1 (wM g ad v.2) := by
  refine met_I (by decide) (Nat.le_of_ble_eq_true rfl) ?_
  intro X E hQ
  show Go X 0 (wM g ad o) [(0, .ref (ad 0)), (1, iv x1)] []
  have j65 : ∀ (o : OO) (x2 : Int), b_X12_reads_65 o x2 = some v → Go X 65 (wM g ad o) [(2, iv x2)] [] := by
    intro o x2 h
    unfold b_X12_reads_65 at h
    refine g_iload_n E gdX12_reads_65 rfl 0 rfl ?_
    exact g_iret E hQ (by rw [← Option.some.inj h]) (by rw [← Option.some.inj h]) gdX12_reads_66
  have j149 : ∀ (o : OO) (x2 : Int), b_X12_reads_149 o x2 = some v → Go X 149 (wM g ad o) [(2, iv x2)] [] := by
    intro o x2 h
    unfold b_X12_reads_149 at h
    refine g_iload_n E gdX12_reads_149 rfl 0 rfl ?_
    exact g_iret E hQ (by rw [← Option.some.inj h]) (by rw [← Option.some.inj h]) gdX12_reads_150
  have j165 : ∀ (o : OO), b_X12_reads_165 o = some v → Go X 165 (wM g ad o) [] [] := by
    intro o h
    unfold b_X12_reads_165 at h
    refine g_bipush E gdX12_reads_165 (by decide) ?_
    exact g_iret E hQ (by rw [← Option.some.inj h]) (by rw [← Option.some.inj h]) gdX12_reads_167
  have j144 : ∀ (o : OO) (x1 : Int) (x2 : Int) (x3 : Int) (x4 : Int) (x5 : Int) (v : (OO × Int) ⊕ ((OO × Int) ⊕ (OO × Int) ⊕ (OO))), b_X12_reads_144 o x1 x2 x3 x4 x5 = some v → (∀ (o : OO) (x2 : Int), v = .inl (o, x2) → Go X 24 (wM g ad o) [(0, .ref (ad 0)), (1, iv x1), (2, iv x2)] []) → (∀ (o : OO) (x2 : Int), v = .inr (.inl (o, x2)) → Go X 65 (wM g ad o) [(2, iv x2)] []) → (∀ (o : OO) (x2 : Int), v = .inr (.inr (.inl (o, x2))) → Go X 149 (wM g ad o) [(2, iv x2)] []) → (∀ (o : OO), v = .inr (.inr (.inr o)) → Go X 165 (wM g ad o) [] []) → Go X 144 (wM g ad o) [(0, .ref (ad 0)), (1, iv x1), (2, iv x2), (3, iv x3), (4, iv x4), (5, iv x5)] [] := by
    intro o x1 x2 x3 x4 x5 v h k0 k1 k2 k3
    unfold b_X12_reads_144 at h
    refine g_iload E gdX12_reads_144 4 rfl ?_
    refine g_if_ne E 151 gdX12_reads_146 (by decide) h (fun h => ?_) (fun h => ?_)
    ·
      refine g_aload_n E gdX12_reads_151 rfl 0 rfl ?_
      refine g_get (T := TX12) E fw_X12 0 (wM_0 g ad o) rfl 14 (by decide) w_1480 rfl rfl gdX12_reads_152 ?_
      refine g_iload_n E gdX12_reads_155 rfl 3 rfl ?_
      obtain ⟨r1, hc2, h⟩ := qB_of h
      refine g_Si (r := r1) (As := [iv x3]) (rest := [.ref (ad 10)]) (w := wM g ad o) E (c_X12_letter l g (wM g ad o) x3 r1 hc2) okm_X12_letter w_1756 w_1755 rfl rfl (Nat.le_of_ble_eq_true rfl) ⟨Nat.le_of_ble_eq_true rfl, Nat.le_of_ble_eq_true rfl⟩ gdX12_reads_156 ?_
      refine g_iload E gdX12_reads_159 5 rfl ?_
      obtain ⟨hi3, h⟩ := qIn_of h
      obtain ⟨o4, e_o4, h⟩ := qNm_of h
      refine g_iast (ws' := wM g ad o4) E 10 (wM_10 g ad o) (by decide) hi3 (by rw [e_o4]; exact wM_s10 g ad o _ _) gdX12_reads_161 ?_
      refine g_goto E 24 gdX12_reads_162 (by decide) ?_
      refine g_sub E [0, 1, 2] rfl ?_
      exact k0 o4 x2 (Option.some.inj h).symm
    ·
      refine g_sub E [2] rfl ?_
      exact k2 o x2 (Option.some.inj h).symm
  have l76 : ∀ (o : OO) (x1 : Int) (x3 : Int) (r : (Int × Int × Int)) (s0 : Int × Int × Int), loopW (fun s => l_X12_reads_76 o x1 x3 s.1 s.2.1 s.2.2) s0 = some r → (∀ (x2 : Int) (x4 : Int) (x5 : Int), r = ((x2, x4, x5)) → Go X 144 (wM g ad o) [(0, .ref (ad 0)), (1, iv x1), (2, iv x2), (3, iv x3), (4, iv x4), (5, iv x5)] []) → Go X 76 (wM g ad o) [(0, .ref (ad 0)), (1, iv x1), (2, iv s0.1), (3, iv x3), (4, iv s0.2.1), (5, iv s0.2.2)] [] := by
    intro o x1 x3 r s0 h k1
    refine loop_rule (Head := fun s0 => Go X 76 (wM g ad o) [(0, .ref (ad 0)), (1, iv x1), (2, iv s0.1), (3, iv x3), (4, iv s0.2.1), (5, iv s0.2.2)] []) h ?_
    intro s v h kk kx
    obtain ⟨x2, x4, x5⟩ := s
    have h : l_X12_reads_76 o x1 x3 x2 x4 x5 = some v := h
    have k0 : ∀ (x2 : Int) (x4 : Int) (x5 : Int), v = .inl (x2, x4, x5) → Go X 76 (wM g ad o) [(0, .ref (ad 0)), (1, iv x1), (2, iv x2), (3, iv x3), (4, iv x4), (5, iv x5)] [] := fun x2 x4 x5 e => kk (x2, x4, x5) e
    have k1 : ∀ (x2 : Int) (x4 : Int) (x5 : Int), v = .inr ((x2, x4, x5)) → Go X 144 (wM g ad o) [(0, .ref (ad 0)), (1, iv x1), (2, iv x2), (3, iv x3), (4, iv x4), (5, iv x5)] [] := fun x2 x4 x5 e => k1 x2 x4 x5 (kx _ e).symm
    unfold l_X12_reads_76 at h
    refine g_iload_n E gdX12_reads_76 rfl 2 rfl ?_
    refine g_aload_n E gdX12_reads_77 rfl 0 rfl ?_
    refine g_get (T := TX12) E fw_X12 0 (wM_0 g ad o) rfl 8 (by decide) w_1474 rfl rfl gdX12_reads_78 ?_
    refine g_iload_n E gdX12_reads_81 rfl 1 rfl ?_
    obtain ⟨hi5, h⟩ := qIn_of h
    refine g_iald E 5 (wM_5 g ad o) (by decide) hi5 gdX12_reads_82 ?_
    obtain ⟨n6, e_n6, h⟩ := qNm_of h
    refine g_nmi e_n6 ?_
    refine g_icmp_ge E 144 gdX12_reads_83 (by decide) h (fun h => ?_) (fun h => ?_)
    ·
      exact k1 x2 x4 x5 (Option.some.inj h).symm
    ·
      refine g_iload E gdX12_reads_86 4 rfl ?_
      refine g_iconst E gdX12_reads_88 ?_
      refine g_icmp_ge E 144 gdX12_reads_89 (by decide) h (fun h => ?_) (fun h => ?_)
      ·
        exact k1 x2 x4 x5 (Option.some.inj h).symm
      ·
        refine g_aload_n E gdX12_reads_92 rfl 0 rfl ?_
        refine g_get (T := TX12) E fw_X12 0 (wM_0 g ad o) rfl 9 (by decide) w_1475 rfl rfl gdX12_reads_93 ?_
        refine g_bipush E gdX12_reads_96 (by decide) ?_
        refine g_iload_n E gdX12_reads_98 rfl 1 rfl ?_
        refine g_imul E gdX12_reads_99 ?_
        refine g_iload_n E gdX12_reads_100 rfl 2 rfl ?_
        refine g_iadd E gdX12_reads_101 ?_
        obtain ⟨hi7, h⟩ := qIn_of h
        refine g_iald E 6 (wM_6 g ad o) (by decide) hi7 gdX12_reads_102 ?_
        obtain ⟨n8, e_n8, h⟩ := qNm_of h
        refine g_nmi e_n8 ?_
        refine g_bipush E gdX12_reads_103 (by decide) ?_
        refine g_bipush E gdX12_reads_105 (by decide) ?_
        obtain ⟨r9, hc10, h⟩ := qB_of h
        refine g_Si (r := r9) (As := [iv n8, iv 48, iv 57]) (rest := []) (w := wM g ad o) E (c_X12_in l g (wM g ad o) n8 48 57 r9 hc10) okm_X12_in w_1706 w_1705 rfl rfl (Nat.le_of_ble_eq_true rfl) ⟨Nat.le_of_ble_eq_true rfl, Nat.le_of_ble_eq_true rfl⟩ gdX12_reads_107 ?_
        refine g_if_eq E 144 gdX12_reads_110 (by decide) h (fun h => ?_) (fun h => ?_)
        ·
          exact k1 x2 x4 x5 (Option.some.inj h).symm
        ·
          refine g_bipush E gdX12_reads_113 (by decide) ?_
          refine g_iload E gdX12_reads_115 5 rfl ?_
          refine g_imul E gdX12_reads_117 ?_
          refine g_aload_n E gdX12_reads_118 rfl 0 rfl ?_
          refine g_get (T := TX12) E fw_X12 0 (wM_0 g ad o) rfl 9 (by decide) w_1475 rfl rfl gdX12_reads_119 ?_
          refine g_bipush E gdX12_reads_122 (by decide) ?_
          refine g_iload_n E gdX12_reads_124 rfl 1 rfl ?_
          refine g_imul E gdX12_reads_125 ?_
          refine g_iload_n E gdX12_reads_126 rfl 2 rfl ?_
          refine g_iadd E gdX12_reads_127 ?_
          obtain ⟨hi11, h⟩ := qIn_of h
          refine g_iald E 6 (wM_6 g ad o) (by decide) hi11 gdX12_reads_128 ?_
          obtain ⟨n12, e_n12, h⟩ := qNm_of h
          refine g_nmi e_n12 ?_
          refine g_iadd E gdX12_reads_129 ?_
          refine g_bipush E gdX12_reads_130 (by decide) ?_
          refine g_isub E gdX12_reads_132 ?_
          obtain ⟨n13, e_n13, h⟩ := qNm_of h
          refine g_nmi e_n13 ?_
          refine g_istore E [(5, iv n13), (0, .ref (ad 0)), (1, iv x1), (2, iv x2), (3, iv x3), (4, iv x4)] gdX12_reads_133 (by decide) rfl ?_
          refine g_iinc E [(4, iv (x4 + 1)), (5, iv n13), (0, .ref (ad 0)), (1, iv x1), (2, iv x2), (3, iv x3)] gdX12_reads_135 5 rfl (by decide) rfl ?_
          refine g_iinc E [(2, iv (x2 + 1)), (4, iv (x4 + 1)), (5, iv n13), (0, .ref (ad 0)), (1, iv x1), (3, iv x3)] gdX12_reads_138 4 rfl (by decide) rfl ?_
          refine g_goto E 76 gdX12_reads_141 (by decide) ?_
          refine g_sub E [3, 4, 0, 5, 1, 2] rfl ?_
          exact k0 (x2 + 1) (x4 + 1) n13 (Option.some.inj h).symm
  have j76 : ∀ (o : OO) (x1 : Int) (x2 : Int) (x3 : Int) (x4 : Int) (x5 : Int) (v : (OO × Int) ⊕ ((OO × Int) ⊕ (OO × Int) ⊕ (OO))), e_X12_reads_76 o x1 x2 x3 x4 x5 = some v → (∀ (o : OO) (x2 : Int), v = .inl (o, x2) → Go X 24 (wM g ad o) [(0, .ref (ad 0)), (1, iv x1), (2, iv x2)] []) → (∀ (o : OO) (x2 : Int), v = .inr (.inl (o, x2)) → Go X 65 (wM g ad o) [(2, iv x2)] []) → (∀ (o : OO) (x2 : Int), v = .inr (.inr (.inl (o, x2))) → Go X 149 (wM g ad o) [(2, iv x2)] []) → (∀ (o : OO), v = .inr (.inr (.inr o)) → Go X 165 (wM g ad o) [] []) → Go X 76 (wM g ad o) [(0, .ref (ad 0)), (1, iv x1), (2, iv x2), (3, iv x3), (4, iv x4), (5, iv x5)] [] := by
    intro o x1 x2 x3 x4 x5 v h k0 k1 k2 k3
    unfold e_X12_reads_76 at h
    obtain ⟨r, hr, h⟩ := qB_of h
    refine l76 o x1 x3 r _ hr ?_
    ·
      intro u0 u1 u2 e
      subst e
      have h : b_X12_reads_144 o x1 u0 x3 u1 u2 = some v := h
      exact j144 o x1 u0 x3 u1 u2 v h k0 k1 k2 k3
  have l24 : ∀ (x1 : Int) (r : (OO × Int) ⊕ (OO × Int) ⊕ (OO)) (s0 : OO × Int), loopW (fun s => l_X12_reads_24 x1 s.1 s.2) s0 = some r → (∀ (o : OO) (x2 : Int), r = (.inl (o, x2)) → Go X 65 (wM g ad o) [(2, iv x2)] []) → (∀ (o : OO) (x2 : Int), r = (.inr (.inl (o, x2))) → Go X 149 (wM g ad o) [(2, iv x2)] []) → (∀ (o : OO), r = (.inr (.inr o)) → Go X 165 (wM g ad o) [] []) → Go X 24 (wM g ad s0.1) [(0, .ref (ad 0)), (1, iv x1), (2, iv s0.2)] [] := by
    intro x1 r s0 h k1 k2 k3
    refine loop_rule (Head := fun s0 => Go X 24 (wM g ad s0.1) [(0, .ref (ad 0)), (1, iv x1), (2, iv s0.2)] []) h ?_
    intro s v h kk kx
    obtain ⟨o, x2⟩ := s
    have h : l_X12_reads_24 x1 o x2 = some v := h
    have k0 : ∀ (o : OO) (x2 : Int), v = .inl (o, x2) → Go X 24 (wM g ad o) [(0, .ref (ad 0)), (1, iv x1), (2, iv x2)] [] := fun o x2 e => kk (o, x2) e
    have k1 : ∀ (o : OO) (x2 : Int), v = .inr (.inl (o, x2)) → Go X 65 (wM g ad o) [(2, iv x2)] [] := fun o x2 e => k1 o x2 (kx _ e).symm
    have k2 : ∀ (o : OO) (x2 : Int), v = .inr (.inr (.inl (o, x2))) → Go X 149 (wM g ad o) [(2, iv x2)] [] := fun o x2 e => k2 o x2 (kx _ e).symm
    have k3 : ∀ (o : OO), v = .inr (.inr (.inr o)) → Go X 165 (wM g ad o) [] [] := fun o e => k3 o (kx _ e).symm
    unfold l_X12_reads_24 at h
    refine g_iload_n E gdX12_reads_24 rfl 2 rfl ?_
    refine g_aload_n E gdX12_reads_25 rfl 0 rfl ?_
    refine g_get (T := TX12) E fw_X12 0 (wM_0 g ad o) rfl 8 (by decide) w_1474 rfl rfl gdX12_reads_26 ?_
    refine g_iload_n E gdX12_reads_29 rfl 1 rfl ?_
    obtain ⟨hi14, h⟩ := qIn_of h
    refine g_iald E 5 (wM_5 g ad o) (by decide) hi14 gdX12_reads_30 ?_
    obtain ⟨n15, e_n15, h⟩ := qNm_of h
    refine g_nmi e_n15 ?_
    refine g_icmp_ge E 165 gdX12_reads_31 (by decide) h (fun h => ?_) (fun h => ?_)
    ·
      refine g_sub E [] rfl ?_
      exact k3 o (Option.some.inj h).symm
    ·
      refine g_aload_n E gdX12_reads_34 rfl 0 rfl ?_
      refine g_get (T := TX12) E fw_X12 0 (wM_0 g ad o) rfl 9 (by decide) w_1475 rfl rfl gdX12_reads_35 ?_
      refine g_bipush E gdX12_reads_38 (by decide) ?_
      refine g_iload_n E gdX12_reads_40 rfl 1 rfl ?_
      refine g_imul E gdX12_reads_41 ?_
      refine g_iload_n E gdX12_reads_42 rfl 2 rfl ?_
      refine g_iadd E gdX12_reads_43 ?_
      obtain ⟨hi16, h⟩ := qIn_of h
      refine g_iald E 6 (wM_6 g ad o) (by decide) hi16 gdX12_reads_44 ?_
      obtain ⟨n17, e_n17, h⟩ := qNm_of h
      refine g_nmi e_n17 ?_
      refine g_istore_n E [(3, iv n17), (0, .ref (ad 0)), (1, iv x1), (2, iv x2)] gdX12_reads_45 rfl (by decide) rfl ?_
      refine g_iload_n E gdX12_reads_46 rfl 0 rfl ?_
      refine g_bipush E gdX12_reads_47 (by decide) ?_
      refine g_icmp_ne E 58 gdX12_reads_49 (by decide) h (fun h => ?_) (fun h => ?_)
      ·
        refine g_iload_n E gdX12_reads_58 rfl 0 rfl ?_
        obtain ⟨r18, hc19, h⟩ := qB_of h
        refine g_Si (r := r18) (As := [iv n17]) (rest := []) (w := wM g ad o) E (c_X12_letter l g (wM g ad o) n17 r18 hc19) okm_X12_letter w_1756 w_1755 rfl rfl (Nat.le_of_ble_eq_true rfl) ⟨Nat.le_of_ble_eq_true rfl, Nat.le_of_ble_eq_true rfl⟩ gdX12_reads_59 ?_
        refine g_if_ge E 67 gdX12_reads_62 (by decide) h (fun h => ?_) (fun h => ?_)
        ·
          refine g_iinc E [(2, iv (x2 + 1)), (3, iv n17), (0, .ref (ad 0)), (1, iv x1)] gdX12_reads_67 3 rfl (by decide) rfl ?_
          refine g_iconst E gdX12_reads_70 ?_
          refine g_istore E [(4, iv 0), (2, iv (x2 + 1)), (3, iv n17), (0, .ref (ad 0)), (1, iv x1)] gdX12_reads_71 (by decide) rfl ?_
          refine g_iconst E gdX12_reads_73 ?_
          refine g_istore E [(5, iv 0), (4, iv 0), (2, iv (x2 + 1)), (3, iv n17), (0, .ref (ad 0)), (1, iv x1)] gdX12_reads_74 (by decide) rfl ?_
          refine g_sub E [4, 5, 2, 3, 1, 0] rfl ?_
          exact j76 o x1 (x2 + 1) n17 0 0 v h k0 k1 k2 k3
        ·
          refine g_sub E [3] rfl ?_
          exact k1 o x2 (Option.some.inj h).symm
      ·
        refine g_iinc E [(2, iv (x2 + 1)), (3, iv n17), (0, .ref (ad 0)), (1, iv x1)] gdX12_reads_52 3 rfl (by decide) rfl ?_
        refine g_goto E 24 gdX12_reads_55 (by decide) ?_
        refine g_sub E [2, 3, 0] rfl ?_
        exact k0 o (x2 + 1) (Option.some.inj h).symm
  have j24 : ∀ (o : OO) (x1 : Int) (x2 : Int), e_X12_reads_24 o x1 x2 = some v → Go X 24 (wM g ad o) [(0, .ref (ad 0)), (1, iv x1), (2, iv x2)] [] := by
    intro o x1 x2 h
    unfold e_X12_reads_24 at h
    obtain ⟨r, hr, h⟩ := qB_of h
    refine l24 x1 r _ hr ?_ ?_ ?_
    ·
      intro u0 u1 e
      subst e
      have h : b_X12_reads_65 u0 u1 = some v := h
      exact j65 u0 u1 h
    ·
      intro u0 u1 e
      subst e
      have h : b_X12_reads_149 u0 u1 = some v := h
      exact j149 u0 u1 h
    ·
      intro u0 e
      subst e
      have h : b_X12_reads_165 u0 = some v := h
      exact j165 u0 h
  have j22 : ∀ (o : OO) (x1 : Int), b_X12_reads_22 o x1 = some v → Go X 22 (wM g ad o) [(0, .ref (ad 0)), (1, iv x1)] [] := by
    intro o x1 h
    unfold b_X12_reads_22 at h
    refine g_iconst E gdX12_reads_22 ?_
    refine g_istore_n E [(2, iv 0), (0, .ref (ad 0)), (1, iv x1)] gdX12_reads_23 rfl (by decide) rfl ?_
    refine g_sub E [1, 2, 0] rfl ?_
    exact j24 o x1 0 h
  have l2 : ∀ (x1 : Int) (r : (OO)) (s0 : OO × Int), loopW (fun s => l_X12_reads_2 x1 s.1 s.2) s0 = some r → (∀ (o : OO), r = (o) → Go X 22 (wM g ad o) [(0, .ref (ad 0)), (1, iv x1)] []) → Go X 2 (wM g ad s0.1) [(0, .ref (ad 0)), (1, iv x1), (2, iv s0.2)] [] := by
    intro x1 r s0 h k1
    refine loop_rule (Head := fun s0 => Go X 2 (wM g ad s0.1) [(0, .ref (ad 0)), (1, iv x1), (2, iv s0.2)] []) h ?_
    intro s v h kk kx
    obtain ⟨o, x2⟩ := s
    have h : l_X12_reads_2 x1 o x2 = some v := h
    have k0 : ∀ (o : OO) (x2 : Int), v = .inl (o, x2) → Go X 2 (wM g ad o) [(0, .ref (ad 0)), (1, iv x1), (2, iv x2)] [] := fun o x2 e => kk (o, x2) e
    have k1 : ∀ (o : OO), v = .inr (o) → Go X 22 (wM g ad o) [(0, .ref (ad 0)), (1, iv x1)] [] := fun o e => k1 o (kx _ e).symm
    unfold l_X12_reads_2 at h
    refine g_iload_n E gdX12_reads_2 rfl 2 rfl ?_
    refine g_bipush E gdX12_reads_3 (by decide) ?_
    refine g_icmp_ge E 22 gdX12_reads_5 (by decide) h (fun h => ?_) (fun h => ?_)
    ·
      refine g_sub E [0, 1] rfl ?_
      exact k1 o (Option.some.inj h).symm
    ·
      refine g_aload_n E gdX12_reads_8 rfl 0 rfl ?_
      refine g_get (T := TX12) E fw_X12 0 (wM_0 g ad o) rfl 14 (by decide) w_1480 rfl rfl gdX12_reads_9 ?_
      refine g_iload_n E gdX12_reads_12 rfl 2 rfl ?_
      refine g_bipush E gdX12_reads_13 (by decide) ?_
      obtain ⟨hi20, h⟩ := qIn_of h
      obtain ⟨o21, e_o21, h⟩ := qNm_of h
      refine g_iast (ws' := wM g ad o21) E 10 (wM_10 g ad o) (by decide) hi20 (by rw [e_o21]; exact wM_s10 g ad o _ _) gdX12_reads_15 ?_
      refine g_iinc E [(2, iv (x2 + 1)), (0, .ref (ad 0)), (1, iv x1)] gdX12_reads_16 2 rfl (by decide) rfl ?_
      refine g_goto E 2 gdX12_reads_19 (by decide) ?_
      refine g_sub E [1, 2, 0] rfl ?_
      exact k0 o21 (x2 + 1) (Option.some.inj h).symm
  have j2 : ∀ (o : OO) (x1 : Int) (x2 : Int), e_X12_reads_2 o x1 x2 = some v → Go X 2 (wM g ad o) [(0, .ref (ad 0)), (1, iv x1), (2, iv x2)] [] := by
    intro o x1 x2 h
    unfold e_X12_reads_2 at h
    obtain ⟨r, hr, h⟩ := qB_of h
    refine l2 x1 r _ hr ?_
    ·
      intro u0 e
      have e := e.symm
      subst e
      have h : b_X12_reads_22 u0 x1 = some v := h
      exact j22 u0 x1 h
  unfold s_X12_reads at h
  refine g_iconst E gdX12_reads_0 ?_
  refine g_istore_n E [(2, iv 0), (0, .ref (ad 0)), (1, iv x1)] gdX12_reads_1 rfl (by decide) rfl ?_
  refine g_sub E [1, 2, 0] rfl ?_
  exact j2 o x1 0 h
noncomputable def b_X12_fault_19 (o : OO) (y0 : Int) : Option (Int × OO) := some (y0, o)
noncomputable def s_X12_fault (o : OO) (x1 : Int) : Option (Int × OO) := qB2 (s_X12_askedText o x1) (fun r1 o3 => qLt r1 0 (b_X12_fault_19 o3 r1) (qB2 (s_X12_reads o3 x1) (fun r4 o6 => b_X12_fault_19 o6 r4)))
set_option maxHeartbeats 4000000 in
set_option maxRecDepth 100000 in
theorem c_X12_fault (l : Launch) (g : GG) (ad : Nat → Nat) (o : OO) (x1 : Int) (v : Int × OO) (h : s_X12_fault o x1 = some v) : CI l g yX12_fault cX12_fault 3 (some .int) 3 63 (wM g ad o) [.ref (ad 0), iv x1] v.1 (wM g ad v.2) := by
  refine met_I (by decide) (Nat.le_of_ble_eq_true rfl) ?_
  intro X E hQ
  show Go X 0 (wM g ad o) [(0, .ref (ad 0)), (1, iv x1)] []
  have j19 : ∀ (o : OO) (y0 : Int), b_X12_fault_19 o y0 = some v → Go X 19 (wM g ad o) [] [iv y0] := by
    intro o y0 h
    unfold b_X12_fault_19 at h
    exact g_iret E hQ (by rw [← Option.some.inj h]) (by rw [← Option.some.inj h]) gdX12_fault_19
  unfold s_X12_fault at h
  refine g_aload_n E gdX12_fault_0 rfl 0 rfl ?_
  refine g_iload_n E gdX12_fault_1 rfl 1 rfl ?_
  obtain ⟨r1, o3, hc2, h⟩ := qB2_of h
  refine g_Vi (r := r1) (As := [iv x1]) (rest := []) (w := wM g ad o3) E (c_X12_askedText l g ad o x1 (r1, o3) hc2) okm_X12_askedText okw_X12_askedText w_1739 rfl (wM_0 g ad o) rfl rfl (Nat.le_of_ble_eq_true rfl) ⟨Nat.le_of_ble_eq_true rfl, Nat.le_of_ble_eq_true rfl⟩ gdX12_fault_2 ?_
  refine g_istore_n E [(2, iv r1), (0, .ref (ad 0)), (1, iv x1)] gdX12_fault_5 rfl (by decide) rfl ?_
  refine g_iload_n E gdX12_fault_6 rfl 0 rfl ?_
  refine g_if_ge E 14 gdX12_fault_7 (by decide) h (fun h => ?_) (fun h => ?_)
  ·
    refine g_aload_n E gdX12_fault_14 rfl 1 rfl ?_
    refine g_iload_n E gdX12_fault_15 rfl 2 rfl ?_
    obtain ⟨r4, o6, hc5, h⟩ := qB2_of h
    refine g_Vi (r := r4) (As := [iv x1]) (rest := []) (w := wM g ad o6) E (c_X12_reads l g ad o3 x1 (r4, o6) hc5) okm_X12_reads okw_X12_reads w_1751 rfl (wM_0 g ad o3) rfl rfl (Nat.le_of_ble_eq_true rfl) ⟨Nat.le_of_ble_eq_true rfl, Nat.le_of_ble_eq_true rfl⟩ gdX12_fault_16 ?_
    refine g_sub E [] rfl ?_
    exact j19 o6 r4 h
  ·
    refine g_iload_n E gdX12_fault_10 rfl 0 rfl ?_
    refine g_goto E 19 gdX12_fault_11 (by decide) ?_
    refine g_sub E [] rfl ?_
    exact j19 o3 r1 h
noncomputable def s_X12_finding (o : OO) : Option (Int) := some (o.1 0 0)
set_option maxHeartbeats 4000000 in
set_option maxRecDepth 100000 in
theorem c_X12_finding (l : Launch) (g : GG) (ad : Nat → Nat) (o : OO) (v : Int) (h : s_X12_finding o = some v) : CI l g yX12_finding cX12_finding 1 (some .int) 0 0 (wM g ad o) [.ref (ad 0)] v (wM g ad o) := by
  refine met_I (by decide) (Nat.le_of_ble_eq_true rfl) ?_
  intro X E hQ
  show Go X 0 (wM g ad o) [(0, .ref (ad 0))] []
  unfold s_X12_finding at h
  refine g_aload_n E gdX12_finding_0 rfl 0 rfl ?_
  refine g_get (T := TX12) E fw_X12 0 (wM_0 g ad o) rfl 0 (by decide) w_1466 rfl rfl gdX12_finding_1 ?_
  exact g_iret E hQ (Option.some.inj h) rfl gdX12_finding_4
noncomputable def b_X12_findings_19 (o : OO) (y0 : Int) : Option (Int) := some y0
noncomputable def s_X12_findings (o : OO) (x1 : Int) : Option (Int) := qB (s_X12_in x1 1 5) (fun r1 => qEq r1 0 (b_X12_findings_19 o (-1)) (qIn x1 6 (qNm (o.1 1 x1.toNat) (fun n4 => b_X12_findings_19 o n4))))
set_option maxHeartbeats 4000000 in
set_option maxRecDepth 100000 in
theorem c_X12_findings (l : Launch) (g : GG) (ad : Nat → Nat) (o : OO) (x1 : Int) (v : Int) (h : s_X12_findings o x1 = some v) : CI l g yX12_findings cX12_findings 2 (some .int) 1 22 (wM g ad o) [.ref (ad 0), iv x1] v (wM g ad o) := by
  refine met_I (by decide) (Nat.le_of_ble_eq_true rfl) ?_
  intro X E hQ
  show Go X 0 (wM g ad o) [(0, .ref (ad 0)), (1, iv x1)] []
  have j19 : ∀ (y0 : Int), b_X12_findings_19 o y0 = some v → Go X 19 (wM g ad o) [] [iv y0] := by
    intro y0 h
    unfold b_X12_findings_19 at h
    exact g_iret E hQ (Option.some.inj h) rfl gdX12_findings_19
  unfold s_X12_findings at h
  refine g_iload_n E gdX12_findings_0 rfl 1 rfl ?_
  refine g_iconst E gdX12_findings_1 ?_
  refine g_iconst E gdX12_findings_2 ?_
  obtain ⟨r1, hc2, h⟩ := qB_of h
  refine g_Si (r := r1) (As := [iv x1, iv 1, iv 5]) (rest := []) (w := wM g ad o) E (c_X12_in l g (wM g ad o) x1 1 5 r1 hc2) okm_X12_in w_1706 w_1705 rfl rfl (Nat.le_of_ble_eq_true rfl) ⟨Nat.le_of_ble_eq_true rfl, Nat.le_of_ble_eq_true rfl⟩ gdX12_findings_3 ?_
  refine g_if_eq E 18 gdX12_findings_6 (by decide) h (fun h => ?_) (fun h => ?_)
  ·
    refine g_iconst E gdX12_findings_18 ?_
    refine g_sub E [] rfl ?_
    exact j19 (-1) h
  ·
    refine g_aload_n E gdX12_findings_9 rfl 0 rfl ?_
    refine g_get (T := TX12) E fw_X12 0 (wM_0 g ad o) rfl 1 (by decide) w_1467 rfl rfl gdX12_findings_10 ?_
    refine g_iload_n E gdX12_findings_13 rfl 1 rfl ?_
    obtain ⟨hi3, h⟩ := qIn_of h
    refine g_iald E 1 (wM_1 g ad o) (by decide) hi3 gdX12_findings_14 ?_
    obtain ⟨n4, e_n4, h⟩ := qNm_of h
    refine g_nmi e_n4 ?_
    refine g_goto E 19 gdX12_findings_15 (by decide) ?_
    refine g_sub E [] rfl ?_
    exact j19 n4 h
noncomputable def s_X12_isDay (x0 : Int) : Option (Int) := qB (s_X12_in x0 0 999) (fun r1 => qZ r1 (some r1))
set_option maxHeartbeats 4000000 in
set_option maxRecDepth 100000 in
theorem c_X12_isDay (l : Launch) (g : GG) (ws : va_W) (x0 : Int) (v : Int) (h : s_X12_isDay x0 = some v) : CI l g yX12_isDay cX12_isDay 1 (some .boolean) 1 22 ws [iv x0] v ws := by
  refine met_I (by decide) (Nat.le_of_ble_eq_true rfl) ?_
  intro X E hQ
  show Go X 0 ws [(0, iv x0)] []
  unfold s_X12_isDay at h
  refine g_iload_n E gdX12_isDay_0 rfl 0 rfl ?_
  refine g_iconst E gdX12_isDay_1 ?_
  refine g_sipush E gdX12_isDay_2 (by decide) ?_
  obtain ⟨r1, hc2, h⟩ := qB_of h
  refine g_Si (r := r1) (As := [iv x0, iv 0, iv 999]) (rest := []) (w := ws) E (c_X12_in l g ws x0 0 999 r1 hc2) okm_X12_in w_1706 w_1705 rfl rfl (Nat.le_of_ble_eq_true rfl) ⟨Nat.le_of_ble_eq_true rfl, Nat.le_of_ble_eq_true rfl⟩ gdX12_isDay_5 ?_
  obtain ⟨hz, h⟩ := qZ_of h
  exact g_zret E hQ hz (Option.some.inj h) rfl gdX12_isDay_8
noncomputable def b_X12_isAsked_29 (y0 : Int) : Option (Int) := qZ y0 (some y0)
noncomputable def b_X12_isAsked_28  : Option (Int) := b_X12_isAsked_29 0
noncomputable def s_X12_isAsked (x0 : Int) (x1 : Int) (x2 : Int) : Option (Int) := qB (s_X12_in x0 0 7) (fun r1 => qEq r1 0 (b_X12_isAsked_28 ) (qB (s_X12_isDay x1) (fun r3 => qEq r3 0 (b_X12_isAsked_28 ) (qB (s_X12_isDay x2) (fun r5 => qEq r5 0 (b_X12_isAsked_28 ) (b_X12_isAsked_29 1))))))
set_option maxHeartbeats 4000000 in
set_option maxRecDepth 100000 in
theorem c_X12_isAsked (l : Launch) (g : GG) (ws : va_W) (x0 : Int) (x1 : Int) (x2 : Int) (v : Int) (h : s_X12_isAsked x0 x1 x2 = some v) : CI l g yX12_isAsked cX12_isAsked 3 (some .boolean) 2 42 ws [iv x0, iv x1, iv x2] v ws := by
  refine met_I (by decide) (Nat.le_of_ble_eq_true rfl) ?_
  intro X E hQ
  show Go X 0 ws [(0, iv x0), (1, iv x1), (2, iv x2)] []
  have j29 : ∀ (y0 : Int), b_X12_isAsked_29 y0 = some v → Go X 29 ws [] [iv y0] := by
    intro y0 h
    unfold b_X12_isAsked_29 at h
    obtain ⟨hz, h⟩ := qZ_of h
    exact g_zret E hQ hz (Option.some.inj h) rfl gdX12_isAsked_29
  have j28 : b_X12_isAsked_28  = some v → Go X 28 ws [] [] := by
    intro h
    unfold b_X12_isAsked_28 at h
    refine g_iconst E gdX12_isAsked_28 ?_
    exact j29 0 h
  unfold s_X12_isAsked at h
  refine g_iload_n E gdX12_isAsked_0 rfl 0 rfl ?_
  refine g_iconst E gdX12_isAsked_1 ?_
  refine g_bipush E gdX12_isAsked_2 (by decide) ?_
  obtain ⟨r1, hc2, h⟩ := qB_of h
  refine g_Si (r := r1) (As := [iv x0, iv 0, iv 7]) (rest := []) (w := ws) E (c_X12_in l g ws x0 0 7 r1 hc2) okm_X12_in w_1706 w_1705 rfl rfl (Nat.le_of_ble_eq_true rfl) ⟨Nat.le_of_ble_eq_true rfl, Nat.le_of_ble_eq_true rfl⟩ gdX12_isAsked_4 ?_
  refine g_if_eq E 28 gdX12_isAsked_7 (by decide) h (fun h => ?_) (fun h => ?_)
  ·
    refine g_sub E [] rfl ?_
    exact j28  h
  ·
    refine g_iload_n E gdX12_isAsked_10 rfl 1 rfl ?_
    obtain ⟨r3, hc4, h⟩ := qB_of h
    refine g_Si (r := r3) (As := [iv x1]) (rest := []) (w := ws) E (c_X12_isDay l g ws x1 r3 hc4) okm_X12_isDay w_1763 w_1762 rfl rfl (Nat.le_of_ble_eq_true rfl) ⟨Nat.le_of_ble_eq_true rfl, Nat.le_of_ble_eq_true rfl⟩ gdX12_isAsked_11 ?_
    refine g_if_eq E 28 gdX12_isAsked_14 (by decide) h (fun h => ?_) (fun h => ?_)
    ·
      refine g_sub E [] rfl ?_
      exact j28  h
    ·
      refine g_iload_n E gdX12_isAsked_17 rfl 2 rfl ?_
      obtain ⟨r5, hc6, h⟩ := qB_of h
      refine g_Si (r := r5) (As := [iv x2]) (rest := []) (w := ws) E (c_X12_isDay l g ws x2 r5 hc6) okm_X12_isDay w_1763 w_1762 rfl rfl (Nat.le_of_ble_eq_true rfl) ⟨Nat.le_of_ble_eq_true rfl, Nat.le_of_ble_eq_true rfl⟩ gdX12_isAsked_18 ?_
      refine g_if_eq E 28 gdX12_isAsked_21 (by decide) h (fun h => ?_) (fun h => ?_)
      ·
        refine g_sub E [] rfl ?_
        exact j28  h
      ·
        refine g_iconst E gdX12_isAsked_24 ?_
        refine g_goto E 29 gdX12_isAsked_25 (by decide) ?_
        refine g_sub E [] rfl ?_
        exact j29 1 h
noncomputable def b_X12_force_20 (o : OO) (y0 : Int) : Option (Int) := some y0
noncomputable def s_X12_force (o : OO) (x1 : Int) (x2 : Int) (x3 : Int) : Option (Int) := qB (s_X12_isAsked x1 x2 x3) (fun r1 => qEq r1 0 (b_X12_force_20 o (-1)) (qB (s_X12_inForce o x1 x2 x3) (fun r3 => b_X12_force_20 o r3)))
set_option maxHeartbeats 4000000 in
set_option maxRecDepth 100000 in
theorem c_X12_force (l : Launch) (g : GG) (ad : Nat → Nat) (o : OO) (x1 : Int) (x2 : Int) (x3 : Int) (v : Int) (h : s_X12_force o x1 x2 x3 = some v) : CI l g yX12_force cX12_force 4 (some .int) 3 64 (wM g ad o) [.ref (ad 0), iv x1, iv x2, iv x3] v (wM g ad o) := by
  refine met_I (by decide) (Nat.le_of_ble_eq_true rfl) ?_
  intro X E hQ
  show Go X 0 (wM g ad o) [(0, .ref (ad 0)), (1, iv x1), (2, iv x2), (3, iv x3)] []
  have j20 : ∀ (y0 : Int), b_X12_force_20 o y0 = some v → Go X 20 (wM g ad o) [] [iv y0] := by
    intro y0 h
    unfold b_X12_force_20 at h
    exact g_iret E hQ (Option.some.inj h) rfl gdX12_force_20
  unfold s_X12_force at h
  refine g_iload_n E gdX12_force_0 rfl 1 rfl ?_
  refine g_iload_n E gdX12_force_1 rfl 2 rfl ?_
  refine g_iload_n E gdX12_force_2 rfl 3 rfl ?_
  obtain ⟨r1, hc2, h⟩ := qB_of h
  refine g_Si (r := r1) (As := [iv x1, iv x2, iv x3]) (rest := []) (w := wM g ad o) E (c_X12_isAsked l g (wM g ad o) x1 x2 x3 r1 hc2) okm_X12_isAsked w_1770 w_1769 rfl rfl (Nat.le_of_ble_eq_true rfl) ⟨Nat.le_of_ble_eq_true rfl, Nat.le_of_ble_eq_true rfl⟩ gdX12_force_3 ?_
  refine g_if_eq E 19 gdX12_force_6 (by decide) h (fun h => ?_) (fun h => ?_)
  ·
    refine g_iconst E gdX12_force_19 ?_
    refine g_sub E [] rfl ?_
    exact j20 (-1) h
  ·
    refine g_aload_n E gdX12_force_9 rfl 0 rfl ?_
    refine g_iload_n E gdX12_force_10 rfl 1 rfl ?_
    refine g_iload_n E gdX12_force_11 rfl 2 rfl ?_
    refine g_iload_n E gdX12_force_12 rfl 3 rfl ?_
    obtain ⟨r3, hc4, h⟩ := qB_of h
    refine g_Vi (r := r3) (As := [iv x1, iv x2, iv x3]) (rest := []) (w := wM g ad o) E (c_X12_inForce l g ad o x1 x2 x3 r3 hc4) okm_X12_inForce okw_X12_inForce w_1772 rfl (wM_0 g ad o) rfl rfl (Nat.le_of_ble_eq_true rfl) ⟨Nat.le_of_ble_eq_true rfl, Nat.le_of_ble_eq_true rfl⟩ gdX12_force_13 ?_
    refine g_goto E 20 gdX12_force_16 (by decide) ?_
    refine g_sub E [] rfl ?_
    exact j20 r3 h
noncomputable def s_X12_enter (o : OO) (x1 : Int) (x2 : Int) : Option (Int × OO) := qIn (o.1 0 32) 24 (qNm (st1 o 25 ((o.1 0 32).toNat) x1) (fun o2 => qIn (o2.1 0 32) 24 (qNm (st1 o2 26 ((o2.1 0 32).toNat) (o2.1 0 4)) (fun o4 => qIn (o4.1 0 32) 24 (qNm (st1 o4 27 ((o4.1 0 32).toNat) x2) (fun o6 => qIn (o6.1 0 32) 24 (qNm (st1 o6 29 ((o6.1 0 32).toNat) (-9)) (fun o8 => qIn (o8.1 0 32) 24 (qNm (st1 o8 30 ((o8.1 0 32).toNat) 0) (fun o10 => qNm (st1 o10 0 32 ((o10.1 0 32) + 1)) (fun o11 => some ((o11.1 0 32) - 1, o11))))))))))))
set_option maxHeartbeats 4000000 in
set_option maxRecDepth 100000 in
theorem c_X12_enter (l : Launch) (g : GG) (ad : Nat → Nat) (o : OO) (x1 : Int) (x2 : Int) (v : Int × OO) (h : s_X12_enter o x1 x2 = some v) : CI l g yX12_enter cX12_enter 3 (some .int) 0 0 (wM g ad o) [.ref (ad 0), iv x1, iv x2] v.1 (wM g ad v.2) := by
  refine met_I (by decide) (Nat.le_of_ble_eq_true rfl) ?_
  intro X E hQ
  show Go X 0 (wM g ad o) [(0, .ref (ad 0)), (1, iv x1), (2, iv x2)] []
  unfold s_X12_enter at h
  refine g_aload_n E gdX12_enter_0 rfl 0 rfl ?_
  refine g_get (T := TX12) E fw_X12 0 (wM_0 g ad o) rfl 33 (by decide) w_1499 rfl rfl gdX12_enter_1 ?_
  refine g_aload_n E gdX12_enter_4 rfl 0 rfl ?_
  refine g_get (T := TX12) E fw_X12 0 (wM_0 g ad o) rfl 32 (by decide) w_1498 rfl rfl gdX12_enter_5 ?_
  refine g_iload_n E gdX12_enter_8 rfl 1 rfl ?_
  obtain ⟨hi1, h⟩ := qIn_of h
  obtain ⟨o2, e_o2, h⟩ := qNm_of h
  refine g_iast (ws' := wM g ad o2) E 25 (wM_25 g ad o) (by decide) hi1 (by rw [e_o2]; exact wM_s25 g ad o _ _) gdX12_enter_9 ?_
  refine g_aload_n E gdX12_enter_10 rfl 0 rfl ?_
  refine g_get (T := TX12) E fw_X12 0 (wM_0 g ad o2) rfl 34 (by decide) w_1500 rfl rfl gdX12_enter_11 ?_
  refine g_aload_n E gdX12_enter_14 rfl 0 rfl ?_
  refine g_get (T := TX12) E fw_X12 0 (wM_0 g ad o2) rfl 32 (by decide) w_1498 rfl rfl gdX12_enter_15 ?_
  refine g_aload_n E gdX12_enter_18 rfl 0 rfl ?_
  refine g_get (T := TX12) E fw_X12 0 (wM_0 g ad o2) rfl 4 (by decide) w_1470 rfl rfl gdX12_enter_19 ?_
  obtain ⟨hi3, h⟩ := qIn_of h
  obtain ⟨o4, e_o4, h⟩ := qNm_of h
  refine g_iast (ws' := wM g ad o4) E 26 (wM_26 g ad o2) (by decide) hi3 (by rw [e_o4]; exact wM_s26 g ad o2 _ _) gdX12_enter_22 ?_
  refine g_aload_n E gdX12_enter_23 rfl 0 rfl ?_
  refine g_get (T := TX12) E fw_X12 0 (wM_0 g ad o4) rfl 35 (by decide) w_1501 rfl rfl gdX12_enter_24 ?_
  refine g_aload_n E gdX12_enter_27 rfl 0 rfl ?_
  refine g_get (T := TX12) E fw_X12 0 (wM_0 g ad o4) rfl 32 (by decide) w_1498 rfl rfl gdX12_enter_28 ?_
  refine g_iload_n E gdX12_enter_31 rfl 2 rfl ?_
  obtain ⟨hi5, h⟩ := qIn_of h
  obtain ⟨o6, e_o6, h⟩ := qNm_of h
  refine g_iast (ws' := wM g ad o6) E 27 (wM_27 g ad o4) (by decide) hi5 (by rw [e_o6]; exact wM_s27 g ad o4 _ _) gdX12_enter_32 ?_
  refine g_aload_n E gdX12_enter_33 rfl 0 rfl ?_
  refine g_get (T := TX12) E fw_X12 0 (wM_0 g ad o6) rfl 37 (by decide) w_1503 rfl rfl gdX12_enter_34 ?_
  refine g_aload_n E gdX12_enter_37 rfl 0 rfl ?_
  refine g_get (T := TX12) E fw_X12 0 (wM_0 g ad o6) rfl 32 (by decide) w_1498 rfl rfl gdX12_enter_38 ?_
  refine g_bipush E gdX12_enter_41 (by decide) ?_
  obtain ⟨hi7, h⟩ := qIn_of h
  obtain ⟨o8, e_o8, h⟩ := qNm_of h
  refine g_iast (ws' := wM g ad o8) E 29 (wM_29 g ad o6) (by decide) hi7 (by rw [e_o8]; exact wM_s29 g ad o6 _ _) gdX12_enter_43 ?_
  refine g_aload_n E gdX12_enter_44 rfl 0 rfl ?_
  refine g_get (T := TX12) E fw_X12 0 (wM_0 g ad o8) rfl 38 (by decide) w_1504 rfl rfl gdX12_enter_45 ?_
  refine g_aload_n E gdX12_enter_48 rfl 0 rfl ?_
  refine g_get (T := TX12) E fw_X12 0 (wM_0 g ad o8) rfl 32 (by decide) w_1498 rfl rfl gdX12_enter_49 ?_
  refine g_iconst E gdX12_enter_52 ?_
  obtain ⟨hi9, h⟩ := qIn_of h
  obtain ⟨o10, e_o10, h⟩ := qNm_of h
  refine g_iast (ws' := wM g ad o10) E 30 (wM_30 g ad o8) (by decide) hi9 (by rw [e_o10]; exact wM_s30 g ad o8 _ _) gdX12_enter_53 ?_
  refine g_aload_n E gdX12_enter_54 rfl 0 rfl ?_
  refine g_dup E gdX12_enter_55 rfl ?_
  refine g_get (T := TX12) E fw_X12 0 (wM_0 g ad o10) rfl 32 (by decide) w_1498 rfl rfl gdX12_enter_56 ?_
  refine g_iconst E gdX12_enter_59 ?_
  refine g_iadd E gdX12_enter_60 ?_
  obtain ⟨o11, e_o11, h⟩ := qNm_of h
  refine g_puti (T := TX12) (ws' := wM g ad o11) E fw_X12 tyX12 tyX12_ok nmX12 0 (wM_0 g ad o10) rfl 32 (by decide) w_1498 rfl rfl (by decide +kernel) (Nat.le_of_ble_eq_true rfl) (by rw [e_o11]; exact wM_p0_32 g ad o10 _) gdX12_enter_61 ?_
  refine g_aload_n E gdX12_enter_64 rfl 0 rfl ?_
  refine g_get (T := TX12) E fw_X12 0 (wM_0 g ad o11) rfl 32 (by decide) w_1498 rfl rfl gdX12_enter_65 ?_
  refine g_iconst E gdX12_enter_68 ?_
  refine g_isub E gdX12_enter_69 ?_
  exact g_iret E hQ (by rw [← Option.some.inj h]) (by rw [← Option.some.inj h]) gdX12_enter_70
noncomputable def b_X12_grant_17 (o : OO) : Option (Int × OO) := some ((-1), o)
noncomputable def s_X12_grant (o : OO) (x1 : Int) (x2 : Int) : Option (Int × OO) := qB (s_X12_in x1 1 10) (fun r1 => qEq r1 0 (b_X12_grant_17 o) (qB (s_X12_isDay x2) (fun r3 => qEq r3 0 (b_X12_grant_17 o) (qEq (o.1 0 32) 24 (some ((-2), o)) (qB2 (s_X12_enter o 5 (-9)) (fun r5 o7 => qIn r5 24 (qNm (st1 o7 35 r5.toNat x1) (fun o9 => qIn r5 24 (qNm (st1 o9 36 r5.toNat x2) (fun o11 => some (r5, o11)))))))))))
set_option maxHeartbeats 4000000 in
set_option maxRecDepth 100000 in
theorem c_X12_grant (l : Launch) (g : GG) (ad : Nat → Nat) (o : OO) (x1 : Int) (x2 : Int) (v : Int × OO) (h : s_X12_grant o x1 x2 = some v) : CI l g yX12_grant cX12_grant 4 (some .int) 2 42 (wM g ad o) [.ref (ad 0), iv x1, iv x2] v.1 (wM g ad v.2) := by
  refine met_I (by decide) (Nat.le_of_ble_eq_true rfl) ?_
  intro X E hQ
  show Go X 0 (wM g ad o) [(0, .ref (ad 0)), (1, iv x1), (2, iv x2)] []
  have j17 : ∀ (o : OO), b_X12_grant_17 o = some v → Go X 17 (wM g ad o) [] [] := by
    intro o h
    unfold b_X12_grant_17 at h
    refine g_iconst E gdX12_grant_17 ?_
    exact g_iret E hQ (by rw [← Option.some.inj h]) (by rw [← Option.some.inj h]) gdX12_grant_18
  unfold s_X12_grant at h
  refine g_iload_n E gdX12_grant_0 rfl 1 rfl ?_
  refine g_iconst E gdX12_grant_1 ?_
  refine g_bipush E gdX12_grant_2 (by decide) ?_
  obtain ⟨r1, hc2, h⟩ := qB_of h
  refine g_Si (r := r1) (As := [iv x1, iv 1, iv 10]) (rest := []) (w := wM g ad o) E (c_X12_in l g (wM g ad o) x1 1 10 r1 hc2) okm_X12_in w_1706 w_1705 rfl rfl (Nat.le_of_ble_eq_true rfl) ⟨Nat.le_of_ble_eq_true rfl, Nat.le_of_ble_eq_true rfl⟩ gdX12_grant_4 ?_
  refine g_if_eq E 17 gdX12_grant_7 (by decide) h (fun h => ?_) (fun h => ?_)
  ·
    refine g_sub E [] rfl ?_
    exact j17 o h
  ·
    refine g_iload_n E gdX12_grant_10 rfl 2 rfl ?_
    obtain ⟨r3, hc4, h⟩ := qB_of h
    refine g_Si (r := r3) (As := [iv x2]) (rest := []) (w := wM g ad o) E (c_X12_isDay l g (wM g ad o) x2 r3 hc4) okm_X12_isDay w_1763 w_1762 rfl rfl (Nat.le_of_ble_eq_true rfl) ⟨Nat.le_of_ble_eq_true rfl, Nat.le_of_ble_eq_true rfl⟩ gdX12_grant_11 ?_
    refine g_if_ne E 19 gdX12_grant_14 (by decide) h (fun h => ?_) (fun h => ?_)
    ·
      refine g_aload_n E gdX12_grant_19 rfl 0 rfl ?_
      refine g_get (T := TX12) E fw_X12 0 (wM_0 g ad o) rfl 32 (by decide) w_1498 rfl rfl gdX12_grant_20 ?_
      refine g_bipush E gdX12_grant_23 (by decide) ?_
      refine g_icmp_ne E 31 gdX12_grant_25 (by decide) h (fun h => ?_) (fun h => ?_)
      ·
        refine g_aload_n E gdX12_grant_31 rfl 0 rfl ?_
        refine g_iconst E gdX12_grant_32 ?_
        refine g_bipush E gdX12_grant_33 (by decide) ?_
        obtain ⟨r5, o7, hc6, h⟩ := qB2_of h
        refine g_Vi (r := r5) (As := [iv 5, iv (-9)]) (rest := []) (w := wM g ad o7) E (c_X12_enter l g ad o 5 (-9) (r5, o7) hc6) okm_X12_enter okw_X12_enter w_1895 rfl (wM_0 g ad o) rfl rfl (Nat.le_of_ble_eq_true rfl) ⟨Nat.le_of_ble_eq_true rfl, Nat.le_of_ble_eq_true rfl⟩ gdX12_grant_35 ?_
        refine g_istore_n E [(3, iv r5), (0, .ref (ad 0)), (1, iv x1), (2, iv x2)] gdX12_grant_38 rfl (by decide) rfl ?_
        refine g_aload_n E gdX12_grant_39 rfl 1 rfl ?_
        refine g_get (T := TX12) E fw_X12 0 (wM_0 g ad o7) rfl 43 (by decide) w_1509 rfl rfl gdX12_grant_40 ?_
        refine g_iload_n E gdX12_grant_43 rfl 0 rfl ?_
        refine g_iload_n E gdX12_grant_44 rfl 2 rfl ?_
        obtain ⟨hi8, h⟩ := qIn_of h
        obtain ⟨o9, e_o9, h⟩ := qNm_of h
        refine g_iast (ws' := wM g ad o9) E 35 (wM_35 g ad o7) (by decide) hi8 (by rw [e_o9]; exact wM_s35 g ad o7 _ _) gdX12_grant_45 ?_
        refine g_aload_n E gdX12_grant_46 rfl 1 rfl ?_
        refine g_get (T := TX12) E fw_X12 0 (wM_0 g ad o9) rfl 44 (by decide) w_1510 rfl rfl gdX12_grant_47 ?_
        refine g_iload_n E gdX12_grant_50 rfl 0 rfl ?_
        refine g_iload_n E gdX12_grant_51 rfl 3 rfl ?_
        obtain ⟨hi10, h⟩ := qIn_of h
        obtain ⟨o11, e_o11, h⟩ := qNm_of h
        refine g_iast (ws' := wM g ad o11) E 36 (wM_36 g ad o9) (by decide) hi10 (by rw [e_o11]; exact wM_s36 g ad o9 _ _) gdX12_grant_52 ?_
        refine g_iload_n E gdX12_grant_53 rfl 0 rfl ?_
        exact g_iret E hQ (by rw [← Option.some.inj h]) (by rw [← Option.some.inj h]) gdX12_grant_54
      ·
        refine g_bipush E gdX12_grant_28 (by decide) ?_
        exact g_iret E hQ (by rw [← Option.some.inj h]) (by rw [← Option.some.inj h]) gdX12_grant_30
    ·
      refine g_sub E [] rfl ?_
      exact j17 o h
noncomputable def b_X12_grants_16 (o : OO) : Option (Int × OO) := some ((-1), o)
noncomputable def b_X12_grants_36 (o : OO) : Option (Int × OO) := qB2 (s_X12_meets o 3) (fun r1 o3 => some (r1, o3))
noncomputable def b_X12_grants_110 (o : OO) (y1 : Int) (y2 : Int) : Option (Int × OO) := qB2 (s_X12_ask o y1 y2) (fun r4 o6 => some (r4, o6))
noncomputable def b_X12_grants_96 (o : OO) (x3 : Int) (y1 : Int64) : Option (Int × OO) := qNm (st2 o 0 64 y1) (fun o7 => qLt x3 0 (b_X12_grants_110 o7 x3 0) (b_X12_grants_110 o7 x3 1))
noncomputable def b_X12_grants_66 (o : OO) (x1 : Int) (x2 : Int) (y0 : Int) (y1 : Int) : Option (Int × OO) := qNm (y0 - y1) (fun n8 => qLt n8 0 (b_X12_grants_96 o n8 (0 : Int64)) (qIn x2 24 (qNm (o.1 28 x2.toNat) (fun n10 => qIn x1 24 (qNm (o.1 35 x1.toNat) (fun n12 => b_X12_grants_96 o n8 (((jl n10) * (jl n12)) / (10 : Int64))))))))
noncomputable def s_X12_grants (o : OO) (x1 : Int) (x2 : Int) : Option (Int × OO) := qB (s_X12_isMark o x1) (fun r13 => qEq r13 0 (b_X12_grants_16 o) (qB (s_X12_isMark o x2) (fun r15 => qEq r15 0 (b_X12_grants_16 o) (qIn x1 24 (qNm (o.1 25 x1.toNat) (fun n18 => qEq n18 5 (qB (s_X12_isLine o x2) (fun r19 => qEq r19 0 (b_X12_grants_36 o) (qIn x1 24 (qNm (o.1 36 x1.toNat) (fun n22 => qLt (o.1 0 66) 0 (b_X12_grants_66 o x1 x2 n22 (o.1 0 4)) (b_X12_grants_66 o x1 x2 n22 (o.1 0 66))))))) (b_X12_grants_36 o)))))))
set_option maxHeartbeats 4000000 in
set_option maxRecDepth 100000 in
theorem c_X12_grants (l : Launch) (g : GG) (ad : Nat → Nat) (o : OO) (x1 : Int) (x2 : Int) (v : Int × OO) (h : s_X12_grants o x1 x2 = some v) : CI l g yX12_grants cX12_grants 4 (some .int) 2 43 (wM g ad o) [.ref (ad 0), iv x1, iv x2] v.1 (wM g ad v.2) := by
  refine met_I (by decide) (Nat.le_of_ble_eq_true rfl) ?_
  intro X E hQ
  show Go X 0 (wM g ad o) [(0, .ref (ad 0)), (1, iv x1), (2, iv x2)] []
  have j16 : ∀ (o : OO), b_X12_grants_16 o = some v → Go X 16 (wM g ad o) [] [] := by
    intro o h
    unfold b_X12_grants_16 at h
    refine g_iconst E gdX12_grants_16 ?_
    exact g_iret E hQ (by rw [← Option.some.inj h]) (by rw [← Option.some.inj h]) gdX12_grants_17
  have j36 : ∀ (o : OO), b_X12_grants_36 o = some v → Go X 36 (wM g ad o) [(0, .ref (ad 0))] [] := by
    intro o h
    unfold b_X12_grants_36 at h
    refine g_aload_n E gdX12_grants_36 rfl 0 rfl ?_
    refine g_iconst E gdX12_grants_37 ?_
    obtain ⟨r1, o3, hc2, h⟩ := qB2_of h
    refine g_Vi (r := r1) (As := [iv 3]) (rest := []) (w := wM g ad o3) E (c_X12_meets l g ad o 3 (r1, o3) hc2) okm_X12_meets okw_X12_meets w_1708 rfl (wM_0 g ad o) rfl rfl (Nat.le_of_ble_eq_true rfl) ⟨Nat.le_of_ble_eq_true rfl, Nat.le_of_ble_eq_true rfl⟩ gdX12_grants_38 ?_
    exact g_iret E hQ (by rw [← Option.some.inj h]) (by rw [← Option.some.inj h]) gdX12_grants_41
  have j110 : ∀ (o : OO) (y1 : Int) (y2 : Int), b_X12_grants_110 o y1 y2 = some v → Go X 110 (wM g ad o) [] [iv y2, iv y1, .ref (ad 0)] := by
    intro o y1 y2 h
    unfold b_X12_grants_110 at h
    obtain ⟨r4, o6, hc5, h⟩ := qB2_of h
    refine g_Vi (r := r4) (As := [iv y1, iv y2]) (rest := []) (w := wM g ad o6) E (c_X12_ask l g ad o y1 y2 (r4, o6) hc5) okm_X12_ask okw_X12_ask w_1835 rfl (wM_0 g ad o) rfl rfl (Nat.le_of_ble_eq_true rfl) ⟨Nat.le_of_ble_eq_true rfl, Nat.le_of_ble_eq_true rfl⟩ gdX12_grants_110 ?_
    exact g_iret E hQ (by rw [← Option.some.inj h]) (by rw [← Option.some.inj h]) gdX12_grants_113
  have j96 : ∀ (o : OO) (x3 : Int) (y1 : Int64), b_X12_grants_96 o x3 y1 = some v → Go X 96 (wM g ad o) [(0, .ref (ad 0)), (3, iv x3)] [.long y1, .ref (ad 0)] := by
    intro o x3 y1 h
    unfold b_X12_grants_96 at h
    obtain ⟨o7, e_o7, h⟩ := qNm_of h
    refine g_putl (T := TX12) (ws' := wM g ad o7) E fw_X12 tyX12 tyX12_ok nmX12 0 (wM_0 g ad o) rfl 64 (by decide) w_1530 rfl rfl (by decide +kernel) (Nat.le_of_ble_eq_true rfl) (by rw [e_o7]; exact wM_p0_64 g ad o _) gdX12_grants_96 ?_
    refine g_aload_n E gdX12_grants_99 rfl 0 rfl ?_
    refine g_iload_n E gdX12_grants_100 rfl 1 rfl ?_
    refine g_iload_n E gdX12_grants_101 rfl 1 rfl ?_
    refine g_if_lt E 109 gdX12_grants_102 (by decide) h (fun h => ?_) (fun h => ?_)
    ·
      refine g_iconst E gdX12_grants_109 ?_
      refine g_sub E [] rfl ?_
      exact j110 o7 x3 0 h
    ·
      refine g_iconst E gdX12_grants_105 ?_
      refine g_goto E 110 gdX12_grants_106 (by decide) ?_
      refine g_sub E [] rfl ?_
      exact j110 o7 x3 1 h
  have j66 : ∀ (o : OO) (x1 : Int) (x2 : Int) (y0 : Int) (y1 : Int), b_X12_grants_66 o x1 x2 y0 y1 = some v → Go X 66 (wM g ad o) [(0, .ref (ad 0)), (1, iv x1), (2, iv x2)] [iv y1, iv y0] := by
    intro o x1 x2 y0 y1 h
    unfold b_X12_grants_66 at h
    refine g_isub E gdX12_grants_66 ?_
    obtain ⟨n8, e_n8, h⟩ := qNm_of h
    refine g_nmi e_n8 ?_
    refine g_istore_n E [(3, iv n8), (0, .ref (ad 0)), (1, iv x1), (2, iv x2)] gdX12_grants_67 rfl (by decide) rfl ?_
    refine g_aload_n E gdX12_grants_68 rfl 1 rfl ?_
    refine g_iload_n E gdX12_grants_69 rfl 0 rfl ?_
    refine g_if_lt E 95 gdX12_grants_70 (by decide) h (fun h => ?_) (fun h => ?_)
    ·
      refine g_lconst (v := 0) E gdX12_grants_95 (by decide) ?_
      refine g_sub E [1, 0] rfl ?_
      exact j96 o n8 (0 : Int64) h
    ·
      refine g_aload_n E gdX12_grants_73 rfl 1 rfl ?_
      refine g_get (T := TX12) E fw_X12 0 (wM_0 g ad o) rfl 36 (by decide) w_1502 rfl rfl gdX12_grants_74 ?_
      refine g_iload_n E gdX12_grants_77 rfl 3 rfl ?_
      obtain ⟨hi9, h⟩ := qIn_of h
      refine g_iald E 28 (wM_28 g ad o) (by decide) hi9 gdX12_grants_78 ?_
      obtain ⟨n10, e_n10, h⟩ := qNm_of h
      refine g_nmi e_n10 ?_
      refine g_i2l E gdX12_grants_79 ?_
      refine g_aload_n E gdX12_grants_80 rfl 1 rfl ?_
      refine g_get (T := TX12) E fw_X12 0 (wM_0 g ad o) rfl 43 (by decide) w_1509 rfl rfl gdX12_grants_81 ?_
      refine g_iload_n E gdX12_grants_84 rfl 2 rfl ?_
      obtain ⟨hi11, h⟩ := qIn_of h
      refine g_iald E 35 (wM_35 g ad o) (by decide) hi11 gdX12_grants_85 ?_
      obtain ⟨n12, e_n12, h⟩ := qNm_of h
      refine g_nmi e_n12 ?_
      refine g_i2l E gdX12_grants_86 ?_
      refine g_lmul E gdX12_grants_87 ?_
      refine g_ldc2 E gdX12_grants_88 w_2086 ?_
      refine g_ldiv E (by decide) gdX12_grants_91 ?_
      refine g_goto E 96 gdX12_grants_92 (by decide) ?_
      refine g_sub E [1, 0] rfl ?_
      exact j96 o n8 (((jl n10) * (jl n12)) / (10 : Int64)) h
  unfold s_X12_grants at h
  refine g_aload_n E gdX12_grants_0 rfl 0 rfl ?_
  refine g_iload_n E gdX12_grants_1 rfl 1 rfl ?_
  obtain ⟨r13, hc14, h⟩ := qB_of h
  refine g_Vi (r := r13) (As := [iv x1]) (rest := []) (w := wM g ad o) E (c_X12_isMark l g ad o x1 r13 hc14) okm_X12_isMark okw_X12_isMark w_1903 rfl (wM_0 g ad o) rfl rfl (Nat.le_of_ble_eq_true rfl) ⟨Nat.le_of_ble_eq_true rfl, Nat.le_of_ble_eq_true rfl⟩ gdX12_grants_2 ?_
  refine g_if_eq E 16 gdX12_grants_5 (by decide) h (fun h => ?_) (fun h => ?_)
  ·
    refine g_sub E [] rfl ?_
    exact j16 o h
  ·
    refine g_aload_n E gdX12_grants_8 rfl 0 rfl ?_
    refine g_iload_n E gdX12_grants_9 rfl 2 rfl ?_
    obtain ⟨r15, hc16, h⟩ := qB_of h
    refine g_Vi (r := r15) (As := [iv x2]) (rest := []) (w := wM g ad o) E (c_X12_isMark l g ad o x2 r15 hc16) okm_X12_isMark okw_X12_isMark w_1903 rfl (wM_0 g ad o) rfl rfl (Nat.le_of_ble_eq_true rfl) ⟨Nat.le_of_ble_eq_true rfl, Nat.le_of_ble_eq_true rfl⟩ gdX12_grants_10 ?_
    refine g_if_ne E 18 gdX12_grants_13 (by decide) h (fun h => ?_) (fun h => ?_)
    ·
      refine g_aload_n E gdX12_grants_18 rfl 0 rfl ?_
      refine g_get (T := TX12) E fw_X12 0 (wM_0 g ad o) rfl 33 (by decide) w_1499 rfl rfl gdX12_grants_19 ?_
      refine g_iload_n E gdX12_grants_22 rfl 1 rfl ?_
      obtain ⟨hi17, h⟩ := qIn_of h
      refine g_iald E 25 (wM_25 g ad o) (by decide) hi17 gdX12_grants_23 ?_
      obtain ⟨n18, e_n18, h⟩ := qNm_of h
      refine g_nmi e_n18 ?_
      refine g_iconst E gdX12_grants_24 ?_
      refine g_icmp_ne E 36 gdX12_grants_25 (by decide) h (fun h => ?_) (fun h => ?_)
      ·
        refine g_sub E [0] rfl ?_
        exact j36 o h
      ·
        refine g_aload_n E gdX12_grants_28 rfl 0 rfl ?_
        refine g_iload_n E gdX12_grants_29 rfl 2 rfl ?_
        obtain ⟨r19, hc20, h⟩ := qB_of h
        refine g_Vi (r := r19) (As := [iv x2]) (rest := []) (w := wM g ad o) E (c_X12_isLine l g ad o x2 r19 hc20) okm_X12_isLine okw_X12_isLine w_1907 rfl (wM_0 g ad o) rfl rfl (Nat.le_of_ble_eq_true rfl) ⟨Nat.le_of_ble_eq_true rfl, Nat.le_of_ble_eq_true rfl⟩ gdX12_grants_30 ?_
        refine g_if_ne E 42 gdX12_grants_33 (by decide) h (fun h => ?_) (fun h => ?_)
        ·
          refine g_aload_n E gdX12_grants_42 rfl 0 rfl ?_
          refine g_get (T := TX12) E fw_X12 0 (wM_0 g ad o) rfl 44 (by decide) w_1510 rfl rfl gdX12_grants_43 ?_
          refine g_iload_n E gdX12_grants_46 rfl 1 rfl ?_
          obtain ⟨hi21, h⟩ := qIn_of h
          refine g_iald E 36 (wM_36 g ad o) (by decide) hi21 gdX12_grants_47 ?_
          obtain ⟨n22, e_n22, h⟩ := qNm_of h
          refine g_nmi e_n22 ?_
          refine g_aload_n E gdX12_grants_48 rfl 0 rfl ?_
          refine g_get (T := TX12) E fw_X12 0 (wM_0 g ad o) rfl 66 (by decide) w_1532 rfl rfl gdX12_grants_49 ?_
          refine g_if_ge E 62 gdX12_grants_52 (by decide) h (fun h => ?_) (fun h => ?_)
          ·
            refine g_aload_n E gdX12_grants_62 rfl 0 rfl ?_
            refine g_get (T := TX12) E fw_X12 0 (wM_0 g ad o) rfl 66 (by decide) w_1532 rfl rfl gdX12_grants_63 ?_
            exact j66 o x1 x2 n22 (o.1 0 66) h
          ·
            refine g_aload_n E gdX12_grants_55 rfl 0 rfl ?_
            refine g_get (T := TX12) E fw_X12 0 (wM_0 g ad o) rfl 4 (by decide) w_1470 rfl rfl gdX12_grants_56 ?_
            refine g_goto E 66 gdX12_grants_59 (by decide) ?_
            exact j66 o x1 x2 n22 (o.1 0 4) h
        ·
          refine g_sub E [0] rfl ?_
          exact j36 o h
    ·
      refine g_sub E [] rfl ?_
      exact j16 o h
noncomputable def b_X12_hear_16 (o : OO) : Option (Int × OO) := some ((-1), o)
noncomputable def s_X12_hear (o : OO) (x1 : Int) (x2 : Int) : Option (Int × OO) := qB (s_X12_isPerson o x1) (fun r1 => qEq r1 0 (b_X12_hear_16 o) (qB (s_X12_isMark o x2) (fun r3 => qEq r3 0 (b_X12_hear_16 o) (qB (s_X12_isLine o x2) (fun r5 => qEq r5 0 (qB2 (s_X12_meets o 3) (fun r16 o18 => some (r16, o18))) (qB (s_X12_heard o x1 x2) (fun r7 => qLt r7 0 (qEq (o.1 0 52) 60 (some ((-2), o)) (qIn (o.1 0 52) 60 (qNm (st1 o 43 ((o.1 0 52).toNat) x1) (fun o10 => qIn (o10.1 0 52) 60 (qNm (st1 o10 44 ((o10.1 0 52).toNat) x2) (fun o12 => qIn (o12.1 0 52) 60 (qNm (st1 o12 45 ((o12.1 0 52).toNat) (o12.1 0 4)) (fun o14 => qNm (st1 o14 0 52 ((o14.1 0 52) + 1)) (fun o15 => some (o15.1 0 4, o15)))))))))) (some (r7, o)))))))))
set_option maxHeartbeats 4000000 in
set_option maxRecDepth 100000 in
theorem c_X12_hear (l : Launch) (g : GG) (ad : Nat → Nat) (o : OO) (x1 : Int) (x2 : Int) (v : Int × OO) (h : s_X12_hear o x1 x2 = some v) : CI l g yX12_hear cX12_hear 4 (some .int) 2 43 (wM g ad o) [.ref (ad 0), iv x1, iv x2] v.1 (wM g ad v.2) := by
  refine met_I (by decide) (Nat.le_of_ble_eq_true rfl) ?_
  intro X E hQ
  show Go X 0 (wM g ad o) [(0, .ref (ad 0)), (1, iv x1), (2, iv x2)] []
  have j16 : ∀ (o : OO), b_X12_hear_16 o = some v → Go X 16 (wM g ad o) [] [] := by
    intro o h
    unfold b_X12_hear_16 at h
    refine g_iconst E gdX12_hear_16 ?_
    exact g_iret E hQ (by rw [← Option.some.inj h]) (by rw [← Option.some.inj h]) gdX12_hear_17
  unfold s_X12_hear at h
  refine g_aload_n E gdX12_hear_0 rfl 0 rfl ?_
  refine g_iload_n E gdX12_hear_1 rfl 1 rfl ?_
  obtain ⟨r1, hc2, h⟩ := qB_of h
  refine g_Vi (r := r1) (As := [iv x1]) (rest := []) (w := wM g ad o) E (c_X12_isPerson l g ad o x1 r1 hc2) okm_X12_isPerson okw_X12_isPerson w_1851 rfl (wM_0 g ad o) rfl rfl (Nat.le_of_ble_eq_true rfl) ⟨Nat.le_of_ble_eq_true rfl, Nat.le_of_ble_eq_true rfl⟩ gdX12_hear_2 ?_
  refine g_if_eq E 16 gdX12_hear_5 (by decide) h (fun h => ?_) (fun h => ?_)
  ·
    refine g_sub E [] rfl ?_
    exact j16 o h
  ·
    refine g_aload_n E gdX12_hear_8 rfl 0 rfl ?_
    refine g_iload_n E gdX12_hear_9 rfl 2 rfl ?_
    obtain ⟨r3, hc4, h⟩ := qB_of h
    refine g_Vi (r := r3) (As := [iv x2]) (rest := []) (w := wM g ad o) E (c_X12_isMark l g ad o x2 r3 hc4) okm_X12_isMark okw_X12_isMark w_1903 rfl (wM_0 g ad o) rfl rfl (Nat.le_of_ble_eq_true rfl) ⟨Nat.le_of_ble_eq_true rfl, Nat.le_of_ble_eq_true rfl⟩ gdX12_hear_10 ?_
    refine g_if_ne E 18 gdX12_hear_13 (by decide) h (fun h => ?_) (fun h => ?_)
    ·
      refine g_aload_n E gdX12_hear_18 rfl 0 rfl ?_
      refine g_iload_n E gdX12_hear_19 rfl 2 rfl ?_
      obtain ⟨r5, hc6, h⟩ := qB_of h
      refine g_Vi (r := r5) (As := [iv x2]) (rest := []) (w := wM g ad o) E (c_X12_isLine l g ad o x2 r5 hc6) okm_X12_isLine okw_X12_isLine w_1907 rfl (wM_0 g ad o) rfl rfl (Nat.le_of_ble_eq_true rfl) ⟨Nat.le_of_ble_eq_true rfl, Nat.le_of_ble_eq_true rfl⟩ gdX12_hear_20 ?_
      refine g_if_ne E 32 gdX12_hear_23 (by decide) h (fun h => ?_) (fun h => ?_)
      ·
        refine g_aload_n E gdX12_hear_32 rfl 0 rfl ?_
        refine g_iload_n E gdX12_hear_33 rfl 1 rfl ?_
        refine g_iload_n E gdX12_hear_34 rfl 2 rfl ?_
        obtain ⟨r7, hc8, h⟩ := qB_of h
        refine g_Vi (r := r7) (As := [iv x1, iv x2]) (rest := []) (w := wM g ad o) E (c_X12_heard l g ad o x1 x2 r7 hc8) okm_X12_heard okw_X12_heard w_1993 rfl (wM_0 g ad o) rfl rfl (Nat.le_of_ble_eq_true rfl) ⟨Nat.le_of_ble_eq_true rfl, Nat.le_of_ble_eq_true rfl⟩ gdX12_hear_35 ?_
        refine g_istore_n E [(3, iv r7), (0, .ref (ad 0)), (1, iv x1), (2, iv x2)] gdX12_hear_38 rfl (by decide) rfl ?_
        refine g_iload_n E gdX12_hear_39 rfl 0 rfl ?_
        refine g_if_lt E 45 gdX12_hear_40 (by decide) h (fun h => ?_) (fun h => ?_)
        ·
          refine g_aload_n E gdX12_hear_45 rfl 1 rfl ?_
          refine g_get (T := TX12) E fw_X12 0 (wM_0 g ad o) rfl 52 (by decide) w_1518 rfl rfl gdX12_hear_46 ?_
          refine g_bipush E gdX12_hear_49 (by decide) ?_
          refine g_icmp_ne E 57 gdX12_hear_51 (by decide) h (fun h => ?_) (fun h => ?_)
          ·
            refine g_aload_n E gdX12_hear_57 rfl 1 rfl ?_
            refine g_get (T := TX12) E fw_X12 0 (wM_0 g ad o) rfl 53 (by decide) w_1519 rfl rfl gdX12_hear_58 ?_
            refine g_aload_n E gdX12_hear_61 rfl 1 rfl ?_
            refine g_get (T := TX12) E fw_X12 0 (wM_0 g ad o) rfl 52 (by decide) w_1518 rfl rfl gdX12_hear_62 ?_
            refine g_iload_n E gdX12_hear_65 rfl 2 rfl ?_
            obtain ⟨hi9, h⟩ := qIn_of h
            obtain ⟨o10, e_o10, h⟩ := qNm_of h
            refine g_iast (ws' := wM g ad o10) E 43 (wM_43 g ad o) (by decide) hi9 (by rw [e_o10]; exact wM_s43 g ad o _ _) gdX12_hear_66 ?_
            refine g_aload_n E gdX12_hear_67 rfl 1 rfl ?_
            refine g_get (T := TX12) E fw_X12 0 (wM_0 g ad o10) rfl 54 (by decide) w_1520 rfl rfl gdX12_hear_68 ?_
            refine g_aload_n E gdX12_hear_71 rfl 1 rfl ?_
            refine g_get (T := TX12) E fw_X12 0 (wM_0 g ad o10) rfl 52 (by decide) w_1518 rfl rfl gdX12_hear_72 ?_
            refine g_iload_n E gdX12_hear_75 rfl 3 rfl ?_
            obtain ⟨hi11, h⟩ := qIn_of h
            obtain ⟨o12, e_o12, h⟩ := qNm_of h
            refine g_iast (ws' := wM g ad o12) E 44 (wM_44 g ad o10) (by decide) hi11 (by rw [e_o12]; exact wM_s44 g ad o10 _ _) gdX12_hear_76 ?_
            refine g_aload_n E gdX12_hear_77 rfl 1 rfl ?_
            refine g_get (T := TX12) E fw_X12 0 (wM_0 g ad o12) rfl 55 (by decide) w_1521 rfl rfl gdX12_hear_78 ?_
            refine g_aload_n E gdX12_hear_81 rfl 1 rfl ?_
            refine g_get (T := TX12) E fw_X12 0 (wM_0 g ad o12) rfl 52 (by decide) w_1518 rfl rfl gdX12_hear_82 ?_
            refine g_aload_n E gdX12_hear_85 rfl 1 rfl ?_
            refine g_get (T := TX12) E fw_X12 0 (wM_0 g ad o12) rfl 4 (by decide) w_1470 rfl rfl gdX12_hear_86 ?_
            obtain ⟨hi13, h⟩ := qIn_of h
            obtain ⟨o14, e_o14, h⟩ := qNm_of h
            refine g_iast (ws' := wM g ad o14) E 45 (wM_45 g ad o12) (by decide) hi13 (by rw [e_o14]; exact wM_s45 g ad o12 _ _) gdX12_hear_89 ?_
            refine g_aload_n E gdX12_hear_90 rfl 1 rfl ?_
            refine g_dup E gdX12_hear_91 rfl ?_
            refine g_get (T := TX12) E fw_X12 0 (wM_0 g ad o14) rfl 52 (by decide) w_1518 rfl rfl gdX12_hear_92 ?_
            refine g_iconst E gdX12_hear_95 ?_
            refine g_iadd E gdX12_hear_96 ?_
            obtain ⟨o15, e_o15, h⟩ := qNm_of h
            refine g_puti (T := TX12) (ws' := wM g ad o15) E fw_X12 tyX12 tyX12_ok nmX12 0 (wM_0 g ad o14) rfl 52 (by decide) w_1518 rfl rfl (by decide +kernel) (Nat.le_of_ble_eq_true rfl) (by rw [e_o15]; exact wM_p0_52 g ad o14 _) gdX12_hear_97 ?_
            refine g_aload_n E gdX12_hear_100 rfl 1 rfl ?_
            refine g_get (T := TX12) E fw_X12 0 (wM_0 g ad o15) rfl 4 (by decide) w_1470 rfl rfl gdX12_hear_101 ?_
            exact g_iret E hQ (by rw [← Option.some.inj h]) (by rw [← Option.some.inj h]) gdX12_hear_104
          ·
            refine g_bipush E gdX12_hear_54 (by decide) ?_
            exact g_iret E hQ (by rw [← Option.some.inj h]) (by rw [← Option.some.inj h]) gdX12_hear_56
        ·
          refine g_iload_n E gdX12_hear_43 rfl 0 rfl ?_
          exact g_iret E hQ (by rw [← Option.some.inj h]) (by rw [← Option.some.inj h]) gdX12_hear_44
      ·
        refine g_aload_n E gdX12_hear_26 rfl 0 rfl ?_
        refine g_iconst E gdX12_hear_27 ?_
        obtain ⟨r16, o18, hc17, h⟩ := qB2_of h
        refine g_Vi (r := r16) (As := [iv 3]) (rest := []) (w := wM g ad o18) E (c_X12_meets l g ad o 3 (r16, o18) hc17) okm_X12_meets okw_X12_meets w_1708 rfl (wM_0 g ad o) rfl rfl (Nat.le_of_ble_eq_true rfl) ⟨Nat.le_of_ble_eq_true rfl, Nat.le_of_ble_eq_true rfl⟩ gdX12_hear_28 ?_
        exact g_iret E hQ (by rw [← Option.some.inj h]) (by rw [← Option.some.inj h]) gdX12_hear_31
    ·
      refine g_sub E [] rfl ?_
      exact j16 o h
noncomputable def b_X12_hearing_33 (o : OO) : Option (Int × OO) := some ((-1), o)
noncomputable def s_X12_hearing (o : OO) (x1 : Int) (x2 : Int) (x3 : Int) (x4 : Int) : Option (Int × OO) := qB (s_X12_isMark o x1) (fun r1 => qEq r1 0 (b_X12_hearing_33 o) (qB (s_X12_isCell x2) (fun r3 => qEq r3 0 (b_X12_hearing_33 o) (qB (s_X12_in x3 0 23) (fun r5 => qEq r5 0 (b_X12_hearing_33 o) (qB (s_X12_isDay x4) (fun r7 => qEq r7 0 (b_X12_hearing_33 o) (qEq (o.1 0 32) 24 (some ((-2), o)) (qB (s_X12_isLine o x1) (fun r9 => qEq r9 0 (qB2 (s_X12_meets o 3) (fun r20 o22 => some (r20, o22))) (qLt x4 (o.1 0 4) (some ((-4), o)) (qB2 (s_X12_enter o 6 x1) (fun r11 o13 => qIn r11 24 (qNm (st1 o13 35 r11.toNat x2) (fun o15 => qIn r11 24 (qNm (st1 o15 36 r11.toNat x3) (fun o17 => qIn r11 24 (qNm (st1 o17 37 r11.toNat x4) (fun o19 => some (r11, o19))))))))))))))))))))
set_option maxHeartbeats 4000000 in
set_option maxRecDepth 100000 in
theorem c_X12_hearing (l : Launch) (g : GG) (ad : Nat → Nat) (o : OO) (x1 : Int) (x2 : Int) (x3 : Int) (x4 : Int) (v : Int × OO) (h : s_X12_hearing o x1 x2 x3 x4 = some v) : CI l g yX12_hearing cX12_hearing 6 (some .int) 2 43 (wM g ad o) [.ref (ad 0), iv x1, iv x2, iv x3, iv x4] v.1 (wM g ad v.2) := by
  refine met_I (by decide) (Nat.le_of_ble_eq_true rfl) ?_
  intro X E hQ
  show Go X 0 (wM g ad o) [(0, .ref (ad 0)), (1, iv x1), (2, iv x2), (3, iv x3), (4, iv x4)] []
  have j33 : ∀ (o : OO), b_X12_hearing_33 o = some v → Go X 33 (wM g ad o) [] [] := by
    intro o h
    unfold b_X12_hearing_33 at h
    refine g_iconst E gdX12_hearing_33 ?_
    exact g_iret E hQ (by rw [← Option.some.inj h]) (by rw [← Option.some.inj h]) gdX12_hearing_34
  unfold s_X12_hearing at h
  refine g_aload_n E gdX12_hearing_0 rfl 0 rfl ?_
  refine g_iload_n E gdX12_hearing_1 rfl 1 rfl ?_
  obtain ⟨r1, hc2, h⟩ := qB_of h
  refine g_Vi (r := r1) (As := [iv x1]) (rest := []) (w := wM g ad o) E (c_X12_isMark l g ad o x1 r1 hc2) okm_X12_isMark okw_X12_isMark w_1903 rfl (wM_0 g ad o) rfl rfl (Nat.le_of_ble_eq_true rfl) ⟨Nat.le_of_ble_eq_true rfl, Nat.le_of_ble_eq_true rfl⟩ gdX12_hearing_2 ?_
  refine g_if_eq E 33 gdX12_hearing_5 (by decide) h (fun h => ?_) (fun h => ?_)
  ·
    refine g_sub E [] rfl ?_
    exact j33 o h
  ·
    refine g_iload_n E gdX12_hearing_8 rfl 2 rfl ?_
    obtain ⟨r3, hc4, h⟩ := qB_of h
    refine g_Si (r := r3) (As := [iv x2]) (rest := []) (w := wM g ad o) E (c_X12_isCell l g (wM g ad o) x2 r3 hc4) okm_X12_isCell w_1789 w_1788 rfl rfl (Nat.le_of_ble_eq_true rfl) ⟨Nat.le_of_ble_eq_true rfl, Nat.le_of_ble_eq_true rfl⟩ gdX12_hearing_9 ?_
    refine g_if_eq E 33 gdX12_hearing_12 (by decide) h (fun h => ?_) (fun h => ?_)
    ·
      refine g_sub E [] rfl ?_
      exact j33 o h
    ·
      refine g_iload_n E gdX12_hearing_15 rfl 3 rfl ?_
      refine g_iconst E gdX12_hearing_16 ?_
      refine g_bipush E gdX12_hearing_17 (by decide) ?_
      obtain ⟨r5, hc6, h⟩ := qB_of h
      refine g_Si (r := r5) (As := [iv x3, iv 0, iv 23]) (rest := []) (w := wM g ad o) E (c_X12_in l g (wM g ad o) x3 0 23 r5 hc6) okm_X12_in w_1706 w_1705 rfl rfl (Nat.le_of_ble_eq_true rfl) ⟨Nat.le_of_ble_eq_true rfl, Nat.le_of_ble_eq_true rfl⟩ gdX12_hearing_19 ?_
      refine g_if_eq E 33 gdX12_hearing_22 (by decide) h (fun h => ?_) (fun h => ?_)
      ·
        refine g_sub E [] rfl ?_
        exact j33 o h
      ·
        refine g_iload E gdX12_hearing_25 4 rfl ?_
        obtain ⟨r7, hc8, h⟩ := qB_of h
        refine g_Si (r := r7) (As := [iv x4]) (rest := []) (w := wM g ad o) E (c_X12_isDay l g (wM g ad o) x4 r7 hc8) okm_X12_isDay w_1763 w_1762 rfl rfl (Nat.le_of_ble_eq_true rfl) ⟨Nat.le_of_ble_eq_true rfl, Nat.le_of_ble_eq_true rfl⟩ gdX12_hearing_27 ?_
        refine g_if_ne E 35 gdX12_hearing_30 (by decide) h (fun h => ?_) (fun h => ?_)
        ·
          refine g_aload_n E gdX12_hearing_35 rfl 0 rfl ?_
          refine g_get (T := TX12) E fw_X12 0 (wM_0 g ad o) rfl 32 (by decide) w_1498 rfl rfl gdX12_hearing_36 ?_
          refine g_bipush E gdX12_hearing_39 (by decide) ?_
          refine g_icmp_ne E 47 gdX12_hearing_41 (by decide) h (fun h => ?_) (fun h => ?_)
          ·
            refine g_aload_n E gdX12_hearing_47 rfl 0 rfl ?_
            refine g_iload_n E gdX12_hearing_48 rfl 1 rfl ?_
            obtain ⟨r9, hc10, h⟩ := qB_of h
            refine g_Vi (r := r9) (As := [iv x1]) (rest := []) (w := wM g ad o) E (c_X12_isLine l g ad o x1 r9 hc10) okm_X12_isLine okw_X12_isLine w_1907 rfl (wM_0 g ad o) rfl rfl (Nat.le_of_ble_eq_true rfl) ⟨Nat.le_of_ble_eq_true rfl, Nat.le_of_ble_eq_true rfl⟩ gdX12_hearing_49 ?_
            refine g_if_ne E 61 gdX12_hearing_52 (by decide) h (fun h => ?_) (fun h => ?_)
            ·
              refine g_iload E gdX12_hearing_61 4 rfl ?_
              refine g_aload_n E gdX12_hearing_63 rfl 0 rfl ?_
              refine g_get (T := TX12) E fw_X12 0 (wM_0 g ad o) rfl 4 (by decide) w_1470 rfl rfl gdX12_hearing_64 ?_
              refine g_icmp_ge E 73 gdX12_hearing_67 (by decide) h (fun h => ?_) (fun h => ?_)
              ·
                refine g_aload_n E gdX12_hearing_73 rfl 0 rfl ?_
                refine g_bipush E gdX12_hearing_74 (by decide) ?_
                refine g_iload_n E gdX12_hearing_76 rfl 1 rfl ?_
                obtain ⟨r11, o13, hc12, h⟩ := qB2_of h
                refine g_Vi (r := r11) (As := [iv 6, iv x1]) (rest := []) (w := wM g ad o13) E (c_X12_enter l g ad o 6 x1 (r11, o13) hc12) okm_X12_enter okw_X12_enter w_1895 rfl (wM_0 g ad o) rfl rfl (Nat.le_of_ble_eq_true rfl) ⟨Nat.le_of_ble_eq_true rfl, Nat.le_of_ble_eq_true rfl⟩ gdX12_hearing_77 ?_
                refine g_istore E [(5, iv r11), (0, .ref (ad 0)), (1, iv x1), (2, iv x2), (3, iv x3), (4, iv x4)] gdX12_hearing_80 (by decide) rfl ?_
                refine g_aload_n E gdX12_hearing_82 rfl 1 rfl ?_
                refine g_get (T := TX12) E fw_X12 0 (wM_0 g ad o13) rfl 43 (by decide) w_1509 rfl rfl gdX12_hearing_83 ?_
                refine g_iload E gdX12_hearing_86 0 rfl ?_
                refine g_iload_n E gdX12_hearing_88 rfl 3 rfl ?_
                obtain ⟨hi14, h⟩ := qIn_of h
                obtain ⟨o15, e_o15, h⟩ := qNm_of h
                refine g_iast (ws' := wM g ad o15) E 35 (wM_35 g ad o13) (by decide) hi14 (by rw [e_o15]; exact wM_s35 g ad o13 _ _) gdX12_hearing_89 ?_
                refine g_aload_n E gdX12_hearing_90 rfl 1 rfl ?_
                refine g_get (T := TX12) E fw_X12 0 (wM_0 g ad o15) rfl 44 (by decide) w_1510 rfl rfl gdX12_hearing_91 ?_
                refine g_iload E gdX12_hearing_94 0 rfl ?_
                refine g_iload_n E gdX12_hearing_96 rfl 4 rfl ?_
                obtain ⟨hi16, h⟩ := qIn_of h
                obtain ⟨o17, e_o17, h⟩ := qNm_of h
                refine g_iast (ws' := wM g ad o17) E 36 (wM_36 g ad o15) (by decide) hi16 (by rw [e_o17]; exact wM_s36 g ad o15 _ _) gdX12_hearing_97 ?_
                refine g_aload_n E gdX12_hearing_98 rfl 1 rfl ?_
                refine g_get (T := TX12) E fw_X12 0 (wM_0 g ad o17) rfl 45 (by decide) w_1511 rfl rfl gdX12_hearing_99 ?_
                refine g_iload E gdX12_hearing_102 0 rfl ?_
                refine g_iload E gdX12_hearing_104 5 rfl ?_
                obtain ⟨hi18, h⟩ := qIn_of h
                obtain ⟨o19, e_o19, h⟩ := qNm_of h
                refine g_iast (ws' := wM g ad o19) E 37 (wM_37 g ad o17) (by decide) hi18 (by rw [e_o19]; exact wM_s37 g ad o17 _ _) gdX12_hearing_106 ?_
                refine g_iload E gdX12_hearing_107 0 rfl ?_
                exact g_iret E hQ (by rw [← Option.some.inj h]) (by rw [← Option.some.inj h]) gdX12_hearing_109
              ·
                refine g_bipush E gdX12_hearing_70 (by decide) ?_
                exact g_iret E hQ (by rw [← Option.some.inj h]) (by rw [← Option.some.inj h]) gdX12_hearing_72
            ·
              refine g_aload_n E gdX12_hearing_55 rfl 0 rfl ?_
              refine g_iconst E gdX12_hearing_56 ?_
              obtain ⟨r20, o22, hc21, h⟩ := qB2_of h
              refine g_Vi (r := r20) (As := [iv 3]) (rest := []) (w := wM g ad o22) E (c_X12_meets l g ad o 3 (r20, o22) hc21) okm_X12_meets okw_X12_meets w_1708 rfl (wM_0 g ad o) rfl rfl (Nat.le_of_ble_eq_true rfl) ⟨Nat.le_of_ble_eq_true rfl, Nat.le_of_ble_eq_true rfl⟩ gdX12_hearing_57 ?_
              exact g_iret E hQ (by rw [← Option.some.inj h]) (by rw [← Option.some.inj h]) gdX12_hearing_60
          ·
            refine g_bipush E gdX12_hearing_44 (by decide) ?_
            exact g_iret E hQ (by rw [← Option.some.inj h]) (by rw [← Option.some.inj h]) gdX12_hearing_46
        ·
          refine g_sub E [] rfl ?_
          exact j33 o h
noncomputable def b_X12_house_32 (o : OO) (y0 : Int) : Option (Int × OO) := some (y0, o)
noncomputable def b_X12_house_31 (o : OO) : Option (Int × OO) := b_X12_house_32 o (-1)
noncomputable def s_X12_house (o : OO) (x1 : Int) (x2 : Int) : Option (Int × OO) := qB (s_X12_isBuilding o x1) (fun r1 => qEq r1 0 (b_X12_house_31 o) (qB (s_X12_in x2 0 5) (fun r3 => qEq r3 0 (b_X12_house_31 o) (qB (s_X12_houseTells o x1 x2) (fun r5 => qB2 (s_X12_ask o r5 1) (fun r7 o9 => b_X12_house_32 o9 r7))))))
set_option maxHeartbeats 4000000 in
set_option maxRecDepth 100000 in
theorem c_X12_house (l : Launch) (g : GG) (ad : Nat → Nat) (o : OO) (x1 : Int) (x2 : Int) (v : Int × OO) (h : s_X12_house o x1 x2 = some v) : CI l g yX12_house cX12_house 3 (some .int) 2 45 (wM g ad o) [.ref (ad 0), iv x1, iv x2] v.1 (wM g ad v.2) := by
  refine met_I (by decide) (Nat.le_of_ble_eq_true rfl) ?_
  intro X E hQ
  show Go X 0 (wM g ad o) [(0, .ref (ad 0)), (1, iv x1), (2, iv x2)] []
  have j32 : ∀ (o : OO) (y0 : Int), b_X12_house_32 o y0 = some v → Go X 32 (wM g ad o) [] [iv y0] := by
    intro o y0 h
    unfold b_X12_house_32 at h
    exact g_iret E hQ (by rw [← Option.some.inj h]) (by rw [← Option.some.inj h]) gdX12_house_32
  have j31 : ∀ (o : OO), b_X12_house_31 o = some v → Go X 31 (wM g ad o) [] [] := by
    intro o h
    unfold b_X12_house_31 at h
    refine g_iconst E gdX12_house_31 ?_
    exact j32 o (-1) h
  unfold s_X12_house at h
  refine g_aload_n E gdX12_house_0 rfl 0 rfl ?_
  refine g_iload_n E gdX12_house_1 rfl 1 rfl ?_
  obtain ⟨r1, hc2, h⟩ := qB_of h
  refine g_Vi (r := r1) (As := [iv x1]) (rest := []) (w := wM g ad o) E (c_X12_isBuilding l g ad o x1 r1 hc2) okm_X12_isBuilding okw_X12_isBuilding w_1811 rfl (wM_0 g ad o) rfl rfl (Nat.le_of_ble_eq_true rfl) ⟨Nat.le_of_ble_eq_true rfl, Nat.le_of_ble_eq_true rfl⟩ gdX12_house_2 ?_
  refine g_if_eq E 31 gdX12_house_5 (by decide) h (fun h => ?_) (fun h => ?_)
  ·
    refine g_sub E [] rfl ?_
    exact j31 o h
  ·
    refine g_iload_n E gdX12_house_8 rfl 2 rfl ?_
    refine g_iconst E gdX12_house_9 ?_
    refine g_iconst E gdX12_house_10 ?_
    obtain ⟨r3, hc4, h⟩ := qB_of h
    refine g_Si (r := r3) (As := [iv x2, iv 0, iv 5]) (rest := []) (w := wM g ad o) E (c_X12_in l g (wM g ad o) x2 0 5 r3 hc4) okm_X12_in w_1706 w_1705 rfl rfl (Nat.le_of_ble_eq_true rfl) ⟨Nat.le_of_ble_eq_true rfl, Nat.le_of_ble_eq_true rfl⟩ gdX12_house_11 ?_
    refine g_if_eq E 31 gdX12_house_14 (by decide) h (fun h => ?_) (fun h => ?_)
    ·
      refine g_sub E [] rfl ?_
      exact j31 o h
    ·
      refine g_aload_n E gdX12_house_17 rfl 0 rfl ?_
      refine g_aload_n E gdX12_house_18 rfl 0 rfl ?_
      refine g_iload_n E gdX12_house_19 rfl 1 rfl ?_
      refine g_iload_n E gdX12_house_20 rfl 2 rfl ?_
      obtain ⟨r5, hc6, h⟩ := qB_of h
      refine g_Vi (r := r5) (As := [iv x1, iv x2]) (rest := [.ref (ad 0)]) (w := wM g ad o) E (c_X12_houseTells l g ad o x1 x2 r5 hc6) okm_X12_houseTells okw_X12_houseTells w_1827 rfl (wM_0 g ad o) rfl rfl (Nat.le_of_ble_eq_true rfl) ⟨Nat.le_of_ble_eq_true rfl, Nat.le_of_ble_eq_true rfl⟩ gdX12_house_21 ?_
      refine g_iconst E gdX12_house_24 ?_
      obtain ⟨r7, o9, hc8, h⟩ := qB2_of h
      refine g_Vi (r := r7) (As := [iv r5, iv 1]) (rest := []) (w := wM g ad o9) E (c_X12_ask l g ad o r5 1 (r7, o9) hc8) okm_X12_ask okw_X12_ask w_1835 rfl (wM_0 g ad o) rfl rfl (Nat.le_of_ble_eq_true rfl) ⟨Nat.le_of_ble_eq_true rfl, Nat.le_of_ble_eq_true rfl⟩ gdX12_house_25 ?_
      refine g_goto E 32 gdX12_house_28 (by decide) ?_
      refine g_sub E [] rfl ?_
      exact j32 o9 r7 h
noncomputable def b_X12_couldCome_124 (o : OO) (x2 : Int) : Option (Int) := some x2
noncomputable def b_X12_couldCome_118 (o : OO) (x1 : Int) (x2 : Int) (x3 : Int) : Option ((Int × Int) ⊕ ((Int))) := some (.inl (x2, x3 + 1))
noncomputable def b_X12_couldCome_116 (o : OO) (x1 : Int) (x3 : Int) (y0 : Int) (y1 : Int) : Option ((Int × Int) ⊕ ((Int))) := qNm (y0 + y1) (fun n1 => b_X12_couldCome_118 o x1 n1 x3)
noncomputable def b_X12_couldCome_115 (o : OO) (x1 : Int) (x3 : Int) (y0 : Int) : Option ((Int × Int) ⊕ ((Int))) := b_X12_couldCome_116 o x1 x3 y0 0
noncomputable def b_X12_couldCome_98 (o : OO) (x1 : Int) (x2 : Int) (x3 : Int) (x4 : Int) (y0 : Int) : Option ((Int × Int) ⊕ ((Int))) := qEq x4 0 (b_X12_couldCome_115 o x1 x3 x2) (qEq y0 0 (b_X12_couldCome_115 o x1 x3 x2) (b_X12_couldCome_116 o x1 x3 x2 1))
noncomputable def b_X12_couldCome_93 (o : OO) (x1 : Int) (x2 : Int) (x3 : Int) (x4 : Int) : Option ((Int × Int) ⊕ ((Int))) := b_X12_couldCome_98 o x1 x2 x3 x4 1
noncomputable def b_X12_couldCome_60 (o : OO) (x1 : Int) (x2 : Int) (x3 : Int) (y0 : Int) : Option ((Int × Int) ⊕ ((Int))) := qIn x3 40 (qNm (o.1 22 x3.toNat) (fun n3 => qLt n3 0 (b_X12_couldCome_93 o x1 x2 x3 y0) (qIn x1 24 (qNm (o.1 36 x1.toNat) (fun n5 => qLt n5 9 (b_X12_couldCome_93 o x1 x2 x3 y0) (qIn x1 24 (qNm (o.1 36 x1.toNat) (fun n7 => qLt 16 n7 (b_X12_couldCome_93 o x1 x2 x3 y0) (b_X12_couldCome_98 o x1 x2 x3 y0 0)))))))))
noncomputable def b_X12_couldCome_55 (o : OO) (x1 : Int) (x2 : Int) (x3 : Int) : Option ((Int × Int) ⊕ ((Int))) := b_X12_couldCome_60 o x1 x2 x3 1
noncomputable def l_X12_couldCome_4 (o : OO) (x1 : Int) (x2 : Int) (x3 : Int) : Option ((Int × Int) ⊕ ((Int))) := qLt x3 (o.1 0 27) (qIn x3 40 (qNm (o.1 21 x3.toNat) (fun n9 => qLt n9 0 (b_X12_couldCome_118 o x1 x2 x3) (qIn x3 40 (qNm (o.1 23 x3.toNat) (fun n11 => qEq n11 0 (qIn x3 40 (qNm (o.1 21 x3.toNat) (fun n13 => qIn n13 32 (qNm (o.1 13 n13.toNat) (fun n15 => qIn x1 24 (qNm (o.1 35 x1.toNat) (fun n17 => qB (s_X12_apart n15 n17) (fun r18 => qLt 6 r18 (b_X12_couldCome_60 o x1 x2 x3 0) (b_X12_couldCome_55 o x1 x2 x3))))))))) (b_X12_couldCome_55 o x1 x2 x3))))))) (some (.inr (x2)))
noncomputable def e_X12_couldCome_4 (o : OO) (x1 : Int) (x2 : Int) (x3 : Int) : Option (Int) := qB (loopW (fun s => l_X12_couldCome_4 o x1 s.1 s.2) (x2, x3)) (fun r => b_X12_couldCome_124 o r)
noncomputable def s_X12_couldCome (o : OO) (x1 : Int) : Option (Int) := e_X12_couldCome_4 o x1 0 0
set_option maxHeartbeats 4000000 in
set_option maxRecDepth 100000 in
theorem c_X12_couldCome (l : Launch) (g : GG) (ad : Nat → Nat) (o : OO) (x1 : Int) (v : Int) (h : s_X12_couldCome o x1 = some v) : CI l g yX12_couldCome cX12_couldCome 6 (some .int) 1 23 (wM g ad o) [.ref (ad 0), iv x1] v (wM g ad o) := by
  refine met_I (by decide) (Nat.le_of_ble_eq_true rfl) ?_
  intro X E hQ
  show Go X 0 (wM g ad o) [(0, .ref (ad 0)), (1, iv x1)] []
  have j124 : ∀ (x2 : Int), b_X12_couldCome_124 o x2 = some v → Go X 124 (wM g ad o) [(2, iv x2)] [] := by
    intro x2 h
    unfold b_X12_couldCome_124 at h
    refine g_iload_n E gdX12_couldCome_124 rfl 0 rfl ?_
    exact g_iret E hQ (Option.some.inj h) rfl gdX12_couldCome_125
  have j118 : ∀ (x1 : Int) (x2 : Int) (x3 : Int) (v : (Int × Int) ⊕ ((Int))), b_X12_couldCome_118 o x1 x2 x3 = some v → (∀ (x2 : Int) (x3 : Int), v = .inl (x2, x3) → Go X 4 (wM g ad o) [(0, .ref (ad 0)), (1, iv x1), (2, iv x2), (3, iv x3)] []) → (∀ (x2 : Int), v = .inr (x2) → Go X 124 (wM g ad o) [(2, iv x2)] []) → Go X 118 (wM g ad o) [(0, .ref (ad 0)), (1, iv x1), (2, iv x2), (3, iv x3)] [] := by
    intro x1 x2 x3 v h k0 k1
    unfold b_X12_couldCome_118 at h
    refine g_iinc E [(3, iv (x3 + 1)), (0, .ref (ad 0)), (1, iv x1), (2, iv x2)] gdX12_couldCome_118 3 rfl (by decide) rfl ?_
    refine g_goto E 4 gdX12_couldCome_121 (by decide) ?_
    refine g_sub E [1, 2, 3, 0] rfl ?_
    exact k0 x2 (x3 + 1) (Option.some.inj h).symm
  have j116 : ∀ (x1 : Int) (x3 : Int) (y0 : Int) (y1 : Int) (v : (Int × Int) ⊕ ((Int))), b_X12_couldCome_116 o x1 x3 y0 y1 = some v → (∀ (x2 : Int) (x3 : Int), v = .inl (x2, x3) → Go X 4 (wM g ad o) [(0, .ref (ad 0)), (1, iv x1), (2, iv x2), (3, iv x3)] []) → (∀ (x2 : Int), v = .inr (x2) → Go X 124 (wM g ad o) [(2, iv x2)] []) → Go X 116 (wM g ad o) [(0, .ref (ad 0)), (1, iv x1), (3, iv x3)] [iv y1, iv y0] := by
    intro x1 x3 y0 y1 v h k0 k1
    unfold b_X12_couldCome_116 at h
    refine g_iadd E gdX12_couldCome_116 ?_
    obtain ⟨n1, e_n1, h⟩ := qNm_of h
    refine g_nmi e_n1 ?_
    refine g_istore_n E [(2, iv n1), (0, .ref (ad 0)), (1, iv x1), (3, iv x3)] gdX12_couldCome_117 rfl (by decide) rfl ?_
    refine g_sub E [1, 2, 0, 3] rfl ?_
    exact j118 x1 n1 x3 v h k0 k1
  have j115 : ∀ (x1 : Int) (x3 : Int) (y0 : Int) (v : (Int × Int) ⊕ ((Int))), b_X12_couldCome_115 o x1 x3 y0 = some v → (∀ (x2 : Int) (x3 : Int), v = .inl (x2, x3) → Go X 4 (wM g ad o) [(0, .ref (ad 0)), (1, iv x1), (2, iv x2), (3, iv x3)] []) → (∀ (x2 : Int), v = .inr (x2) → Go X 124 (wM g ad o) [(2, iv x2)] []) → Go X 115 (wM g ad o) [(0, .ref (ad 0)), (1, iv x1), (3, iv x3)] [iv y0] := by
    intro x1 x3 y0 v h k0 k1
    unfold b_X12_couldCome_115 at h
    refine g_iconst E gdX12_couldCome_115 ?_
    exact j116 x1 x3 y0 0 v h k0 k1
  have j98 : ∀ (x1 : Int) (x2 : Int) (x3 : Int) (x4 : Int) (y0 : Int) (v : (Int × Int) ⊕ ((Int))), b_X12_couldCome_98 o x1 x2 x3 x4 y0 = some v → (∀ (x2 : Int) (x3 : Int), v = .inl (x2, x3) → Go X 4 (wM g ad o) [(0, .ref (ad 0)), (1, iv x1), (2, iv x2), (3, iv x3)] []) → (∀ (x2 : Int), v = .inr (x2) → Go X 124 (wM g ad o) [(2, iv x2)] []) → Go X 98 (wM g ad o) [(0, .ref (ad 0)), (1, iv x1), (2, iv x2), (3, iv x3), (4, iv x4)] [iv y0] := by
    intro x1 x2 x3 x4 y0 v h k0 k1
    unfold b_X12_couldCome_98 at h
    refine g_istore E [(5, iv y0), (0, .ref (ad 0)), (1, iv x1), (2, iv x2), (3, iv x3), (4, iv x4)] gdX12_couldCome_98 (by decide) rfl ?_
    refine g_iload_n E gdX12_couldCome_100 rfl 3 rfl ?_
    refine g_iload E gdX12_couldCome_101 5 rfl ?_
    refine g_if_eq E 115 gdX12_couldCome_103 (by decide) h (fun h => ?_) (fun h => ?_)
    ·
      refine g_sub E [1, 2, 4] rfl ?_
      exact j115 x1 x3 x2 v h k0 k1
    ·
      refine g_iload E gdX12_couldCome_106 0 rfl ?_
      refine g_if_eq E 115 gdX12_couldCome_108 (by decide) h (fun h => ?_) (fun h => ?_)
      ·
        refine g_sub E [1, 2, 4] rfl ?_
        exact j115 x1 x3 x2 v h k0 k1
      ·
        refine g_iconst E gdX12_couldCome_111 ?_
        refine g_goto E 116 gdX12_couldCome_112 (by decide) ?_
        refine g_sub E [1, 2, 4] rfl ?_
        exact j116 x1 x3 x2 1 v h k0 k1
  have j93 : ∀ (x1 : Int) (x2 : Int) (x3 : Int) (x4 : Int) (v : (Int × Int) ⊕ ((Int))), b_X12_couldCome_93 o x1 x2 x3 x4 = some v → (∀ (x2 : Int) (x3 : Int), v = .inl (x2, x3) → Go X 4 (wM g ad o) [(0, .ref (ad 0)), (1, iv x1), (2, iv x2), (3, iv x3)] []) → (∀ (x2 : Int), v = .inr (x2) → Go X 124 (wM g ad o) [(2, iv x2)] []) → Go X 93 (wM g ad o) [(0, .ref (ad 0)), (1, iv x1), (2, iv x2), (3, iv x3), (4, iv x4)] [] := by
    intro x1 x2 x3 x4 v h k0 k1
    unfold b_X12_couldCome_93 at h
    refine g_iconst E gdX12_couldCome_93 ?_
    refine g_goto E 98 gdX12_couldCome_94 (by decide) ?_
    exact j98 x1 x2 x3 x4 1 v h k0 k1
  have j60 : ∀ (x1 : Int) (x2 : Int) (x3 : Int) (y0 : Int) (v : (Int × Int) ⊕ ((Int))), b_X12_couldCome_60 o x1 x2 x3 y0 = some v → (∀ (x2 : Int) (x3 : Int), v = .inl (x2, x3) → Go X 4 (wM g ad o) [(0, .ref (ad 0)), (1, iv x1), (2, iv x2), (3, iv x3)] []) → (∀ (x2 : Int), v = .inr (x2) → Go X 124 (wM g ad o) [(2, iv x2)] []) → Go X 60 (wM g ad o) [(0, .ref (ad 0)), (1, iv x1), (2, iv x2), (3, iv x3)] [iv y0] := by
    intro x1 x2 x3 y0 v h k0 k1
    unfold b_X12_couldCome_60 at h
    refine g_istore E [(4, iv y0), (0, .ref (ad 0)), (1, iv x1), (2, iv x2), (3, iv x3)] gdX12_couldCome_60 (by decide) rfl ?_
    refine g_aload_n E gdX12_couldCome_62 rfl 1 rfl ?_
    refine g_get (T := TX12) E fw_X12 0 (wM_0 g ad o) rfl 29 (by decide) w_1495 rfl rfl gdX12_couldCome_63 ?_
    refine g_iload_n E gdX12_couldCome_66 rfl 4 rfl ?_
    obtain ⟨hi2, h⟩ := qIn_of h
    refine g_iald E 22 (wM_22 g ad o) (by decide) hi2 gdX12_couldCome_67 ?_
    obtain ⟨n3, e_n3, h⟩ := qNm_of h
    refine g_nmi e_n3 ?_
    refine g_if_lt E 93 gdX12_couldCome_68 (by decide) h (fun h => ?_) (fun h => ?_)
    ·
      refine g_sub E [1, 2, 3, 4, 0] rfl ?_
      exact j93 x1 x2 x3 y0 v h k0 k1
    ·
      refine g_aload_n E gdX12_couldCome_71 rfl 1 rfl ?_
      refine g_get (T := TX12) E fw_X12 0 (wM_0 g ad o) rfl 44 (by decide) w_1510 rfl rfl gdX12_couldCome_72 ?_
      refine g_iload_n E gdX12_couldCome_75 rfl 2 rfl ?_
      obtain ⟨hi4, h⟩ := qIn_of h
      refine g_iald E 36 (wM_36 g ad o) (by decide) hi4 gdX12_couldCome_76 ?_
      obtain ⟨n5, e_n5, h⟩ := qNm_of h
      refine g_nmi e_n5 ?_
      refine g_bipush E gdX12_couldCome_77 (by decide) ?_
      refine g_icmp_lt E 93 gdX12_couldCome_79 (by decide) h (fun h => ?_) (fun h => ?_)
      ·
        refine g_sub E [1, 2, 3, 4, 0] rfl ?_
        exact j93 x1 x2 x3 y0 v h k0 k1
      ·
        refine g_aload_n E gdX12_couldCome_82 rfl 1 rfl ?_
        refine g_get (T := TX12) E fw_X12 0 (wM_0 g ad o) rfl 44 (by decide) w_1510 rfl rfl gdX12_couldCome_83 ?_
        refine g_iload_n E gdX12_couldCome_86 rfl 2 rfl ?_
        obtain ⟨hi6, h⟩ := qIn_of h
        refine g_iald E 36 (wM_36 g ad o) (by decide) hi6 gdX12_couldCome_87 ?_
        obtain ⟨n7, e_n7, h⟩ := qNm_of h
        refine g_nmi e_n7 ?_
        refine g_bipush E gdX12_couldCome_88 (by decide) ?_
        refine g_icmp_le E 97 gdX12_couldCome_90 (by decide) h (fun h => ?_) (fun h => ?_)
        ·
          refine g_iconst E gdX12_couldCome_97 ?_
          refine g_sub E [1, 2, 3, 4, 0] rfl ?_
          exact j98 x1 x2 x3 y0 0 v h k0 k1
        ·
          refine g_sub E [1, 2, 3, 4, 0] rfl ?_
          exact j93 x1 x2 x3 y0 v h k0 k1
  have j55 : ∀ (x1 : Int) (x2 : Int) (x3 : Int) (v : (Int × Int) ⊕ ((Int))), b_X12_couldCome_55 o x1 x2 x3 = some v → (∀ (x2 : Int) (x3 : Int), v = .inl (x2, x3) → Go X 4 (wM g ad o) [(0, .ref (ad 0)), (1, iv x1), (2, iv x2), (3, iv x3)] []) → (∀ (x2 : Int), v = .inr (x2) → Go X 124 (wM g ad o) [(2, iv x2)] []) → Go X 55 (wM g ad o) [(0, .ref (ad 0)), (1, iv x1), (2, iv x2), (3, iv x3)] [] := by
    intro x1 x2 x3 v h k0 k1
    unfold b_X12_couldCome_55 at h
    refine g_iconst E gdX12_couldCome_55 ?_
    refine g_goto E 60 gdX12_couldCome_56 (by decide) ?_
    exact j60 x1 x2 x3 1 v h k0 k1
  have l4 : ∀ (x1 : Int) (r : (Int)) (s0 : Int × Int), loopW (fun s => l_X12_couldCome_4 o x1 s.1 s.2) s0 = some r → (∀ (x2 : Int), r = (x2) → Go X 124 (wM g ad o) [(2, iv x2)] []) → Go X 4 (wM g ad o) [(0, .ref (ad 0)), (1, iv x1), (2, iv s0.1), (3, iv s0.2)] [] := by
    intro x1 r s0 h k1
    refine loop_rule (Head := fun s0 => Go X 4 (wM g ad o) [(0, .ref (ad 0)), (1, iv x1), (2, iv s0.1), (3, iv s0.2)] []) h ?_
    intro s v h kk kx
    obtain ⟨x2, x3⟩ := s
    have h : l_X12_couldCome_4 o x1 x2 x3 = some v := h
    have k0 : ∀ (x2 : Int) (x3 : Int), v = .inl (x2, x3) → Go X 4 (wM g ad o) [(0, .ref (ad 0)), (1, iv x1), (2, iv x2), (3, iv x3)] [] := fun x2 x3 e => kk (x2, x3) e
    have k1 : ∀ (x2 : Int), v = .inr (x2) → Go X 124 (wM g ad o) [(2, iv x2)] [] := fun x2 e => k1 x2 (kx _ e).symm
    unfold l_X12_couldCome_4 at h
    refine g_iload_n E gdX12_couldCome_4 rfl 3 rfl ?_
    refine g_aload_n E gdX12_couldCome_5 rfl 0 rfl ?_
    refine g_get (T := TX12) E fw_X12 0 (wM_0 g ad o) rfl 27 (by decide) w_1493 rfl rfl gdX12_couldCome_6 ?_
    refine g_icmp_ge E 124 gdX12_couldCome_9 (by decide) h (fun h => ?_) (fun h => ?_)
    ·
      refine g_sub E [2] rfl ?_
      exact k1 x2 (Option.some.inj h).symm
    ·
      refine g_aload_n E gdX12_couldCome_12 rfl 0 rfl ?_
      refine g_get (T := TX12) E fw_X12 0 (wM_0 g ad o) rfl 28 (by decide) w_1494 rfl rfl gdX12_couldCome_13 ?_
      refine g_iload_n E gdX12_couldCome_16 rfl 3 rfl ?_
      obtain ⟨hi8, h⟩ := qIn_of h
      refine g_iald E 21 (wM_21 g ad o) (by decide) hi8 gdX12_couldCome_17 ?_
      obtain ⟨n9, e_n9, h⟩ := qNm_of h
      refine g_nmi e_n9 ?_
      refine g_if_lt E 118 gdX12_couldCome_18 (by decide) h (fun h => ?_) (fun h => ?_)
      ·
        exact j118 x1 x2 x3 v h k0 k1
      ·
        refine g_aload_n E gdX12_couldCome_21 rfl 0 rfl ?_
        refine g_get (T := TX12) E fw_X12 0 (wM_0 g ad o) rfl 30 (by decide) w_1496 rfl rfl gdX12_couldCome_22 ?_
        refine g_iload_n E gdX12_couldCome_25 rfl 3 rfl ?_
        obtain ⟨hi10, h⟩ := qIn_of h
        refine g_zald E 23 (wM_23 g ad o) (by decide) hi10 gdX12_couldCome_26 ?_
        obtain ⟨n11, e_n11, h⟩ := qNm_of h
        refine g_nmi e_n11 ?_
        refine g_if_ne E 55 gdX12_couldCome_27 (by decide) h (fun h => ?_) (fun h => ?_)
        ·
          exact j55 x1 x2 x3 v h k0 k1
        ·
          refine g_aload_n E gdX12_couldCome_30 rfl 0 rfl ?_
          refine g_get (T := TX12) E fw_X12 0 (wM_0 g ad o) rfl 18 (by decide) w_1484 rfl rfl gdX12_couldCome_31 ?_
          refine g_aload_n E gdX12_couldCome_34 rfl 0 rfl ?_
          refine g_get (T := TX12) E fw_X12 0 (wM_0 g ad o) rfl 28 (by decide) w_1494 rfl rfl gdX12_couldCome_35 ?_
          refine g_iload_n E gdX12_couldCome_38 rfl 3 rfl ?_
          obtain ⟨hi12, h⟩ := qIn_of h
          refine g_iald E 21 (wM_21 g ad o) (by decide) hi12 gdX12_couldCome_39 ?_
          obtain ⟨n13, e_n13, h⟩ := qNm_of h
          refine g_nmi e_n13 ?_
          obtain ⟨hi14, h⟩ := qIn_of h
          refine g_iald E 13 (wM_13 g ad o) (by decide) hi14 gdX12_couldCome_40 ?_
          obtain ⟨n15, e_n15, h⟩ := qNm_of h
          refine g_nmi e_n15 ?_
          refine g_aload_n E gdX12_couldCome_41 rfl 0 rfl ?_
          refine g_get (T := TX12) E fw_X12 0 (wM_0 g ad o) rfl 43 (by decide) w_1509 rfl rfl gdX12_couldCome_42 ?_
          refine g_iload_n E gdX12_couldCome_45 rfl 1 rfl ?_
          obtain ⟨hi16, h⟩ := qIn_of h
          refine g_iald E 35 (wM_35 g ad o) (by decide) hi16 gdX12_couldCome_46 ?_
          obtain ⟨n17, e_n17, h⟩ := qNm_of h
          refine g_nmi e_n17 ?_
          obtain ⟨r18, hc19, h⟩ := qB_of h
          refine g_Si (r := r18) (As := [iv n15, iv n17]) (rest := []) (w := wM g ad o) E (c_X12_apart l g (wM g ad o) n15 n17 r18 hc19) okm_X12_apart w_1912 w_1911 rfl rfl (Nat.le_of_ble_eq_true rfl) ⟨Nat.le_of_ble_eq_true rfl, Nat.le_of_ble_eq_true rfl⟩ gdX12_couldCome_47 ?_
          refine g_bipush E gdX12_couldCome_50 (by decide) ?_
          refine g_icmp_gt E 59 gdX12_couldCome_52 (by decide) h (fun h => ?_) (fun h => ?_)
          ·
            refine g_iconst E gdX12_couldCome_59 ?_
            exact j60 x1 x2 x3 0 v h k0 k1
          ·
            exact j55 x1 x2 x3 v h k0 k1
  have j4 : ∀ (x1 : Int) (x2 : Int) (x3 : Int), e_X12_couldCome_4 o x1 x2 x3 = some v → Go X 4 (wM g ad o) [(0, .ref (ad 0)), (1, iv x1), (2, iv x2), (3, iv x3)] [] := by
    intro x1 x2 x3 h
    unfold e_X12_couldCome_4 at h
    obtain ⟨r, hr, h⟩ := qB_of h
    refine l4 x1 r _ hr ?_
    ·
      intro u0 e
      have e := e.symm
      subst e
      have h : b_X12_couldCome_124 o u0 = some v := h
      exact j124 u0 h
  unfold s_X12_couldCome at h
  refine g_iconst E gdX12_couldCome_0 ?_
  refine g_istore_n E [(2, iv 0), (0, .ref (ad 0)), (1, iv x1)] gdX12_couldCome_1 rfl (by decide) rfl ?_
  refine g_iconst E gdX12_couldCome_2 ?_
  refine g_istore_n E [(3, iv 0), (2, iv 0), (0, .ref (ad 0)), (1, iv x1)] gdX12_couldCome_3 rfl (by decide) rfl ?_
  refine g_sub E [2, 3, 1, 0] rfl ?_
  exact j4 x1 0 0 h
noncomputable def b_X12_isVoidHearing_47 (o : OO) (y0 : Int) : Option (Int) := qZ y0 (some y0)
noncomputable def b_X12_isVoidHearing_42 (o : OO) : Option (Int) := b_X12_isVoidHearing_47 o 1
noncomputable def s_X12_isVoidHearing (o : OO) (x1 : Int) : Option (Int) := qIn x1 24 (qNm (o.1 37 x1.toNat) (fun n2 => qIn x1 24 (qNm (o.1 26 x1.toNat) (fun n4 => qIn x1 24 (qNm (o.1 26 x1.toNat) (fun n6 => qIn x1 24 (qNm (o.1 26 x1.toNat) (fun n8 => qB (s_X12_inForce o 7 n6 n8) (fun r9 => qLt (n2 - n4) r9 (b_X12_isVoidHearing_42 o) (qB (s_X12_couldCome o x1) (fun r11 => qEq r11 0 (b_X12_isVoidHearing_42 o) (b_X12_isVoidHearing_47 o 0))))))))))))
set_option maxHeartbeats 4000000 in
set_option maxRecDepth 100000 in
theorem c_X12_isVoidHearing (l : Launch) (g : GG) (ad : Nat → Nat) (o : OO) (x1 : Int) (v : Int) (h : s_X12_isVoidHearing o x1 = some v) : CI l g yX12_isVoidHearing cX12_isVoidHearing 2 (some .boolean) 2 50 (wM g ad o) [.ref (ad 0), iv x1] v (wM g ad o) := by
  refine met_I (by decide) (Nat.le_of_ble_eq_true rfl) ?_
  intro X E hQ
  show Go X 0 (wM g ad o) [(0, .ref (ad 0)), (1, iv x1)] []
  have j47 : ∀ (y0 : Int), b_X12_isVoidHearing_47 o y0 = some v → Go X 47 (wM g ad o) [] [iv y0] := by
    intro y0 h
    unfold b_X12_isVoidHearing_47 at h
    obtain ⟨hz, h⟩ := qZ_of h
    exact g_zret E hQ hz (Option.some.inj h) rfl gdX12_isVoidHearing_47
  have j42 : b_X12_isVoidHearing_42 o = some v → Go X 42 (wM g ad o) [] [] := by
    intro h
    unfold b_X12_isVoidHearing_42 at h
    refine g_iconst E gdX12_isVoidHearing_42 ?_
    refine g_goto E 47 gdX12_isVoidHearing_43 (by decide) ?_
    exact j47 1 h
  unfold s_X12_isVoidHearing at h
  refine g_aload_n E gdX12_isVoidHearing_0 rfl 0 rfl ?_
  refine g_get (T := TX12) E fw_X12 0 (wM_0 g ad o) rfl 45 (by decide) w_1511 rfl rfl gdX12_isVoidHearing_1 ?_
  refine g_iload_n E gdX12_isVoidHearing_4 rfl 1 rfl ?_
  obtain ⟨hi1, h⟩ := qIn_of h
  refine g_iald E 37 (wM_37 g ad o) (by decide) hi1 gdX12_isVoidHearing_5 ?_
  obtain ⟨n2, e_n2, h⟩ := qNm_of h
  refine g_nmi e_n2 ?_
  refine g_aload_n E gdX12_isVoidHearing_6 rfl 0 rfl ?_
  refine g_get (T := TX12) E fw_X12 0 (wM_0 g ad o) rfl 34 (by decide) w_1500 rfl rfl gdX12_isVoidHearing_7 ?_
  refine g_iload_n E gdX12_isVoidHearing_10 rfl 1 rfl ?_
  obtain ⟨hi3, h⟩ := qIn_of h
  refine g_iald E 26 (wM_26 g ad o) (by decide) hi3 gdX12_isVoidHearing_11 ?_
  obtain ⟨n4, e_n4, h⟩ := qNm_of h
  refine g_nmi e_n4 ?_
  refine g_isub E gdX12_isVoidHearing_12 ?_
  refine g_aload_n E gdX12_isVoidHearing_13 rfl 0 rfl ?_
  refine g_bipush E gdX12_isVoidHearing_14 (by decide) ?_
  refine g_aload_n E gdX12_isVoidHearing_16 rfl 0 rfl ?_
  refine g_get (T := TX12) E fw_X12 0 (wM_0 g ad o) rfl 34 (by decide) w_1500 rfl rfl gdX12_isVoidHearing_17 ?_
  refine g_iload_n E gdX12_isVoidHearing_20 rfl 1 rfl ?_
  obtain ⟨hi5, h⟩ := qIn_of h
  refine g_iald E 26 (wM_26 g ad o) (by decide) hi5 gdX12_isVoidHearing_21 ?_
  obtain ⟨n6, e_n6, h⟩ := qNm_of h
  refine g_nmi e_n6 ?_
  refine g_aload_n E gdX12_isVoidHearing_22 rfl 0 rfl ?_
  refine g_get (T := TX12) E fw_X12 0 (wM_0 g ad o) rfl 34 (by decide) w_1500 rfl rfl gdX12_isVoidHearing_23 ?_
  refine g_iload_n E gdX12_isVoidHearing_26 rfl 1 rfl ?_
  obtain ⟨hi7, h⟩ := qIn_of h
  refine g_iald E 26 (wM_26 g ad o) (by decide) hi7 gdX12_isVoidHearing_27 ?_
  obtain ⟨n8, e_n8, h⟩ := qNm_of h
  refine g_nmi e_n8 ?_
  obtain ⟨r9, hc10, h⟩ := qB_of h
  refine g_Vi (r := r9) (As := [iv 7, iv n6, iv n8]) (rest := [iv (n2 - n4)]) (w := wM g ad o) E (c_X12_inForce l g ad o 7 n6 n8 r9 hc10) okm_X12_inForce okw_X12_inForce w_1772 rfl (wM_0 g ad o) rfl rfl (Nat.le_of_ble_eq_true rfl) ⟨Nat.le_of_ble_eq_true rfl, Nat.le_of_ble_eq_true rfl⟩ gdX12_isVoidHearing_28 ?_
  refine g_icmp_lt E 42 gdX12_isVoidHearing_31 (by decide) h (fun h => ?_) (fun h => ?_)
  ·
    refine g_sub E [] rfl ?_
    exact j42  h
  ·
    refine g_aload_n E gdX12_isVoidHearing_34 rfl 0 rfl ?_
    refine g_iload_n E gdX12_isVoidHearing_35 rfl 1 rfl ?_
    obtain ⟨r11, hc12, h⟩ := qB_of h
    refine g_Vi (r := r11) (As := [iv x1]) (rest := []) (w := wM g ad o) E (c_X12_couldCome l g ad o x1 r11 hc12) okm_X12_couldCome okw_X12_couldCome w_1969 rfl (wM_0 g ad o) rfl rfl (Nat.le_of_ble_eq_true rfl) ⟨Nat.le_of_ble_eq_true rfl, Nat.le_of_ble_eq_true rfl⟩ gdX12_isVoidHearing_36 ?_
    refine g_if_ne E 46 gdX12_isVoidHearing_39 (by decide) h (fun h => ?_) (fun h => ?_)
    ·
      refine g_iconst E gdX12_isVoidHearing_46 ?_
      refine g_sub E [] rfl ?_
      exact j47 0 h
    ·
      refine g_sub E [] rfl ?_
      exact j42  h
noncomputable def b_X12_isVoidTaking_86 (o : OO) (y0 : Int) : Option (Int) := qZ y0 (some y0)
noncomputable def b_X12_isVoidTaking_77 (o : OO) (x2 : Int) : Option (Int) := qEq x2 0 (b_X12_isVoidTaking_86 o 1) (b_X12_isVoidTaking_86 o 0)
noncomputable def b_X12_isVoidTaking_70 (o : OO) (x1 : Int) (x3 : Int) (y0 : Int) : Option ((Int × Int) ⊕ ((Int))) := some (.inl (y0, x3 + 1))
noncomputable def b_X12_isVoidTaking_65 (o : OO) (x1 : Int) (x3 : Int) : Option ((Int × Int) ⊕ ((Int))) := b_X12_isVoidTaking_70 o x1 x3 1
noncomputable def b_X12_isVoidTaking_69 (o : OO) (x1 : Int) (x3 : Int) : Option ((Int × Int) ⊕ ((Int))) := b_X12_isVoidTaking_70 o x1 x3 0
noncomputable def l_X12_isVoidTaking_4 (o : OO) (x1 : Int) (x2 : Int) (x3 : Int) : Option ((Int × Int) ⊕ ((Int))) := qLt x3 (o.1 0 32) (qEq x2 0 (qIn x3 24 (qNm (o.1 25 x3.toNat) (fun n2 => qEq n2 6 (qIn x3 24 (qNm (o.1 27 x3.toNat) (fun n4 => qIn x1 24 (qNm (o.1 27 x1.toNat) (fun n6 => qEq n4 n6 (qIn x3 24 (qNm (o.1 37 x3.toNat) (fun n8 => qIn x1 24 (qNm (o.1 26 x1.toNat) (fun n10 => qLt n10 n8 (b_X12_isVoidTaking_69 o x1 x3) (qB (s_X12_isVoidHearing o x3) (fun r11 => qEq r11 0 (b_X12_isVoidTaking_65 o x1 x3) (b_X12_isVoidTaking_69 o x1 x3)))))))) (b_X12_isVoidTaking_69 o x1 x3)))))) (b_X12_isVoidTaking_69 o x1 x3)))) (b_X12_isVoidTaking_65 o x1 x3)) (some (.inr (x2)))
noncomputable def e_X12_isVoidTaking_4 (o : OO) (x1 : Int) (x2 : Int) (x3 : Int) : Option (Int) := qB (loopW (fun s => l_X12_isVoidTaking_4 o x1 s.1 s.2) (x2, x3)) (fun r => b_X12_isVoidTaking_77 o r)
noncomputable def s_X12_isVoidTaking (o : OO) (x1 : Int) : Option (Int) := e_X12_isVoidTaking_4 o x1 0 0
set_option maxHeartbeats 4000000 in
set_option maxRecDepth 100000 in
theorem c_X12_isVoidTaking (l : Launch) (g : GG) (ad : Nat → Nat) (o : OO) (x1 : Int) (v : Int) (h : s_X12_isVoidTaking o x1 = some v) : CI l g yX12_isVoidTaking cX12_isVoidTaking 4 (some .boolean) 3 71 (wM g ad o) [.ref (ad 0), iv x1] v (wM g ad o) := by
  refine met_I (by decide) (Nat.le_of_ble_eq_true rfl) ?_
  intro X E hQ
  show Go X 0 (wM g ad o) [(0, .ref (ad 0)), (1, iv x1)] []
  have j86 : ∀ (y0 : Int), b_X12_isVoidTaking_86 o y0 = some v → Go X 86 (wM g ad o) [] [iv y0] := by
    intro y0 h
    unfold b_X12_isVoidTaking_86 at h
    obtain ⟨hz, h⟩ := qZ_of h
    exact g_zret E hQ hz (Option.some.inj h) rfl gdX12_isVoidTaking_86
  have j77 : ∀ (x2 : Int), b_X12_isVoidTaking_77 o x2 = some v → Go X 77 (wM g ad o) [(2, iv x2)] [] := by
    intro x2 h
    unfold b_X12_isVoidTaking_77 at h
    refine g_iload_n E gdX12_isVoidTaking_77 rfl 0 rfl ?_
    refine g_if_ne E 85 gdX12_isVoidTaking_78 (by decide) h (fun h => ?_) (fun h => ?_)
    ·
      refine g_iconst E gdX12_isVoidTaking_85 ?_
      refine g_sub E [] rfl ?_
      exact j86 0 h
    ·
      refine g_iconst E gdX12_isVoidTaking_81 ?_
      refine g_goto E 86 gdX12_isVoidTaking_82 (by decide) ?_
      refine g_sub E [] rfl ?_
      exact j86 1 h
  have j70 : ∀ (x1 : Int) (x3 : Int) (y0 : Int) (v : (Int × Int) ⊕ ((Int))), b_X12_isVoidTaking_70 o x1 x3 y0 = some v → (∀ (x2 : Int) (x3 : Int), v = .inl (x2, x3) → Go X 4 (wM g ad o) [(0, .ref (ad 0)), (1, iv x1), (2, iv x2), (3, iv x3)] []) → (∀ (x2 : Int), v = .inr (x2) → Go X 77 (wM g ad o) [(2, iv x2)] []) → Go X 70 (wM g ad o) [(0, .ref (ad 0)), (1, iv x1), (3, iv x3)] [iv y0] := by
    intro x1 x3 y0 v h k0 k1
    unfold b_X12_isVoidTaking_70 at h
    refine g_istore_n E [(2, iv y0), (0, .ref (ad 0)), (1, iv x1), (3, iv x3)] gdX12_isVoidTaking_70 rfl (by decide) rfl ?_
    refine g_iinc E [(3, iv (x3 + 1)), (2, iv y0), (0, .ref (ad 0)), (1, iv x1)] gdX12_isVoidTaking_71 3 rfl (by decide) rfl ?_
    refine g_goto E 4 gdX12_isVoidTaking_74 (by decide) ?_
    refine g_sub E [2, 3, 1, 0] rfl ?_
    exact k0 y0 (x3 + 1) (Option.some.inj h).symm
  have j65 : ∀ (x1 : Int) (x3 : Int) (v : (Int × Int) ⊕ ((Int))), b_X12_isVoidTaking_65 o x1 x3 = some v → (∀ (x2 : Int) (x3 : Int), v = .inl (x2, x3) → Go X 4 (wM g ad o) [(0, .ref (ad 0)), (1, iv x1), (2, iv x2), (3, iv x3)] []) → (∀ (x2 : Int), v = .inr (x2) → Go X 77 (wM g ad o) [(2, iv x2)] []) → Go X 65 (wM g ad o) [(0, .ref (ad 0)), (1, iv x1), (3, iv x3)] [] := by
    intro x1 x3 v h k0 k1
    unfold b_X12_isVoidTaking_65 at h
    refine g_iconst E gdX12_isVoidTaking_65 ?_
    refine g_goto E 70 gdX12_isVoidTaking_66 (by decide) ?_
    exact j70 x1 x3 1 v h k0 k1
  have j69 : ∀ (x1 : Int) (x3 : Int) (v : (Int × Int) ⊕ ((Int))), b_X12_isVoidTaking_69 o x1 x3 = some v → (∀ (x2 : Int) (x3 : Int), v = .inl (x2, x3) → Go X 4 (wM g ad o) [(0, .ref (ad 0)), (1, iv x1), (2, iv x2), (3, iv x3)] []) → (∀ (x2 : Int), v = .inr (x2) → Go X 77 (wM g ad o) [(2, iv x2)] []) → Go X 69 (wM g ad o) [(0, .ref (ad 0)), (1, iv x1), (3, iv x3)] [] := by
    intro x1 x3 v h k0 k1
    unfold b_X12_isVoidTaking_69 at h
    refine g_iconst E gdX12_isVoidTaking_69 ?_
    exact j70 x1 x3 0 v h k0 k1
  have l4 : ∀ (x1 : Int) (r : (Int)) (s0 : Int × Int), loopW (fun s => l_X12_isVoidTaking_4 o x1 s.1 s.2) s0 = some r → (∀ (x2 : Int), r = (x2) → Go X 77 (wM g ad o) [(2, iv x2)] []) → Go X 4 (wM g ad o) [(0, .ref (ad 0)), (1, iv x1), (2, iv s0.1), (3, iv s0.2)] [] := by
    intro x1 r s0 h k1
    refine loop_rule (Head := fun s0 => Go X 4 (wM g ad o) [(0, .ref (ad 0)), (1, iv x1), (2, iv s0.1), (3, iv s0.2)] []) h ?_
    intro s v h kk kx
    obtain ⟨x2, x3⟩ := s
    have h : l_X12_isVoidTaking_4 o x1 x2 x3 = some v := h
    have k0 : ∀ (x2 : Int) (x3 : Int), v = .inl (x2, x3) → Go X 4 (wM g ad o) [(0, .ref (ad 0)), (1, iv x1), (2, iv x2), (3, iv x3)] [] := fun x2 x3 e => kk (x2, x3) e
    have k1 : ∀ (x2 : Int), v = .inr (x2) → Go X 77 (wM g ad o) [(2, iv x2)] [] := fun x2 e => k1 x2 (kx _ e).symm
    unfold l_X12_isVoidTaking_4 at h
    refine g_iload_n E gdX12_isVoidTaking_4 rfl 3 rfl ?_
    refine g_aload_n E gdX12_isVoidTaking_5 rfl 0 rfl ?_
    refine g_get (T := TX12) E fw_X12 0 (wM_0 g ad o) rfl 32 (by decide) w_1498 rfl rfl gdX12_isVoidTaking_6 ?_
    refine g_icmp_ge E 77 gdX12_isVoidTaking_9 (by decide) h (fun h => ?_) (fun h => ?_)
    ·
      refine g_sub E [2] rfl ?_
      exact k1 x2 (Option.some.inj h).symm
    ·
      refine g_iload_n E gdX12_isVoidTaking_12 rfl 2 rfl ?_
      refine g_if_ne E 65 gdX12_isVoidTaking_13 (by decide) h (fun h => ?_) (fun h => ?_)
      ·
        refine g_sub E [0, 1, 3] rfl ?_
        exact j65 x1 x3 v h k0 k1
      ·
        refine g_aload_n E gdX12_isVoidTaking_16 rfl 0 rfl ?_
        refine g_get (T := TX12) E fw_X12 0 (wM_0 g ad o) rfl 33 (by decide) w_1499 rfl rfl gdX12_isVoidTaking_17 ?_
        refine g_iload_n E gdX12_isVoidTaking_20 rfl 3 rfl ?_
        obtain ⟨hi1, h⟩ := qIn_of h
        refine g_iald E 25 (wM_25 g ad o) (by decide) hi1 gdX12_isVoidTaking_21 ?_
        obtain ⟨n2, e_n2, h⟩ := qNm_of h
        refine g_nmi e_n2 ?_
        refine g_bipush E gdX12_isVoidTaking_22 (by decide) ?_
        refine g_icmp_ne E 69 gdX12_isVoidTaking_24 (by decide) h (fun h => ?_) (fun h => ?_)
        ·
          refine g_sub E [0, 1, 3] rfl ?_
          exact j69 x1 x3 v h k0 k1
        ·
          refine g_aload_n E gdX12_isVoidTaking_27 rfl 0 rfl ?_
          refine g_get (T := TX12) E fw_X12 0 (wM_0 g ad o) rfl 35 (by decide) w_1501 rfl rfl gdX12_isVoidTaking_28 ?_
          refine g_iload_n E gdX12_isVoidTaking_31 rfl 3 rfl ?_
          obtain ⟨hi3, h⟩ := qIn_of h
          refine g_iald E 27 (wM_27 g ad o) (by decide) hi3 gdX12_isVoidTaking_32 ?_
          obtain ⟨n4, e_n4, h⟩ := qNm_of h
          refine g_nmi e_n4 ?_
          refine g_aload_n E gdX12_isVoidTaking_33 rfl 0 rfl ?_
          refine g_get (T := TX12) E fw_X12 0 (wM_0 g ad o) rfl 35 (by decide) w_1501 rfl rfl gdX12_isVoidTaking_34 ?_
          refine g_iload_n E gdX12_isVoidTaking_37 rfl 1 rfl ?_
          obtain ⟨hi5, h⟩ := qIn_of h
          refine g_iald E 27 (wM_27 g ad o) (by decide) hi5 gdX12_isVoidTaking_38 ?_
          obtain ⟨n6, e_n6, h⟩ := qNm_of h
          refine g_nmi e_n6 ?_
          refine g_icmp_ne E 69 gdX12_isVoidTaking_39 (by decide) h (fun h => ?_) (fun h => ?_)
          ·
            refine g_sub E [0, 1, 3] rfl ?_
            exact j69 x1 x3 v h k0 k1
          ·
            refine g_aload_n E gdX12_isVoidTaking_42 rfl 0 rfl ?_
            refine g_get (T := TX12) E fw_X12 0 (wM_0 g ad o) rfl 45 (by decide) w_1511 rfl rfl gdX12_isVoidTaking_43 ?_
            refine g_iload_n E gdX12_isVoidTaking_46 rfl 3 rfl ?_
            obtain ⟨hi7, h⟩ := qIn_of h
            refine g_iald E 37 (wM_37 g ad o) (by decide) hi7 gdX12_isVoidTaking_47 ?_
            obtain ⟨n8, e_n8, h⟩ := qNm_of h
            refine g_nmi e_n8 ?_
            refine g_aload_n E gdX12_isVoidTaking_48 rfl 0 rfl ?_
            refine g_get (T := TX12) E fw_X12 0 (wM_0 g ad o) rfl 34 (by decide) w_1500 rfl rfl gdX12_isVoidTaking_49 ?_
            refine g_iload_n E gdX12_isVoidTaking_52 rfl 1 rfl ?_
            obtain ⟨hi9, h⟩ := qIn_of h
            refine g_iald E 26 (wM_26 g ad o) (by decide) hi9 gdX12_isVoidTaking_53 ?_
            obtain ⟨n10, e_n10, h⟩ := qNm_of h
            refine g_nmi e_n10 ?_
            refine g_icmp_gt E 69 gdX12_isVoidTaking_54 (by decide) h (fun h => ?_) (fun h => ?_)
            ·
              refine g_sub E [0, 1, 3] rfl ?_
              exact j69 x1 x3 v h k0 k1
            ·
              refine g_aload_n E gdX12_isVoidTaking_57 rfl 0 rfl ?_
              refine g_iload_n E gdX12_isVoidTaking_58 rfl 3 rfl ?_
              obtain ⟨r11, hc12, h⟩ := qB_of h
              refine g_Vi (r := r11) (As := [iv x3]) (rest := []) (w := wM g ad o) E (c_X12_isVoidHearing l g ad o x3 r11 hc12) okm_X12_isVoidHearing okw_X12_isVoidHearing w_2054 rfl (wM_0 g ad o) rfl rfl (Nat.le_of_ble_eq_true rfl) ⟨Nat.le_of_ble_eq_true rfl, Nat.le_of_ble_eq_true rfl⟩ gdX12_isVoidTaking_59 ?_
              refine g_if_ne E 69 gdX12_isVoidTaking_62 (by decide) h (fun h => ?_) (fun h => ?_)
              ·
                refine g_sub E [0, 1, 3] rfl ?_
                exact j69 x1 x3 v h k0 k1
              ·
                refine g_sub E [0, 1, 3] rfl ?_
                exact j65 x1 x3 v h k0 k1
  have j4 : ∀ (x1 : Int) (x2 : Int) (x3 : Int), e_X12_isVoidTaking_4 o x1 x2 x3 = some v → Go X 4 (wM g ad o) [(0, .ref (ad 0)), (1, iv x1), (2, iv x2), (3, iv x3)] [] := by
    intro x1 x2 x3 h
    unfold e_X12_isVoidTaking_4 at h
    obtain ⟨r, hr, h⟩ := qB_of h
    refine l4 x1 r _ hr ?_
    ·
      intro u0 e
      have e := e.symm
      subst e
      have h : b_X12_isVoidTaking_77 o u0 = some v := h
      exact j77 u0 h
  unfold s_X12_isVoidTaking at h
  refine g_iconst E gdX12_isVoidTaking_0 ?_
  refine g_istore_n E [(2, iv 0), (0, .ref (ad 0)), (1, iv x1)] gdX12_isVoidTaking_1 rfl (by decide) rfl ?_
  refine g_iconst E gdX12_isVoidTaking_2 ?_
  refine g_istore_n E [(3, iv 0), (2, iv 0), (0, .ref (ad 0)), (1, iv x1)] gdX12_isVoidTaking_3 rfl (by decide) rfl ?_
  refine g_sub E [2, 3, 1, 0] rfl ?_
  exact j4 x1 0 0 h
noncomputable def b_X12_isVoid_72 (o : OO) (y0 : Int) : Option (Int × OO) := some (y0, o)
noncomputable def b_X12_isVoid_67 (o : OO) : Option (Int × OO) := b_X12_isVoid_72 o 1
noncomputable def b_X12_isVoid_71 (o : OO) : Option (Int × OO) := b_X12_isVoid_72 o 0
noncomputable def b_X12_isVoid_37 (o : OO) (x1 : Int) : Option (Int × OO) := qIn x1 24 (qNm (o.1 25 x1.toNat) (fun n2 => qEq n2 6 (qB (s_X12_isVoidHearing o x1) (fun r5 => qEq r5 0 (b_X12_isVoid_71 o) (b_X12_isVoid_67 o))) (qB (s_X12_isVoidTaking o x1) (fun r3 => qEq r3 0 (b_X12_isVoid_71 o) (b_X12_isVoid_67 o)))))
noncomputable def s_X12_isVoid (o : OO) (x1 : Int) : Option (Int × OO) := qB (s_X12_isMark o x1) (fun r7 => qEq r7 0 (some ((-1), o)) (qIn x1 24 (qNm (o.1 25 x1.toNat) (fun n10 => qEq n10 6 (b_X12_isVoid_37 o x1) (qIn x1 24 (qNm (o.1 25 x1.toNat) (fun n12 => qEq n12 3 (b_X12_isVoid_37 o x1) (qB2 (s_X12_meets o 3) (fun r13 o15 => some (r13, o15))))))))))
set_option maxHeartbeats 4000000 in
set_option maxRecDepth 100000 in
theorem c_X12_isVoid (l : Launch) (g : GG) (ad : Nat → Nat) (o : OO) (x1 : Int) (v : Int × OO) (h : s_X12_isVoid o x1 = some v) : CI l g yX12_isVoid cX12_isVoid 2 (some .int) 4 94 (wM g ad o) [.ref (ad 0), iv x1] v.1 (wM g ad v.2) := by
  refine met_I (by decide) (Nat.le_of_ble_eq_true rfl) ?_
  intro X E hQ
  show Go X 0 (wM g ad o) [(0, .ref (ad 0)), (1, iv x1)] []
  have j72 : ∀ (o : OO) (y0 : Int), b_X12_isVoid_72 o y0 = some v → Go X 72 (wM g ad o) [] [iv y0] := by
    intro o y0 h
    unfold b_X12_isVoid_72 at h
    exact g_iret E hQ (by rw [← Option.some.inj h]) (by rw [← Option.some.inj h]) gdX12_isVoid_72
  have j67 : ∀ (o : OO), b_X12_isVoid_67 o = some v → Go X 67 (wM g ad o) [] [] := by
    intro o h
    unfold b_X12_isVoid_67 at h
    refine g_iconst E gdX12_isVoid_67 ?_
    refine g_goto E 72 gdX12_isVoid_68 (by decide) ?_
    exact j72 o 1 h
  have j71 : ∀ (o : OO), b_X12_isVoid_71 o = some v → Go X 71 (wM g ad o) [] [] := by
    intro o h
    unfold b_X12_isVoid_71 at h
    refine g_iconst E gdX12_isVoid_71 ?_
    exact j72 o 0 h
  have j37 : ∀ (o : OO) (x1 : Int), b_X12_isVoid_37 o x1 = some v → Go X 37 (wM g ad o) [(0, .ref (ad 0)), (1, iv x1)] [] := by
    intro o x1 h
    unfold b_X12_isVoid_37 at h
    refine g_aload_n E gdX12_isVoid_37 rfl 0 rfl ?_
    refine g_get (T := TX12) E fw_X12 0 (wM_0 g ad o) rfl 33 (by decide) w_1499 rfl rfl gdX12_isVoid_38 ?_
    refine g_iload_n E gdX12_isVoid_41 rfl 1 rfl ?_
    obtain ⟨hi1, h⟩ := qIn_of h
    refine g_iald E 25 (wM_25 g ad o) (by decide) hi1 gdX12_isVoid_42 ?_
    obtain ⟨n2, e_n2, h⟩ := qNm_of h
    refine g_nmi e_n2 ?_
    refine g_bipush E gdX12_isVoid_43 (by decide) ?_
    refine g_icmp_ne E 59 gdX12_isVoid_45 (by decide) h (fun h => ?_) (fun h => ?_)
    ·
      refine g_aload_n E gdX12_isVoid_59 rfl 0 rfl ?_
      refine g_iload_n E gdX12_isVoid_60 rfl 1 rfl ?_
      obtain ⟨r3, hc4, h⟩ := qB_of h
      refine g_Vi (r := r3) (As := [iv x1]) (rest := []) (w := wM g ad o) E (c_X12_isVoidTaking l g ad o x1 r3 hc4) okm_X12_isVoidTaking okw_X12_isVoidTaking w_2058 rfl (wM_0 g ad o) rfl rfl (Nat.le_of_ble_eq_true rfl) ⟨Nat.le_of_ble_eq_true rfl, Nat.le_of_ble_eq_true rfl⟩ gdX12_isVoid_61 ?_
      refine g_if_eq E 71 gdX12_isVoid_64 (by decide) h (fun h => ?_) (fun h => ?_)
      ·
        refine g_sub E [] rfl ?_
        exact j71 o h
      ·
        refine g_sub E [] rfl ?_
        exact j67 o h
    ·
      refine g_aload_n E gdX12_isVoid_48 rfl 0 rfl ?_
      refine g_iload_n E gdX12_isVoid_49 rfl 1 rfl ?_
      obtain ⟨r5, hc6, h⟩ := qB_of h
      refine g_Vi (r := r5) (As := [iv x1]) (rest := []) (w := wM g ad o) E (c_X12_isVoidHearing l g ad o x1 r5 hc6) okm_X12_isVoidHearing okw_X12_isVoidHearing w_2054 rfl (wM_0 g ad o) rfl rfl (Nat.le_of_ble_eq_true rfl) ⟨Nat.le_of_ble_eq_true rfl, Nat.le_of_ble_eq_true rfl⟩ gdX12_isVoid_50 ?_
      refine g_if_eq E 71 gdX12_isVoid_53 (by decide) h (fun h => ?_) (fun h => ?_)
      ·
        refine g_sub E [] rfl ?_
        exact j71 o h
      ·
        refine g_goto E 67 gdX12_isVoid_56 (by decide) ?_
        refine g_sub E [] rfl ?_
        exact j67 o h
  unfold s_X12_isVoid at h
  refine g_aload_n E gdX12_isVoid_0 rfl 0 rfl ?_
  refine g_iload_n E gdX12_isVoid_1 rfl 1 rfl ?_
  obtain ⟨r7, hc8, h⟩ := qB_of h
  refine g_Vi (r := r7) (As := [iv x1]) (rest := []) (w := wM g ad o) E (c_X12_isMark l g ad o x1 r7 hc8) okm_X12_isMark okw_X12_isMark w_1903 rfl (wM_0 g ad o) rfl rfl (Nat.le_of_ble_eq_true rfl) ⟨Nat.le_of_ble_eq_true rfl, Nat.le_of_ble_eq_true rfl⟩ gdX12_isVoid_2 ?_
  refine g_if_ne E 10 gdX12_isVoid_5 (by decide) h (fun h => ?_) (fun h => ?_)
  ·
    refine g_aload_n E gdX12_isVoid_10 rfl 0 rfl ?_
    refine g_get (T := TX12) E fw_X12 0 (wM_0 g ad o) rfl 33 (by decide) w_1499 rfl rfl gdX12_isVoid_11 ?_
    refine g_iload_n E gdX12_isVoid_14 rfl 1 rfl ?_
    obtain ⟨hi9, h⟩ := qIn_of h
    refine g_iald E 25 (wM_25 g ad o) (by decide) hi9 gdX12_isVoid_15 ?_
    obtain ⟨n10, e_n10, h⟩ := qNm_of h
    refine g_nmi e_n10 ?_
    refine g_bipush E gdX12_isVoid_16 (by decide) ?_
    refine g_icmp_eq E 37 gdX12_isVoid_18 (by decide) h (fun h => ?_) (fun h => ?_)
    ·
      exact j37 o x1 h
    ·
      refine g_aload_n E gdX12_isVoid_21 rfl 0 rfl ?_
      refine g_get (T := TX12) E fw_X12 0 (wM_0 g ad o) rfl 33 (by decide) w_1499 rfl rfl gdX12_isVoid_22 ?_
      refine g_iload_n E gdX12_isVoid_25 rfl 1 rfl ?_
      obtain ⟨hi11, h⟩ := qIn_of h
      refine g_iald E 25 (wM_25 g ad o) (by decide) hi11 gdX12_isVoid_26 ?_
      obtain ⟨n12, e_n12, h⟩ := qNm_of h
      refine g_nmi e_n12 ?_
      refine g_iconst E gdX12_isVoid_27 ?_
      refine g_icmp_eq E 37 gdX12_isVoid_28 (by decide) h (fun h => ?_) (fun h => ?_)
      ·
        exact j37 o x1 h
      ·
        refine g_aload_n E gdX12_isVoid_31 rfl 0 rfl ?_
        refine g_iconst E gdX12_isVoid_32 ?_
        obtain ⟨r13, o15, hc14, h⟩ := qB2_of h
        refine g_Vi (r := r13) (As := [iv 3]) (rest := []) (w := wM g ad o15) E (c_X12_meets l g ad o 3 (r13, o15) hc14) okm_X12_meets okw_X12_meets w_1708 rfl (wM_0 g ad o) rfl rfl (Nat.le_of_ble_eq_true rfl) ⟨Nat.le_of_ble_eq_true rfl, Nat.le_of_ble_eq_true rfl⟩ gdX12_isVoid_33 ?_
        exact g_iret E hQ (by rw [← Option.some.inj h]) (by rw [← Option.some.inj h]) gdX12_isVoid_36
  ·
    refine g_iconst E gdX12_isVoid_8 ?_
    exact g_iret E hQ (by rw [← Option.some.inj h]) (by rw [← Option.some.inj h]) gdX12_isVoid_9
noncomputable def b_X12_judge_22 (o : OO) : Option (Int × OO) := some ((-1), o)
noncomputable def b_X12_judge_68 (o : OO) (y0 : Int) : Option (Int × OO) := some (y0, o)
noncomputable def s_X12_judge (o : OO) (x1 : Int) (x2 : Int) (x3 : Int) : Option (Int × OO) := qB (s_X12_isMark o x1) (fun r1 => qEq r1 0 (b_X12_judge_22 o) (qB (s_X12_isRow x2) (fun r3 => qEq r3 0 (b_X12_judge_22 o) (qB (s_X12_isRow x3) (fun r5 => qEq r5 0 (b_X12_judge_22 o) (qB (s_X12_isLine o x1) (fun r7 => qEq r7 0 (qB2 (s_X12_meets o 3) (fun r17 o19 => some (r17, o19))) (qB2 (s_X12_askedWeights o x2 x3) (fun r9 o11 => qLt r9 0 (b_X12_judge_68 o11 r9) (qB (s_X12_judged o11 x1 x2 x3) (fun r12 => qB2 (s_X12_ask o11 r12 1) (fun r14 o16 => b_X12_judge_68 o16 r14))))))))))))
set_option maxHeartbeats 4000000 in
set_option maxRecDepth 100000 in
theorem c_X12_judge (l : Launch) (g : GG) (ad : Nat → Nat) (o : OO) (x1 : Int) (x2 : Int) (x3 : Int) (v : Int × OO) (h : s_X12_judge o x1 x2 x3 = some v) : CI l g yX12_judge cX12_judge 5 (some .int) 5 125 (wM g ad o) [.ref (ad 0), iv x1, iv x2, iv x3] v.1 (wM g ad v.2) := by
  refine met_I (by decide) (Nat.le_of_ble_eq_true rfl) ?_
  intro X E hQ
  show Go X 0 (wM g ad o) [(0, .ref (ad 0)), (1, iv x1), (2, iv x2), (3, iv x3)] []
  have j22 : ∀ (o : OO), b_X12_judge_22 o = some v → Go X 22 (wM g ad o) [] [] := by
    intro o h
    unfold b_X12_judge_22 at h
    refine g_iconst E gdX12_judge_22 ?_
    exact g_iret E hQ (by rw [← Option.some.inj h]) (by rw [← Option.some.inj h]) gdX12_judge_23
  have j68 : ∀ (o : OO) (y0 : Int), b_X12_judge_68 o y0 = some v → Go X 68 (wM g ad o) [] [iv y0] := by
    intro o y0 h
    unfold b_X12_judge_68 at h
    exact g_iret E hQ (by rw [← Option.some.inj h]) (by rw [← Option.some.inj h]) gdX12_judge_68
  unfold s_X12_judge at h
  refine g_aload_n E gdX12_judge_0 rfl 0 rfl ?_
  refine g_iload_n E gdX12_judge_1 rfl 1 rfl ?_
  obtain ⟨r1, hc2, h⟩ := qB_of h
  refine g_Vi (r := r1) (As := [iv x1]) (rest := []) (w := wM g ad o) E (c_X12_isMark l g ad o x1 r1 hc2) okm_X12_isMark okw_X12_isMark w_1903 rfl (wM_0 g ad o) rfl rfl (Nat.le_of_ble_eq_true rfl) ⟨Nat.le_of_ble_eq_true rfl, Nat.le_of_ble_eq_true rfl⟩ gdX12_judge_2 ?_
  refine g_if_eq E 22 gdX12_judge_5 (by decide) h (fun h => ?_) (fun h => ?_)
  ·
    refine g_sub E [] rfl ?_
    exact j22 o h
  ·
    refine g_iload_n E gdX12_judge_8 rfl 2 rfl ?_
    obtain ⟨r3, hc4, h⟩ := qB_of h
    refine g_Si (r := r3) (As := [iv x2]) (rest := []) (w := wM g ad o) E (c_X12_isRow l g (wM g ad o) x2 r3 hc4) okm_X12_isRow w_1703 w_1702 rfl rfl (Nat.le_of_ble_eq_true rfl) ⟨Nat.le_of_ble_eq_true rfl, Nat.le_of_ble_eq_true rfl⟩ gdX12_judge_9 ?_
    refine g_if_eq E 22 gdX12_judge_12 (by decide) h (fun h => ?_) (fun h => ?_)
    ·
      refine g_sub E [] rfl ?_
      exact j22 o h
    ·
      refine g_iload_n E gdX12_judge_15 rfl 3 rfl ?_
      obtain ⟨r5, hc6, h⟩ := qB_of h
      refine g_Si (r := r5) (As := [iv x3]) (rest := []) (w := wM g ad o) E (c_X12_isRow l g (wM g ad o) x3 r5 hc6) okm_X12_isRow w_1703 w_1702 rfl rfl (Nat.le_of_ble_eq_true rfl) ⟨Nat.le_of_ble_eq_true rfl, Nat.le_of_ble_eq_true rfl⟩ gdX12_judge_16 ?_
      refine g_if_ne E 24 gdX12_judge_19 (by decide) h (fun h => ?_) (fun h => ?_)
      ·
        refine g_aload_n E gdX12_judge_24 rfl 0 rfl ?_
        refine g_iload_n E gdX12_judge_25 rfl 1 rfl ?_
        obtain ⟨r7, hc8, h⟩ := qB_of h
        refine g_Vi (r := r7) (As := [iv x1]) (rest := []) (w := wM g ad o) E (c_X12_isLine l g ad o x1 r7 hc8) okm_X12_isLine okw_X12_isLine w_1907 rfl (wM_0 g ad o) rfl rfl (Nat.le_of_ble_eq_true rfl) ⟨Nat.le_of_ble_eq_true rfl, Nat.le_of_ble_eq_true rfl⟩ gdX12_judge_26 ?_
        refine g_if_ne E 38 gdX12_judge_29 (by decide) h (fun h => ?_) (fun h => ?_)
        ·
          refine g_aload_n E gdX12_judge_38 rfl 0 rfl ?_
          refine g_iload_n E gdX12_judge_39 rfl 2 rfl ?_
          refine g_iload_n E gdX12_judge_40 rfl 3 rfl ?_
          obtain ⟨r9, o11, hc10, h⟩ := qB2_of h
          refine g_Vi (r := r9) (As := [iv x2, iv x3]) (rest := []) (w := wM g ad o11) E (c_X12_askedWeights l g ad o x2 x3 (r9, o11) hc10) okm_X12_askedWeights okw_X12_askedWeights w_2110 rfl (wM_0 g ad o) rfl rfl (Nat.le_of_ble_eq_true rfl) ⟨Nat.le_of_ble_eq_true rfl, Nat.le_of_ble_eq_true rfl⟩ gdX12_judge_41 ?_
          refine g_istore E [(4, iv r9), (0, .ref (ad 0)), (1, iv x1), (2, iv x2), (3, iv x3)] gdX12_judge_44 (by decide) rfl ?_
          refine g_iload E gdX12_judge_46 0 rfl ?_
          refine g_if_ge E 56 gdX12_judge_48 (by decide) h (fun h => ?_) (fun h => ?_)
          ·
            refine g_aload_n E gdX12_judge_56 rfl 1 rfl ?_
            refine g_aload_n E gdX12_judge_57 rfl 1 rfl ?_
            refine g_iload_n E gdX12_judge_58 rfl 2 rfl ?_
            refine g_iload_n E gdX12_judge_59 rfl 3 rfl ?_
            refine g_iload_n E gdX12_judge_60 rfl 4 rfl ?_
            obtain ⟨r12, hc13, h⟩ := qB_of h
            refine g_Vi (r := r12) (As := [iv x1, iv x2, iv x3]) (rest := [.ref (ad 0)]) (w := wM g ad o11) E (c_X12_judged l g ad o11 x1 x2 x3 r12 hc13) okm_X12_judged okw_X12_judged w_2114 rfl (wM_0 g ad o11) rfl rfl (Nat.le_of_ble_eq_true rfl) ⟨Nat.le_of_ble_eq_true rfl, Nat.le_of_ble_eq_true rfl⟩ gdX12_judge_61 ?_
            refine g_iconst E gdX12_judge_64 ?_
            obtain ⟨r14, o16, hc15, h⟩ := qB2_of h
            refine g_Vi (r := r14) (As := [iv r12, iv 1]) (rest := []) (w := wM g ad o16) E (c_X12_ask l g ad o11 r12 1 (r14, o16) hc15) okm_X12_ask okw_X12_ask w_1835 rfl (wM_0 g ad o11) rfl rfl (Nat.le_of_ble_eq_true rfl) ⟨Nat.le_of_ble_eq_true rfl, Nat.le_of_ble_eq_true rfl⟩ gdX12_judge_65 ?_
            refine g_sub E [] rfl ?_
            exact j68 o16 r14 h
          ·
            refine g_iload E gdX12_judge_51 0 rfl ?_
            refine g_goto E 68 gdX12_judge_53 (by decide) ?_
            refine g_sub E [] rfl ?_
            exact j68 o11 r9 h
        ·
          refine g_aload_n E gdX12_judge_32 rfl 0 rfl ?_
          refine g_iconst E gdX12_judge_33 ?_
          obtain ⟨r17, o19, hc18, h⟩ := qB2_of h
          refine g_Vi (r := r17) (As := [iv 3]) (rest := []) (w := wM g ad o19) E (c_X12_meets l g ad o 3 (r17, o19) hc18) okm_X12_meets okw_X12_meets w_1708 rfl (wM_0 g ad o) rfl rfl (Nat.le_of_ble_eq_true rfl) ⟨Nat.le_of_ble_eq_true rfl, Nat.le_of_ble_eq_true rfl⟩ gdX12_judge_34 ?_
          exact g_iret E hQ (by rw [← Option.some.inj h]) (by rw [← Option.some.inj h]) gdX12_judge_37
      ·
        refine g_sub E [] rfl ?_
        exact j22 o h
noncomputable def b_X12_later_16 (o : OO) : Option (Int × OO) := some ((-1), o)
noncomputable def s_X12_later (o : OO) (x1 : Int) : Option (Int × OO) := qLt x1 0 (b_X12_later_16 o) (qLt (999 - (o.1 0 4)) x1 (b_X12_later_16 o) (qNm (st1 o 0 4 ((o.1 0 4) + x1)) (fun o1 => some (o1.1 0 4, o1))))
set_option maxHeartbeats 4000000 in
set_option maxRecDepth 100000 in
theorem c_X12_later (l : Launch) (g : GG) (ad : Nat → Nat) (o : OO) (x1 : Int) (v : Int × OO) (h : s_X12_later o x1 = some v) : CI l g yX12_later cX12_later 2 (some .int) 0 0 (wM g ad o) [.ref (ad 0), iv x1] v.1 (wM g ad v.2) := by
  refine met_I (by decide) (Nat.le_of_ble_eq_true rfl) ?_
  intro X E hQ
  show Go X 0 (wM g ad o) [(0, .ref (ad 0)), (1, iv x1)] []
  have j16 : ∀ (o : OO), b_X12_later_16 o = some v → Go X 16 (wM g ad o) [] [] := by
    intro o h
    unfold b_X12_later_16 at h
    refine g_iconst E gdX12_later_16 ?_
    exact g_iret E hQ (by rw [← Option.some.inj h]) (by rw [← Option.some.inj h]) gdX12_later_17
  unfold s_X12_later at h
  refine g_iload_n E gdX12_later_0 rfl 1 rfl ?_
  refine g_if_lt E 16 gdX12_later_1 (by decide) h (fun h => ?_) (fun h => ?_)
  ·
    refine g_sub E [] rfl ?_
    exact j16 o h
  ·
    refine g_iload_n E gdX12_later_4 rfl 1 rfl ?_
    refine g_sipush E gdX12_later_5 (by decide) ?_
    refine g_aload_n E gdX12_later_8 rfl 0 rfl ?_
    refine g_get (T := TX12) E fw_X12 0 (wM_0 g ad o) rfl 4 (by decide) w_1470 rfl rfl gdX12_later_9 ?_
    refine g_isub E gdX12_later_12 ?_
    refine g_icmp_le E 18 gdX12_later_13 (by decide) h (fun h => ?_) (fun h => ?_)
    ·
      refine g_aload_n E gdX12_later_18 rfl 0 rfl ?_
      refine g_dup E gdX12_later_19 rfl ?_
      refine g_get (T := TX12) E fw_X12 0 (wM_0 g ad o) rfl 4 (by decide) w_1470 rfl rfl gdX12_later_20 ?_
      refine g_iload_n E gdX12_later_23 rfl 1 rfl ?_
      refine g_iadd E gdX12_later_24 ?_
      obtain ⟨o1, e_o1, h⟩ := qNm_of h
      refine g_puti (T := TX12) (ws' := wM g ad o1) E fw_X12 tyX12 tyX12_ok nmX12 0 (wM_0 g ad o) rfl 4 (by decide) w_1470 rfl rfl (by decide +kernel) (Nat.le_of_ble_eq_true rfl) (by rw [e_o1]; exact wM_p0_4 g ad o _) gdX12_later_25 ?_
      refine g_aload_n E gdX12_later_28 rfl 0 rfl ?_
      refine g_get (T := TX12) E fw_X12 0 (wM_0 g ad o1) rfl 4 (by decide) w_1470 rfl rfl gdX12_later_29 ?_
      exact g_iret E hQ (by rw [← Option.some.inj h]) (by rw [← Option.some.inj h]) gdX12_later_32
    ·
      refine g_sub E [] rfl ?_
      exact j16 o h
noncomputable def s_X12_lay (o : OO) (x1 : Int) (x2 : Int) (x3 : Int) : Option (Int × OO) := qB2 (s_X12_askedRow o x1) (fun r1 o3 => qLt r1 0 (some (r1, o3)) (qIn x1 6 (qNm (o3.1 2 x1.toNat) (fun n5 => qB (s_X12_in x2 0 (n5 - 1)) (fun r6 => qEq r6 0 (qB2 (s_X12_meets o3 2) (fun r13 o15 => some (r13, o15))) (qIn ((40 * x1) + x2) 240 (qNm (o3.1 3 ((40 * x1) + x2).toNat) (fun n9 => qNm (st1 o3 0 2 n9) (fun o10 => qIn ((40 * x1) + x2) 240 (qNm (st1 o10 3 (((40 * x1) + x2).toNat) x3) (fun o12 => some (1, o12))))))))))))
set_option maxHeartbeats 4000000 in
set_option maxRecDepth 100000 in
theorem c_X12_lay (l : Launch) (g : GG) (ad : Nat → Nat) (o : OO) (x1 : Int) (x2 : Int) (x3 : Int) (v : Int × OO) (h : s_X12_lay o x1 x2 x3 = some v) : CI l g yX12_lay cX12_lay 5 (some .int) 3 63 (wM g ad o) [.ref (ad 0), iv x1, iv x2, iv x3] v.1 (wM g ad v.2) := by
  refine met_I (by decide) (Nat.le_of_ble_eq_true rfl) ?_
  intro X E hQ
  show Go X 0 (wM g ad o) [(0, .ref (ad 0)), (1, iv x1), (2, iv x2), (3, iv x3)] []
  unfold s_X12_lay at h
  refine g_aload_n E gdX12_lay_0 rfl 0 rfl ?_
  refine g_iload_n E gdX12_lay_1 rfl 1 rfl ?_
  obtain ⟨r1, o3, hc2, h⟩ := qB2_of h
  refine g_Vi (r := r1) (As := [iv x1]) (rest := []) (w := wM g ad o3) E (c_X12_askedRow l g ad o x1 (r1, o3) hc2) okm_X12_askedRow okw_X12_askedRow w_1716 rfl (wM_0 g ad o) rfl rfl (Nat.le_of_ble_eq_true rfl) ⟨Nat.le_of_ble_eq_true rfl, Nat.le_of_ble_eq_true rfl⟩ gdX12_lay_2 ?_
  refine g_istore E [(4, iv r1), (0, .ref (ad 0)), (1, iv x1), (2, iv x2), (3, iv x3)] gdX12_lay_5 (by decide) rfl ?_
  refine g_iload E gdX12_lay_7 0 rfl ?_
  refine g_if_ge E 15 gdX12_lay_9 (by decide) h (fun h => ?_) (fun h => ?_)
  ·
    refine g_iload_n E gdX12_lay_15 rfl 3 rfl ?_
    refine g_iconst E gdX12_lay_16 ?_
    refine g_aload_n E gdX12_lay_17 rfl 1 rfl ?_
    refine g_get (T := TX12) E fw_X12 0 (wM_0 g ad o3) rfl 5 (by decide) w_1471 rfl rfl gdX12_lay_18 ?_
    refine g_iload_n E gdX12_lay_21 rfl 2 rfl ?_
    obtain ⟨hi4, h⟩ := qIn_of h
    refine g_iald E 2 (wM_2 g ad o3) (by decide) hi4 gdX12_lay_22 ?_
    obtain ⟨n5, e_n5, h⟩ := qNm_of h
    refine g_nmi e_n5 ?_
    refine g_iconst E gdX12_lay_23 ?_
    refine g_isub E gdX12_lay_24 ?_
    obtain ⟨r6, hc7, h⟩ := qB_of h
    refine g_Si (r := r6) (As := [iv x2, iv 0, iv (n5 - 1)]) (rest := []) (w := wM g ad o3) E (c_X12_in l g (wM g ad o3) x2 0 (n5 - 1) r6 hc7) okm_X12_in w_1706 w_1705 rfl rfl (Nat.le_of_ble_eq_true rfl) ⟨Nat.le_of_ble_eq_true rfl, Nat.le_of_ble_eq_true rfl⟩ gdX12_lay_25 ?_
    refine g_if_ne E 37 gdX12_lay_28 (by decide) h (fun h => ?_) (fun h => ?_)
    ·
      refine g_aload_n E gdX12_lay_37 rfl 1 rfl ?_
      refine g_aload_n E gdX12_lay_38 rfl 1 rfl ?_
      refine g_get (T := TX12) E fw_X12 0 (wM_0 g ad o3) rfl 6 (by decide) w_1472 rfl rfl gdX12_lay_39 ?_
      refine g_bipush E gdX12_lay_42 (by decide) ?_
      refine g_iload_n E gdX12_lay_44 rfl 2 rfl ?_
      refine g_imul E gdX12_lay_45 ?_
      refine g_iload_n E gdX12_lay_46 rfl 3 rfl ?_
      refine g_iadd E gdX12_lay_47 ?_
      obtain ⟨hi8, h⟩ := qIn_of h
      refine g_iald E 3 (wM_3 g ad o3) (by decide) hi8 gdX12_lay_48 ?_
      obtain ⟨n9, e_n9, h⟩ := qNm_of h
      refine g_nmi e_n9 ?_
      obtain ⟨o10, e_o10, h⟩ := qNm_of h
      refine g_puti (T := TX12) (ws' := wM g ad o10) E fw_X12 tyX12 tyX12_ok nmX12 0 (wM_0 g ad o3) rfl 2 (by decide) w_1468 rfl rfl (by decide +kernel) (Nat.le_of_ble_eq_true rfl) (by rw [e_o10]; exact wM_p0_2 g ad o3 _) gdX12_lay_49 ?_
      refine g_aload_n E gdX12_lay_52 rfl 1 rfl ?_
      refine g_get (T := TX12) E fw_X12 0 (wM_0 g ad o10) rfl 6 (by decide) w_1472 rfl rfl gdX12_lay_53 ?_
      refine g_bipush E gdX12_lay_56 (by decide) ?_
      refine g_iload_n E gdX12_lay_58 rfl 2 rfl ?_
      refine g_imul E gdX12_lay_59 ?_
      refine g_iload_n E gdX12_lay_60 rfl 3 rfl ?_
      refine g_iadd E gdX12_lay_61 ?_
      refine g_iload_n E gdX12_lay_62 rfl 4 rfl ?_
      obtain ⟨hi11, h⟩ := qIn_of h
      obtain ⟨o12, e_o12, h⟩ := qNm_of h
      refine g_iast (ws' := wM g ad o12) E 3 (wM_3 g ad o10) (by decide) hi11 (by rw [e_o12]; exact wM_s3 g ad o10 _ _) gdX12_lay_63 ?_
      refine g_iconst E gdX12_lay_64 ?_
      exact g_iret E hQ (by rw [← Option.some.inj h]) (by rw [← Option.some.inj h]) gdX12_lay_65
    ·
      refine g_aload_n E gdX12_lay_31 rfl 1 rfl ?_
      refine g_iconst E gdX12_lay_32 ?_
      obtain ⟨r13, o15, hc14, h⟩ := qB2_of h
      refine g_Vi (r := r13) (As := [iv 2]) (rest := []) (w := wM g ad o15) E (c_X12_meets l g ad o3 2 (r13, o15) hc14) okm_X12_meets okw_X12_meets w_1708 rfl (wM_0 g ad o3) rfl rfl (Nat.le_of_ble_eq_true rfl) ⟨Nat.le_of_ble_eq_true rfl, Nat.le_of_ble_eq_true rfl⟩ gdX12_lay_33 ?_
      exact g_iret E hQ (by rw [← Option.some.inj h]) (by rw [← Option.some.inj h]) gdX12_lay_36
  ·
    refine g_iload E gdX12_lay_12 0 rfl ?_
    exact g_iret E hQ (by rw [← Option.some.inj h]) (by rw [← Option.some.inj h]) gdX12_lay_14
noncomputable def b_X12_costOf_42 (o : OO) (y0 : Int) (y1 : Int) : Option (Int) := some (y0 + y1)
noncomputable def s_X12_costOf (o : OO) (x1 : Int) (x2 : Int) : Option (Int) := qB (s_X12_on o x1) (fun r1 => qIn x1 64 (qNm (o.1 11 x1.toNat) (fun n4 => qIn ((40 * x2) + n4) 240 (qNm (o.1 3 ((40 * x2) + n4).toNat) (fun n6 => qLt r1 0 (b_X12_costOf_42 o n6 0) (qB (s_X12_valueOf o r1 (o.1 0 4)) (fun r7 => qDv r7 100 (b_X12_costOf_42 o n6 (jq r7 100)))))))))
set_option maxHeartbeats 4000000 in
set_option maxRecDepth 100000 in
theorem c_X12_costOf (l : Launch) (g : GG) (ad : Nat → Nat) (o : OO) (x1 : Int) (x2 : Int) (v : Int) (h : s_X12_costOf o x1 x2 = some v) : CI l g yX12_costOf cX12_costOf 4 (some .int) 1 24 (wM g ad o) [.ref (ad 0), iv x1, iv x2] v (wM g ad o) := by
  refine met_I (by decide) (Nat.le_of_ble_eq_true rfl) ?_
  intro X E hQ
  show Go X 0 (wM g ad o) [(0, .ref (ad 0)), (1, iv x1), (2, iv x2)] []
  have j42 : ∀ (y0 : Int) (y1 : Int), b_X12_costOf_42 o y0 y1 = some v → Go X 42 (wM g ad o) [] [iv y1, iv y0] := by
    intro y0 y1 h
    unfold b_X12_costOf_42 at h
    refine g_iadd E gdX12_costOf_42 ?_
    exact g_iret E hQ (Option.some.inj h) rfl gdX12_costOf_43
  unfold s_X12_costOf at h
  refine g_aload_n E gdX12_costOf_0 rfl 0 rfl ?_
  refine g_iload_n E gdX12_costOf_1 rfl 1 rfl ?_
  obtain ⟨r1, hc2, h⟩ := qB_of h
  refine g_Vi (r := r1) (As := [iv x1]) (rest := []) (w := wM g ad o) E (c_X12_on l g ad o x1 r1 hc2) okm_X12_on okw_X12_on w_1791 rfl (wM_0 g ad o) rfl rfl (Nat.le_of_ble_eq_true rfl) ⟨Nat.le_of_ble_eq_true rfl, Nat.le_of_ble_eq_true rfl⟩ gdX12_costOf_2 ?_
  refine g_istore_n E [(3, iv r1), (0, .ref (ad 0)), (1, iv x1), (2, iv x2)] gdX12_costOf_5 rfl (by decide) rfl ?_
  refine g_aload_n E gdX12_costOf_6 rfl 1 rfl ?_
  refine g_get (T := TX12) E fw_X12 0 (wM_0 g ad o) rfl 6 (by decide) w_1472 rfl rfl gdX12_costOf_7 ?_
  refine g_bipush E gdX12_costOf_10 (by decide) ?_
  refine g_iload_n E gdX12_costOf_12 rfl 3 rfl ?_
  refine g_imul E gdX12_costOf_13 ?_
  refine g_aload_n E gdX12_costOf_14 rfl 1 rfl ?_
  refine g_get (T := TX12) E fw_X12 0 (wM_0 g ad o) rfl 15 (by decide) w_1481 rfl rfl gdX12_costOf_15 ?_
  refine g_iload_n E gdX12_costOf_18 rfl 2 rfl ?_
  obtain ⟨hi3, h⟩ := qIn_of h
  refine g_iald E 11 (wM_11 g ad o) (by decide) hi3 gdX12_costOf_19 ?_
  obtain ⟨n4, e_n4, h⟩ := qNm_of h
  refine g_nmi e_n4 ?_
  refine g_iadd E gdX12_costOf_20 ?_
  obtain ⟨hi5, h⟩ := qIn_of h
  refine g_iald E 3 (wM_3 g ad o) (by decide) hi5 gdX12_costOf_21 ?_
  obtain ⟨n6, e_n6, h⟩ := qNm_of h
  refine g_nmi e_n6 ?_
  refine g_iload_n E gdX12_costOf_22 rfl 0 rfl ?_
  refine g_if_ge E 30 gdX12_costOf_23 (by decide) h (fun h => ?_) (fun h => ?_)
  ·
    refine g_aload_n E gdX12_costOf_30 rfl 1 rfl ?_
    refine g_iload_n E gdX12_costOf_31 rfl 0 rfl ?_
    refine g_aload_n E gdX12_costOf_32 rfl 1 rfl ?_
    refine g_get (T := TX12) E fw_X12 0 (wM_0 g ad o) rfl 4 (by decide) w_1470 rfl rfl gdX12_costOf_33 ?_
    obtain ⟨r7, hc8, h⟩ := qB_of h
    refine g_Vi (r := r7) (As := [iv r1, iv (o.1 0 4)]) (rest := [iv n6]) (w := wM g ad o) E (c_X12_valueOf l g ad o r1 (o.1 0 4) r7 hc8) okm_X12_valueOf okw_X12_valueOf w_1815 rfl (wM_0 g ad o) rfl rfl (Nat.le_of_ble_eq_true rfl) ⟨Nat.le_of_ble_eq_true rfl, Nat.le_of_ble_eq_true rfl⟩ gdX12_costOf_36 ?_
    refine g_bipush E gdX12_costOf_39 (by decide) ?_
    obtain ⟨hd9, h⟩ := qDv_of h
    refine g_idiv E hd9 gdX12_costOf_41 ?_
    refine g_sub E [] rfl ?_
    exact j42 n6 (jq r7 100) h
  ·
    refine g_iconst E gdX12_costOf_26 ?_
    refine g_goto E 42 gdX12_costOf_27 (by decide) ?_
    refine g_sub E [] rfl ?_
    exact j42 n6 0 h
noncomputable def b_X12_slope_24 (o : OO) (y0 : Int) : Option (Int) := some y0
noncomputable def s_X12_slope (o : OO) (x1 : Int) (x2 : Int) : Option (Int) := qIn x1 64 (qNm (o.1 12 x1.toNat) (fun n2 => qIn x2 64 (qNm (o.1 12 x2.toNat) (fun n4 => qNm (n2 - n4) (fun n5 => qLt n5 0 (b_X12_slope_24 o (-n5)) (b_X12_slope_24 o n5))))))
set_option maxHeartbeats 4000000 in
set_option maxRecDepth 100000 in
theorem c_X12_slope (l : Launch) (g : GG) (ad : Nat → Nat) (o : OO) (x1 : Int) (x2 : Int) (v : Int) (h : s_X12_slope o x1 x2 = some v) : CI l g yX12_slope cX12_slope 4 (some .int) 0 0 (wM g ad o) [.ref (ad 0), iv x1, iv x2] v (wM g ad o) := by
  refine met_I (by decide) (Nat.le_of_ble_eq_true rfl) ?_
  intro X E hQ
  show Go X 0 (wM g ad o) [(0, .ref (ad 0)), (1, iv x1), (2, iv x2)] []
  have j24 : ∀ (y0 : Int), b_X12_slope_24 o y0 = some v → Go X 24 (wM g ad o) [] [iv y0] := by
    intro y0 h
    unfold b_X12_slope_24 at h
    exact g_iret E hQ (Option.some.inj h) rfl gdX12_slope_24
  unfold s_X12_slope at h
  refine g_aload_n E gdX12_slope_0 rfl 0 rfl ?_
  refine g_get (T := TX12) E fw_X12 0 (wM_0 g ad o) rfl 16 (by decide) w_1482 rfl rfl gdX12_slope_1 ?_
  refine g_iload_n E gdX12_slope_4 rfl 1 rfl ?_
  obtain ⟨hi1, h⟩ := qIn_of h
  refine g_iald E 12 (wM_12 g ad o) (by decide) hi1 gdX12_slope_5 ?_
  obtain ⟨n2, e_n2, h⟩ := qNm_of h
  refine g_nmi e_n2 ?_
  refine g_aload_n E gdX12_slope_6 rfl 0 rfl ?_
  refine g_get (T := TX12) E fw_X12 0 (wM_0 g ad o) rfl 16 (by decide) w_1482 rfl rfl gdX12_slope_7 ?_
  refine g_iload_n E gdX12_slope_10 rfl 2 rfl ?_
  obtain ⟨hi3, h⟩ := qIn_of h
  refine g_iald E 12 (wM_12 g ad o) (by decide) hi3 gdX12_slope_11 ?_
  obtain ⟨n4, e_n4, h⟩ := qNm_of h
  refine g_nmi e_n4 ?_
  refine g_isub E gdX12_slope_12 ?_
  obtain ⟨n5, e_n5, h⟩ := qNm_of h
  refine g_nmi e_n5 ?_
  refine g_istore_n E [(3, iv n5), (0, .ref (ad 0)), (1, iv x1), (2, iv x2)] gdX12_slope_13 rfl (by decide) rfl ?_
  refine g_iload_n E gdX12_slope_14 rfl 0 rfl ?_
  refine g_if_ge E 23 gdX12_slope_15 (by decide) h (fun h => ?_) (fun h => ?_)
  ·
    refine g_iload_n E gdX12_slope_23 rfl 0 rfl ?_
    refine g_sub E [] rfl ?_
    exact j24 n5 h
  ·
    refine g_iload_n E gdX12_slope_18 rfl 0 rfl ?_
    refine g_ineg E gdX12_slope_19 ?_
    refine g_goto E 24 gdX12_slope_20 (by decide) ?_
    refine g_sub E [] rfl ?_
    exact j24 (-n5) h
noncomputable def b_X12_leads_39 (o : OO) (y0 : Int) : Option (Int) := qZ y0 (some y0)
noncomputable def b_X12_leads_38 (o : OO) : Option (Int) := b_X12_leads_39 o 0
noncomputable def s_X12_leads (o : OO) (x1 : Int) (x2 : Int) (x3 : Int) : Option (Int) := qLt x2 0 (b_X12_leads_38 o) (qIn x1 64 (qNm (o.1 11 x1.toNat) (fun n2 => qEq n2 4 (b_X12_leads_38 o) (qIn x2 64 (qNm (o.1 11 x2.toNat) (fun n4 => qEq n4 4 (b_X12_leads_38 o) (qB (s_X12_slope o x1 x2) (fun r5 => qLt x3 r5 (b_X12_leads_38 o) (b_X12_leads_39 o 1)))))))))
set_option maxHeartbeats 4000000 in
set_option maxRecDepth 100000 in
theorem c_X12_leads (l : Launch) (g : GG) (ad : Nat → Nat) (o : OO) (x1 : Int) (x2 : Int) (x3 : Int) (v : Int) (h : s_X12_leads o x1 x2 x3 = some v) : CI l g yX12_leads cX12_leads 4 (some .boolean) 1 23 (wM g ad o) [.ref (ad 0), iv x1, iv x2, iv x3] v (wM g ad o) := by
  refine met_I (by decide) (Nat.le_of_ble_eq_true rfl) ?_
  intro X E hQ
  show Go X 0 (wM g ad o) [(0, .ref (ad 0)), (1, iv x1), (2, iv x2), (3, iv x3)] []
  have j39 : ∀ (y0 : Int), b_X12_leads_39 o y0 = some v → Go X 39 (wM g ad o) [] [iv y0] := by
    intro y0 h
    unfold b_X12_leads_39 at h
    obtain ⟨hz, h⟩ := qZ_of h
    exact g_zret E hQ hz (Option.some.inj h) rfl gdX12_leads_39
  have j38 : b_X12_leads_38 o = some v → Go X 38 (wM g ad o) [] [] := by
    intro h
    unfold b_X12_leads_38 at h
    refine g_iconst E gdX12_leads_38 ?_
    exact j39 0 h
  unfold s_X12_leads at h
  refine g_iload_n E gdX12_leads_0 rfl 2 rfl ?_
  refine g_if_lt E 38 gdX12_leads_1 (by decide) h (fun h => ?_) (fun h => ?_)
  ·
    refine g_sub E [] rfl ?_
    exact j38  h
  ·
    refine g_aload_n E gdX12_leads_4 rfl 0 rfl ?_
    refine g_get (T := TX12) E fw_X12 0 (wM_0 g ad o) rfl 15 (by decide) w_1481 rfl rfl gdX12_leads_5 ?_
    refine g_iload_n E gdX12_leads_8 rfl 1 rfl ?_
    obtain ⟨hi1, h⟩ := qIn_of h
    refine g_iald E 11 (wM_11 g ad o) (by decide) hi1 gdX12_leads_9 ?_
    obtain ⟨n2, e_n2, h⟩ := qNm_of h
    refine g_nmi e_n2 ?_
    refine g_iconst E gdX12_leads_10 ?_
    refine g_icmp_eq E 38 gdX12_leads_11 (by decide) h (fun h => ?_) (fun h => ?_)
    ·
      refine g_sub E [] rfl ?_
      exact j38  h
    ·
      refine g_aload_n E gdX12_leads_14 rfl 0 rfl ?_
      refine g_get (T := TX12) E fw_X12 0 (wM_0 g ad o) rfl 15 (by decide) w_1481 rfl rfl gdX12_leads_15 ?_
      refine g_iload_n E gdX12_leads_18 rfl 2 rfl ?_
      obtain ⟨hi3, h⟩ := qIn_of h
      refine g_iald E 11 (wM_11 g ad o) (by decide) hi3 gdX12_leads_19 ?_
      obtain ⟨n4, e_n4, h⟩ := qNm_of h
      refine g_nmi e_n4 ?_
      refine g_iconst E gdX12_leads_20 ?_
      refine g_icmp_eq E 38 gdX12_leads_21 (by decide) h (fun h => ?_) (fun h => ?_)
      ·
        refine g_sub E [] rfl ?_
        exact j38  h
      ·
        refine g_aload_n E gdX12_leads_24 rfl 0 rfl ?_
        refine g_iload_n E gdX12_leads_25 rfl 1 rfl ?_
        refine g_iload_n E gdX12_leads_26 rfl 2 rfl ?_
        obtain ⟨r5, hc6, h⟩ := qB_of h
        refine g_Vi (r := r5) (As := [iv x1, iv x2]) (rest := []) (w := wM g ad o) E (c_X12_slope l g ad o x1 x2 r5 hc6) okm_X12_slope okw_X12_slope w_1887 rfl (wM_0 g ad o) rfl rfl (Nat.le_of_ble_eq_true rfl) ⟨Nat.le_of_ble_eq_true rfl, Nat.le_of_ble_eq_true rfl⟩ gdX12_leads_27 ?_
        refine g_iload_n E gdX12_leads_30 rfl 3 rfl ?_
        refine g_icmp_gt E 38 gdX12_leads_31 (by decide) h (fun h => ?_) (fun h => ?_)
        ·
          refine g_sub E [] rfl ?_
          exact j38  h
        ·
          refine g_iconst E gdX12_leads_34 ?_
          refine g_goto E 39 gdX12_leads_35 (by decide) ?_
          refine g_sub E [] rfl ?_
          exact j39 1 h
noncomputable def b_X12_goOn_33 (o : OO) (x3 : Int) (x4 : Int) (y0 : Int) (y1 : Int) : Option (Int) := qIn ((5 * x4) + x3) 320 (qNm (o.1 38 ((5 * x4) + x3).toNat) (fun n2 => some ((y0 + y1) + n2)))
noncomputable def b_X12_goOn_32 (o : OO) (x3 : Int) (x4 : Int) (y0 : Int) : Option (Int) := b_X12_goOn_33 o x3 x4 y0 0
noncomputable def s_X12_goOn (o : OO) (x1 : Int) (x2 : Int) (x3 : Int) (x4 : Int) : Option (Int) := qB (s_X12_slope o x1 x4) (fun r3 => qIn x4 64 (qNm (o.1 39 x4.toNat) (fun n6 => qLt x2 4 (qEq x2 x3 (b_X12_goOn_32 o x3 x4 ((10 * r3) + n6)) (b_X12_goOn_33 o x3 x4 ((10 * r3) + n6) 5)) (b_X12_goOn_32 o x3 x4 ((10 * r3) + n6)))))
set_option maxHeartbeats 4000000 in
set_option maxRecDepth 100000 in
theorem c_X12_goOn (l : Launch) (g : GG) (ad : Nat → Nat) (o : OO) (x1 : Int) (x2 : Int) (x3 : Int) (x4 : Int) (v : Int) (h : s_X12_goOn o x1 x2 x3 x4 = some v) : CI l g yX12_goOn cX12_goOn 5 (some .int) 1 23 (wM g ad o) [.ref (ad 0), iv x1, iv x2, iv x3, iv x4] v (wM g ad o) := by
  refine met_I (by decide) (Nat.le_of_ble_eq_true rfl) ?_
  intro X E hQ
  show Go X 0 (wM g ad o) [(0, .ref (ad 0)), (1, iv x1), (2, iv x2), (3, iv x3), (4, iv x4)] []
  have j33 : ∀ (x3 : Int) (x4 : Int) (y0 : Int) (y1 : Int), b_X12_goOn_33 o x3 x4 y0 y1 = some v → Go X 33 (wM g ad o) [(0, .ref (ad 0)), (3, iv x3), (4, iv x4)] [iv y1, iv y0] := by
    intro x3 x4 y0 y1 h
    unfold b_X12_goOn_33 at h
    refine g_iadd E gdX12_goOn_33 ?_
    refine g_aload_n E gdX12_goOn_34 rfl 0 rfl ?_
    refine g_get (T := TX12) E fw_X12 0 (wM_0 g ad o) rfl 46 (by decide) w_1512 rfl rfl gdX12_goOn_35 ?_
    refine g_iconst E gdX12_goOn_38 ?_
    refine g_iload E gdX12_goOn_39 2 rfl ?_
    refine g_imul E gdX12_goOn_41 ?_
    refine g_iload_n E gdX12_goOn_42 rfl 1 rfl ?_
    refine g_iadd E gdX12_goOn_43 ?_
    obtain ⟨hi1, h⟩ := qIn_of h
    refine g_iald E 38 (wM_38 g ad o) (by decide) hi1 gdX12_goOn_44 ?_
    obtain ⟨n2, e_n2, h⟩ := qNm_of h
    refine g_nmi e_n2 ?_
    refine g_iadd E gdX12_goOn_45 ?_
    exact g_iret E hQ (Option.some.inj h) rfl gdX12_goOn_46
  have j32 : ∀ (x3 : Int) (x4 : Int) (y0 : Int), b_X12_goOn_32 o x3 x4 y0 = some v → Go X 32 (wM g ad o) [(0, .ref (ad 0)), (3, iv x3), (4, iv x4)] [iv y0] := by
    intro x3 x4 y0 h
    unfold b_X12_goOn_32 at h
    refine g_iconst E gdX12_goOn_32 ?_
    exact j33 x3 x4 y0 0 h
  unfold s_X12_goOn at h
  refine g_bipush E gdX12_goOn_0 (by decide) ?_
  refine g_aload_n E gdX12_goOn_2 rfl 0 rfl ?_
  refine g_iload_n E gdX12_goOn_3 rfl 1 rfl ?_
  refine g_iload E gdX12_goOn_4 4 rfl ?_
  obtain ⟨r3, hc4, h⟩ := qB_of h
  refine g_Vi (r := r3) (As := [iv x1, iv x4]) (rest := [iv 10]) (w := wM g ad o) E (c_X12_slope l g ad o x1 x4 r3 hc4) okm_X12_slope okw_X12_slope w_1887 rfl (wM_0 g ad o) rfl rfl (Nat.le_of_ble_eq_true rfl) ⟨Nat.le_of_ble_eq_true rfl, Nat.le_of_ble_eq_true rfl⟩ gdX12_goOn_6 ?_
  refine g_imul E gdX12_goOn_9 ?_
  refine g_aload_n E gdX12_goOn_10 rfl 0 rfl ?_
  refine g_get (T := TX12) E fw_X12 0 (wM_0 g ad o) rfl 47 (by decide) w_1513 rfl rfl gdX12_goOn_11 ?_
  refine g_iload E gdX12_goOn_14 4 rfl ?_
  obtain ⟨hi5, h⟩ := qIn_of h
  refine g_iald E 39 (wM_39 g ad o) (by decide) hi5 gdX12_goOn_16 ?_
  obtain ⟨n6, e_n6, h⟩ := qNm_of h
  refine g_nmi e_n6 ?_
  refine g_iadd E gdX12_goOn_17 ?_
  refine g_iload_n E gdX12_goOn_18 rfl 2 rfl ?_
  refine g_iconst E gdX12_goOn_19 ?_
  refine g_icmp_ge E 32 gdX12_goOn_20 (by decide) h (fun h => ?_) (fun h => ?_)
  ·
    refine g_sub E [0, 3, 4] rfl ?_
    exact j32 x3 x4 ((10 * r3) + n6) h
  ·
    refine g_iload_n E gdX12_goOn_23 rfl 2 rfl ?_
    refine g_iload_n E gdX12_goOn_24 rfl 3 rfl ?_
    refine g_icmp_eq E 32 gdX12_goOn_25 (by decide) h (fun h => ?_) (fun h => ?_)
    ·
      refine g_sub E [0, 3, 4] rfl ?_
      exact j32 x3 x4 ((10 * r3) + n6) h
    ·
      refine g_iconst E gdX12_goOn_28 ?_
      refine g_goto E 33 gdX12_goOn_29 (by decide) ?_
      refine g_sub E [0, 3, 4] rfl ?_
      exact j33 x3 x4 ((10 * r3) + n6) 5 h
noncomputable def b_X12_setLeft_224 (o : OO) : Option (OO) := some o
noncomputable def b_X12_setLeft_221 (o : OO) (x1 : Int) (x2 : Int) (x3 : Int) : Option ((OO × Int) ⊕ ((OO))) := some (.inl (o, x3))
noncomputable def b_X12_setLeft_215 (o : OO) (x1 : Int) (x2 : Int) (x3 : Int) (x4 : Int) : Option ((OO × Int × Int) ⊕ ((OO × Int))) := some (.inl (o, x3, x4 + 1))
noncomputable def b_X12_setLeft_209 (o : OO) (x1 : Int) (x2 : Int) (x3 : Int) (x4 : Int) (x5 : Int) : Option ((OO × Int × Int) ⊕ ((OO × Int))) := some (.inl (o, x3, x5 + 1))
noncomputable def b_X12_setLeft_202 (o : OO) (x1 : Int) (x2 : Int) (x3 : Int) (x4 : Int) (x5 : Int) (x6 : Int) (x7 : Int) (y1 : Int) (y2 : Int) : Option ((OO × Int × Int) ⊕ ((OO × Int))) := qIn y1 320 (qNm (st1 o 38 y1.toNat y2) (fun o2 => some (.inl (o2, x3, x7 + 1))))
noncomputable def b_X12_setLeft_156 (o : OO) (x1 : Int) (x2 : Int) (x4 : Int) (x5 : Int) (x6 : Int) (x7 : Int) (x8 : Int) (y0 : Int) : Option ((OO × Int × Int) ⊕ ((OO × Int))) := qIn ((5 * x4) + x7) 320 (qNm (o.1 38 ((5 * x4) + x7).toNat) (fun n4 => qLt x8 n4 (b_X12_setLeft_202 o x1 x2 y0 x4 x5 x6 x7 ((5 * x4) + x7) x8) (qIn ((5 * x4) + x7) 320 (qNm (o.1 38 ((5 * x4) + x7).toNat) (fun n6 => b_X12_setLeft_202 o x1 x2 y0 x4 x5 x6 x7 ((5 * x4) + x7) n6)))))
noncomputable def b_X12_setLeft_151 (o : OO) (x1 : Int) (x2 : Int) (x4 : Int) (x5 : Int) (x6 : Int) (x7 : Int) (x8 : Int) : Option ((OO × Int × Int) ⊕ ((OO × Int))) := b_X12_setLeft_156 o x1 x2 x4 x5 x6 x7 x8 1
noncomputable def l_X12_setLeft_110 (x1 : Int) (x2 : Int) (x4 : Int) (x5 : Int) (x6 : Int) (o : OO) (x3 : Int) (x7 : Int) : Option ((OO × Int × Int) ⊕ ((OO × Int))) := qLt x7 5 (qB (s_X12_goOn o x4 x7 x5 x6) (fun r7 => qEq x3 0 (qIn ((5 * x4) + x7) 320 (qNm (o.1 38 ((5 * x4) + x7).toNat) (fun n10 => qLt r7 n10 (b_X12_setLeft_151 o x1 x2 x4 x5 x6 x7 r7) (b_X12_setLeft_156 o x1 x2 x4 x5 x6 x7 r7 0)))) (b_X12_setLeft_151 o x1 x2 x4 x5 x6 x7 r7))) (some (.inr ((o, x3))))
noncomputable def e_X12_setLeft_110 (o : OO) (x1 : Int) (x2 : Int) (x3 : Int) (x4 : Int) (x5 : Int) (x6 : Int) (x7 : Int) : Option ((OO × Int × Int) ⊕ ((OO × Int))) := qB (loopW (fun s => l_X12_setLeft_110 x1 x2 x4 x5 x6 s.1 s.2.1 s.2.2) (o, x3, x7)) (fun r => b_X12_setLeft_209 r.1 x1 x2 r.2 x4 x5)
noncomputable def l_X12_setLeft_56 (x1 : Int) (x2 : Int) (x4 : Int) (o : OO) (x3 : Int) (x5 : Int) : Option ((OO × Int × Int) ⊕ ((OO × Int))) := qLt x5 4 (qB (s_X12_beside x4 x5) (fun r11 => qEq x4 x1 (b_X12_setLeft_209 o x1 x2 x3 x4 x5) (qB (s_X12_leads o x4 r11 x2) (fun r13 => qEq r13 0 (b_X12_setLeft_209 o x1 x2 x3 x4 x5) (qIn ((5 * r11) + x5) 320 (qNm (o.1 38 ((5 * r11) + x5).toNat) (fun n16 => qLt n16 100000000 (e_X12_setLeft_110 o x1 x2 x3 x4 x5 r11 0) (b_X12_setLeft_209 o x1 x2 x3 x4 x5)))))))) (some (.inr ((o, x3))))
noncomputable def e_X12_setLeft_56 (o : OO) (x1 : Int) (x2 : Int) (x3 : Int) (x4 : Int) (x5 : Int) : Option ((OO × Int × Int) ⊕ ((OO × Int))) := qB (loopW (fun s => l_X12_setLeft_56 x1 x2 x4 s.1 s.2.1 s.2.2) (o, x3, x5)) (fun r => b_X12_setLeft_215 r.1 x1 x2 r.2 x4)
noncomputable def l_X12_setLeft_46 (x1 : Int) (x2 : Int) (o : OO) (x3 : Int) (x4 : Int) : Option ((OO × Int × Int) ⊕ ((OO × Int))) := qLt x4 64 (e_X12_setLeft_56 o x1 x2 x3 x4 0) (some (.inr ((o, x3))))
noncomputable def e_X12_setLeft_46 (o : OO) (x1 : Int) (x2 : Int) (x3 : Int) (x4 : Int) : Option ((OO × Int) ⊕ ((OO))) := qB (loopW (fun s => l_X12_setLeft_46 x1 x2 s.1 s.2.1 s.2.2) (o, x3, x4)) (fun r => b_X12_setLeft_221 r.1 x1 x2 r.2)
noncomputable def l_X12_setLeft_37 (x1 : Int) (x2 : Int) (o : OO) (x3 : Int) : Option ((OO × Int) ⊕ ((OO))) := qEq x3 0 (some (.inr (o))) (e_X12_setLeft_46 o x1 x2 0 0)
noncomputable def e_X12_setLeft_37 (o : OO) (x1 : Int) (x2 : Int) (x3 : Int) : Option (OO) := qB (loopW (fun s => l_X12_setLeft_37 x1 x2 s.1 s.2) (o, x3)) (fun r => b_X12_setLeft_224 r)
noncomputable def b_X12_setLeft_35 (o : OO) (x1 : Int) (x2 : Int) : Option (OO) := e_X12_setLeft_37 o x1 x2 1
noncomputable def b_X12_setLeft_28 (o : OO) (x1 : Int) (x2 : Int) (x3 : Int) (y1 : Int) (y2 : Int) : Option ((OO × Int) ⊕ ((OO))) := qIn y1 320 (qNm (st1 o 38 y1.toNat y2) (fun o18 => some (.inl (o18, x3 + 1))))
noncomputable def l_X12_setLeft_2 (x1 : Int) (x2 : Int) (o : OO) (x3 : Int) : Option ((OO × Int) ⊕ ((OO))) := qLt x3 320 (qDv x3 5 (qEq (jq x3 5) x1 (b_X12_setLeft_28 o x1 x2 x3 x3 0) (b_X12_setLeft_28 o x1 x2 x3 x3 100000000))) (some (.inr (o)))
noncomputable def e_X12_setLeft_2 (o : OO) (x1 : Int) (x2 : Int) (x3 : Int) : Option (OO) := qB (loopW (fun s => l_X12_setLeft_2 x1 x2 s.1 s.2) (o, x3)) (fun r => b_X12_setLeft_35 r x1 x2)
noncomputable def s_X12_setLeft (o : OO) (x1 : Int) (x2 : Int) : Option (OO) := e_X12_setLeft_2 o x1 x2 0
set_option maxHeartbeats 4000000 in
set_option maxRecDepth 100000 in
theorem c_X12_setLeft (l : Launch) (g : GG) (ad : Nat → Nat) (o : OO) (x1 : Int) (x2 : Int) (v : OO) (h : s_X12_setLeft o x1 x2 = some v) : CV l g yX12_setLeft cX12_setLeft 9 2 47 (wM g ad o) [.ref (ad 0), iv x1, iv x2] (wM g ad v) := by
  refine met_V (by decide) (Nat.le_of_ble_eq_true rfl) ?_
  intro X E hQ
  show Go X 0 (wM g ad o) [(0, .ref (ad 0)), (1, iv x1), (2, iv x2)] []
  have j224 : ∀ (o : OO), b_X12_setLeft_224 o = some v → Go X 224 (wM g ad o) [] [] := by
    intro o h
    unfold b_X12_setLeft_224 at h
    exact g_vret E hQ (by rw [← Option.some.inj h]) gdX12_setLeft_224
  have j221 : ∀ (o : OO) (x1 : Int) (x2 : Int) (x3 : Int) (v : (OO × Int) ⊕ ((OO))), b_X12_setLeft_221 o x1 x2 x3 = some v → (∀ (o : OO) (x3 : Int), v = .inl (o, x3) → Go X 37 (wM g ad o) [(0, .ref (ad 0)), (1, iv x1), (2, iv x2), (3, iv x3)] []) → (∀ (o : OO), v = .inr (o) → Go X 224 (wM g ad o) [] []) → Go X 221 (wM g ad o) [(0, .ref (ad 0)), (1, iv x1), (2, iv x2), (3, iv x3)] [] := by
    intro o x1 x2 x3 v h k0 k1
    unfold b_X12_setLeft_221 at h
    refine g_goto E 37 gdX12_setLeft_221 (by decide) ?_
    exact k0 o x3 (Option.some.inj h).symm
  have j215 : ∀ (o : OO) (x1 : Int) (x2 : Int) (x3 : Int) (x4 : Int) (v : (OO × Int × Int) ⊕ ((OO × Int))), b_X12_setLeft_215 o x1 x2 x3 x4 = some v → (∀ (o : OO) (x3 : Int) (x4 : Int), v = .inl (o, x3, x4) → Go X 46 (wM g ad o) [(0, .ref (ad 0)), (1, iv x1), (2, iv x2), (3, iv x3), (4, iv x4)] []) → (∀ (o : OO) (x3 : Int), v = .inr ((o, x3)) → Go X 221 (wM g ad o) [(0, .ref (ad 0)), (1, iv x1), (2, iv x2), (3, iv x3)] []) → Go X 215 (wM g ad o) [(0, .ref (ad 0)), (1, iv x1), (2, iv x2), (3, iv x3), (4, iv x4)] [] := by
    intro o x1 x2 x3 x4 v h k0 k1
    unfold b_X12_setLeft_215 at h
    refine g_iinc E [(4, iv (x4 + 1)), (0, .ref (ad 0)), (1, iv x1), (2, iv x2), (3, iv x3)] gdX12_setLeft_215 4 rfl (by decide) rfl ?_
    refine g_goto E 46 gdX12_setLeft_218 (by decide) ?_
    refine g_sub E [1, 2, 3, 4, 0] rfl ?_
    exact k0 o x3 (x4 + 1) (Option.some.inj h).symm
  have j209 : ∀ (o : OO) (x1 : Int) (x2 : Int) (x3 : Int) (x4 : Int) (x5 : Int) (v : (OO × Int × Int) ⊕ ((OO × Int))), b_X12_setLeft_209 o x1 x2 x3 x4 x5 = some v → (∀ (o : OO) (x3 : Int) (x5 : Int), v = .inl (o, x3, x5) → Go X 56 (wM g ad o) [(0, .ref (ad 0)), (1, iv x1), (2, iv x2), (3, iv x3), (4, iv x4), (5, iv x5)] []) → (∀ (o : OO) (x3 : Int), v = .inr ((o, x3)) → Go X 215 (wM g ad o) [(0, .ref (ad 0)), (1, iv x1), (2, iv x2), (3, iv x3), (4, iv x4)] []) → Go X 209 (wM g ad o) [(0, .ref (ad 0)), (1, iv x1), (2, iv x2), (3, iv x3), (4, iv x4), (5, iv x5)] [] := by
    intro o x1 x2 x3 x4 x5 v h k0 k1
    unfold b_X12_setLeft_209 at h
    refine g_iinc E [(5, iv (x5 + 1)), (0, .ref (ad 0)), (1, iv x1), (2, iv x2), (3, iv x3), (4, iv x4)] gdX12_setLeft_209 5 rfl (by decide) rfl ?_
    refine g_goto E 56 gdX12_setLeft_212 (by decide) ?_
    refine g_sub E [1, 2, 3, 4, 5, 0] rfl ?_
    exact k0 o x3 (x5 + 1) (Option.some.inj h).symm
  have j202 : ∀ (o : OO) (x1 : Int) (x2 : Int) (x3 : Int) (x4 : Int) (x5 : Int) (x6 : Int) (x7 : Int) (y1 : Int) (y2 : Int) (v : (OO × Int × Int) ⊕ ((OO × Int))), b_X12_setLeft_202 o x1 x2 x3 x4 x5 x6 x7 y1 y2 = some v → (∀ (o : OO) (x3 : Int) (x7 : Int), v = .inl (o, x3, x7) → Go X 110 (wM g ad o) [(0, .ref (ad 0)), (1, iv x1), (2, iv x2), (3, iv x3), (4, iv x4), (5, iv x5), (6, iv x6), (7, iv x7)] []) → (∀ (o : OO) (x3 : Int), v = .inr ((o, x3)) → Go X 209 (wM g ad o) [(0, .ref (ad 0)), (1, iv x1), (2, iv x2), (3, iv x3), (4, iv x4), (5, iv x5)] []) → Go X 202 (wM g ad o) [(0, .ref (ad 0)), (1, iv x1), (2, iv x2), (3, iv x3), (4, iv x4), (5, iv x5), (6, iv x6), (7, iv x7)] [iv y2, iv y1, .ref (ad 38)] := by
    intro o x1 x2 x3 x4 x5 x6 x7 y1 y2 v h k0 k1
    unfold b_X12_setLeft_202 at h
    obtain ⟨hi1, h⟩ := qIn_of h
    obtain ⟨o2, e_o2, h⟩ := qNm_of h
    refine g_iast (ws' := wM g ad o2) E 38 (wM_38 g ad o) (by decide) hi1 (by rw [e_o2]; exact wM_s38 g ad o _ _) gdX12_setLeft_202 ?_
    refine g_iinc E [(7, iv (x7 + 1)), (0, .ref (ad 0)), (1, iv x1), (2, iv x2), (3, iv x3), (4, iv x4), (5, iv x5), (6, iv x6)] gdX12_setLeft_203 7 rfl (by decide) rfl ?_
    refine g_goto E 110 gdX12_setLeft_206 (by decide) ?_
    refine g_sub E [1, 2, 3, 4, 5, 6, 7, 0] rfl ?_
    exact k0 o2 x3 (x7 + 1) (Option.some.inj h).symm
  have j156 : ∀ (o : OO) (x1 : Int) (x2 : Int) (x4 : Int) (x5 : Int) (x6 : Int) (x7 : Int) (x8 : Int) (y0 : Int) (v : (OO × Int × Int) ⊕ ((OO × Int))), b_X12_setLeft_156 o x1 x2 x4 x5 x6 x7 x8 y0 = some v → (∀ (o : OO) (x3 : Int) (x7 : Int), v = .inl (o, x3, x7) → Go X 110 (wM g ad o) [(0, .ref (ad 0)), (1, iv x1), (2, iv x2), (3, iv x3), (4, iv x4), (5, iv x5), (6, iv x6), (7, iv x7)] []) → (∀ (o : OO) (x3 : Int), v = .inr ((o, x3)) → Go X 209 (wM g ad o) [(0, .ref (ad 0)), (1, iv x1), (2, iv x2), (3, iv x3), (4, iv x4), (5, iv x5)] []) → Go X 156 (wM g ad o) [(0, .ref (ad 0)), (1, iv x1), (2, iv x2), (4, iv x4), (5, iv x5), (6, iv x6), (7, iv x7), (8, iv x8)] [iv y0] := by
    intro o x1 x2 x4 x5 x6 x7 x8 y0 v h k0 k1
    unfold b_X12_setLeft_156 at h
    refine g_istore_n E [(3, iv y0), (0, .ref (ad 0)), (1, iv x1), (2, iv x2), (4, iv x4), (5, iv x5), (6, iv x6), (7, iv x7), (8, iv x8)] gdX12_setLeft_156 rfl (by decide) rfl ?_
    refine g_aload_n E gdX12_setLeft_157 rfl 1 rfl ?_
    refine g_get (T := TX12) E fw_X12 0 (wM_0 g ad o) rfl 46 (by decide) w_1512 rfl rfl gdX12_setLeft_158 ?_
    refine g_iconst E gdX12_setLeft_161 ?_
    refine g_iload E gdX12_setLeft_162 4 rfl ?_
    refine g_imul E gdX12_setLeft_164 ?_
    refine g_iload E gdX12_setLeft_165 7 rfl ?_
    refine g_iadd E gdX12_setLeft_167 ?_
    refine g_iload E gdX12_setLeft_168 8 rfl ?_
    refine g_aload_n E gdX12_setLeft_170 rfl 1 rfl ?_
    refine g_get (T := TX12) E fw_X12 0 (wM_0 g ad o) rfl 46 (by decide) w_1512 rfl rfl gdX12_setLeft_171 ?_
    refine g_iconst E gdX12_setLeft_174 ?_
    refine g_iload E gdX12_setLeft_175 4 rfl ?_
    refine g_imul E gdX12_setLeft_177 ?_
    refine g_iload E gdX12_setLeft_178 7 rfl ?_
    refine g_iadd E gdX12_setLeft_180 ?_
    obtain ⟨hi3, h⟩ := qIn_of h
    refine g_iald E 38 (wM_38 g ad o) (by decide) hi3 gdX12_setLeft_181 ?_
    obtain ⟨n4, e_n4, h⟩ := qNm_of h
    refine g_nmi e_n4 ?_
    refine g_icmp_ge E 190 gdX12_setLeft_182 (by decide) h (fun h => ?_) (fun h => ?_)
    ·
      refine g_aload_n E gdX12_setLeft_190 rfl 1 rfl ?_
      refine g_get (T := TX12) E fw_X12 0 (wM_0 g ad o) rfl 46 (by decide) w_1512 rfl rfl gdX12_setLeft_191 ?_
      refine g_iconst E gdX12_setLeft_194 ?_
      refine g_iload E gdX12_setLeft_195 4 rfl ?_
      refine g_imul E gdX12_setLeft_197 ?_
      refine g_iload E gdX12_setLeft_198 7 rfl ?_
      refine g_iadd E gdX12_setLeft_200 ?_
      obtain ⟨hi5, h⟩ := qIn_of h
      refine g_iald E 38 (wM_38 g ad o) (by decide) hi5 gdX12_setLeft_201 ?_
      obtain ⟨n6, e_n6, h⟩ := qNm_of h
      refine g_nmi e_n6 ?_
      refine g_sub E [1, 2, 3, 0, 4, 5, 6, 7] rfl ?_
      exact j202 o x1 x2 y0 x4 x5 x6 x7 ((5 * x4) + x7) n6 v h k0 k1
    ·
      refine g_iload E gdX12_setLeft_185 8 rfl ?_
      refine g_goto E 202 gdX12_setLeft_187 (by decide) ?_
      refine g_sub E [1, 2, 3, 0, 4, 5, 6, 7] rfl ?_
      exact j202 o x1 x2 y0 x4 x5 x6 x7 ((5 * x4) + x7) x8 v h k0 k1
  have j151 : ∀ (o : OO) (x1 : Int) (x2 : Int) (x4 : Int) (x5 : Int) (x6 : Int) (x7 : Int) (x8 : Int) (v : (OO × Int × Int) ⊕ ((OO × Int))), b_X12_setLeft_151 o x1 x2 x4 x5 x6 x7 x8 = some v → (∀ (o : OO) (x3 : Int) (x7 : Int), v = .inl (o, x3, x7) → Go X 110 (wM g ad o) [(0, .ref (ad 0)), (1, iv x1), (2, iv x2), (3, iv x3), (4, iv x4), (5, iv x5), (6, iv x6), (7, iv x7)] []) → (∀ (o : OO) (x3 : Int), v = .inr ((o, x3)) → Go X 209 (wM g ad o) [(0, .ref (ad 0)), (1, iv x1), (2, iv x2), (3, iv x3), (4, iv x4), (5, iv x5)] []) → Go X 151 (wM g ad o) [(0, .ref (ad 0)), (1, iv x1), (2, iv x2), (4, iv x4), (5, iv x5), (6, iv x6), (7, iv x7), (8, iv x8)] [] := by
    intro o x1 x2 x4 x5 x6 x7 x8 v h k0 k1
    unfold b_X12_setLeft_151 at h
    refine g_iconst E gdX12_setLeft_151 ?_
    refine g_goto E 156 gdX12_setLeft_152 (by decide) ?_
    exact j156 o x1 x2 x4 x5 x6 x7 x8 1 v h k0 k1
  have l110 : ∀ (x1 : Int) (x2 : Int) (x4 : Int) (x5 : Int) (x6 : Int) (r : (OO × Int)) (s0 : OO × Int × Int), loopW (fun s => l_X12_setLeft_110 x1 x2 x4 x5 x6 s.1 s.2.1 s.2.2) s0 = some r → (∀ (o : OO) (x3 : Int), r = ((o, x3)) → Go X 209 (wM g ad o) [(0, .ref (ad 0)), (1, iv x1), (2, iv x2), (3, iv x3), (4, iv x4), (5, iv x5)] []) → Go X 110 (wM g ad s0.1) [(0, .ref (ad 0)), (1, iv x1), (2, iv x2), (3, iv s0.2.1), (4, iv x4), (5, iv x5), (6, iv x6), (7, iv s0.2.2)] [] := by
    intro x1 x2 x4 x5 x6 r s0 h k1
    refine loop_rule (Head := fun s0 => Go X 110 (wM g ad s0.1) [(0, .ref (ad 0)), (1, iv x1), (2, iv x2), (3, iv s0.2.1), (4, iv x4), (5, iv x5), (6, iv x6), (7, iv s0.2.2)] []) h ?_
    intro s v h kk kx
    obtain ⟨o, x3, x7⟩ := s
    have h : l_X12_setLeft_110 x1 x2 x4 x5 x6 o x3 x7 = some v := h
    have k0 : ∀ (o : OO) (x3 : Int) (x7 : Int), v = .inl (o, x3, x7) → Go X 110 (wM g ad o) [(0, .ref (ad 0)), (1, iv x1), (2, iv x2), (3, iv x3), (4, iv x4), (5, iv x5), (6, iv x6), (7, iv x7)] [] := fun o x3 x7 e => kk (o, x3, x7) e
    have k1 : ∀ (o : OO) (x3 : Int), v = .inr ((o, x3)) → Go X 209 (wM g ad o) [(0, .ref (ad 0)), (1, iv x1), (2, iv x2), (3, iv x3), (4, iv x4), (5, iv x5)] [] := fun o x3 e => k1 o x3 (kx _ e).symm
    unfold l_X12_setLeft_110 at h
    refine g_iload E gdX12_setLeft_110 7 rfl ?_
    refine g_iconst E gdX12_setLeft_112 ?_
    refine g_icmp_ge E 209 gdX12_setLeft_113 (by decide) h (fun h => ?_) (fun h => ?_)
    ·
      refine g_sub E [0, 1, 2, 3, 4, 5] rfl ?_
      exact k1 o x3 (Option.some.inj h).symm
    ·
      refine g_aload_n E gdX12_setLeft_116 rfl 0 rfl ?_
      refine g_iload E gdX12_setLeft_117 4 rfl ?_
      refine g_iload E gdX12_setLeft_119 7 rfl ?_
      refine g_iload E gdX12_setLeft_121 5 rfl ?_
      refine g_iload E gdX12_setLeft_123 6 rfl ?_
      obtain ⟨r7, hc8, h⟩ := qB_of h
      refine g_Vi (r := r7) (As := [iv x4, iv x7, iv x5, iv x6]) (rest := []) (w := wM g ad o) E (c_X12_goOn l g ad o x4 x7 x5 x6 r7 hc8) okm_X12_goOn okw_X12_goOn w_1891 rfl (wM_0 g ad o) rfl rfl (Nat.le_of_ble_eq_true rfl) ⟨Nat.le_of_ble_eq_true rfl, Nat.le_of_ble_eq_true rfl⟩ gdX12_setLeft_125 ?_
      refine g_istore E [(8, iv r7), (0, .ref (ad 0)), (1, iv x1), (2, iv x2), (3, iv x3), (4, iv x4), (5, iv x5), (6, iv x6), (7, iv x7)] gdX12_setLeft_128 (by decide) rfl ?_
      refine g_iload_n E gdX12_setLeft_130 rfl 4 rfl ?_
      refine g_if_ne E 151 gdX12_setLeft_131 (by decide) h (fun h => ?_) (fun h => ?_)
      ·
        refine g_sub E [1, 2, 3, 5, 6, 7, 8, 0] rfl ?_
        exact j151 o x1 x2 x4 x5 x6 x7 r7 v h k0 k1
      ·
        refine g_iload E gdX12_setLeft_134 0 rfl ?_
        refine g_aload_n E gdX12_setLeft_136 rfl 1 rfl ?_
        refine g_get (T := TX12) E fw_X12 0 (wM_0 g ad o) rfl 46 (by decide) w_1512 rfl rfl gdX12_setLeft_137 ?_
        refine g_iconst E gdX12_setLeft_140 ?_
        refine g_iload E gdX12_setLeft_141 5 rfl ?_
        refine g_imul E gdX12_setLeft_143 ?_
        refine g_iload E gdX12_setLeft_144 8 rfl ?_
        refine g_iadd E gdX12_setLeft_146 ?_
        obtain ⟨hi9, h⟩ := qIn_of h
        refine g_iald E 38 (wM_38 g ad o) (by decide) hi9 gdX12_setLeft_147 ?_
        obtain ⟨n10, e_n10, h⟩ := qNm_of h
        refine g_nmi e_n10 ?_
        refine g_icmp_ge E 155 gdX12_setLeft_148 (by decide) h (fun h => ?_) (fun h => ?_)
        ·
          refine g_iconst E gdX12_setLeft_155 ?_
          refine g_sub E [1, 2, 3, 5, 6, 7, 8, 0] rfl ?_
          exact j156 o x1 x2 x4 x5 x6 x7 r7 0 v h k0 k1
        ·
          refine g_sub E [1, 2, 3, 5, 6, 7, 8, 0] rfl ?_
          exact j151 o x1 x2 x4 x5 x6 x7 r7 v h k0 k1
  have j110 : ∀ (o : OO) (x1 : Int) (x2 : Int) (x3 : Int) (x4 : Int) (x5 : Int) (x6 : Int) (x7 : Int) (v : (OO × Int × Int) ⊕ ((OO × Int))), e_X12_setLeft_110 o x1 x2 x3 x4 x5 x6 x7 = some v → (∀ (o : OO) (x3 : Int) (x5 : Int), v = .inl (o, x3, x5) → Go X 56 (wM g ad o) [(0, .ref (ad 0)), (1, iv x1), (2, iv x2), (3, iv x3), (4, iv x4), (5, iv x5)] []) → (∀ (o : OO) (x3 : Int), v = .inr ((o, x3)) → Go X 215 (wM g ad o) [(0, .ref (ad 0)), (1, iv x1), (2, iv x2), (3, iv x3), (4, iv x4)] []) → Go X 110 (wM g ad o) [(0, .ref (ad 0)), (1, iv x1), (2, iv x2), (3, iv x3), (4, iv x4), (5, iv x5), (6, iv x6), (7, iv x7)] [] := by
    intro o x1 x2 x3 x4 x5 x6 x7 v h k0 k1
    unfold e_X12_setLeft_110 at h
    obtain ⟨r, hr, h⟩ := qB_of h
    refine l110 x1 x2 x4 x5 x6 r _ hr ?_
    ·
      intro u0 u1 e
      subst e
      have h : b_X12_setLeft_209 u0 x1 x2 u1 x4 x5 = some v := h
      exact j209 u0 x1 x2 u1 x4 x5 v h k0 k1
  have l56 : ∀ (x1 : Int) (x2 : Int) (x4 : Int) (r : (OO × Int)) (s0 : OO × Int × Int), loopW (fun s => l_X12_setLeft_56 x1 x2 x4 s.1 s.2.1 s.2.2) s0 = some r → (∀ (o : OO) (x3 : Int), r = ((o, x3)) → Go X 215 (wM g ad o) [(0, .ref (ad 0)), (1, iv x1), (2, iv x2), (3, iv x3), (4, iv x4)] []) → Go X 56 (wM g ad s0.1) [(0, .ref (ad 0)), (1, iv x1), (2, iv x2), (3, iv s0.2.1), (4, iv x4), (5, iv s0.2.2)] [] := by
    intro x1 x2 x4 r s0 h k1
    refine loop_rule (Head := fun s0 => Go X 56 (wM g ad s0.1) [(0, .ref (ad 0)), (1, iv x1), (2, iv x2), (3, iv s0.2.1), (4, iv x4), (5, iv s0.2.2)] []) h ?_
    intro s v h kk kx
    obtain ⟨o, x3, x5⟩ := s
    have h : l_X12_setLeft_56 x1 x2 x4 o x3 x5 = some v := h
    have k0 : ∀ (o : OO) (x3 : Int) (x5 : Int), v = .inl (o, x3, x5) → Go X 56 (wM g ad o) [(0, .ref (ad 0)), (1, iv x1), (2, iv x2), (3, iv x3), (4, iv x4), (5, iv x5)] [] := fun o x3 x5 e => kk (o, x3, x5) e
    have k1 : ∀ (o : OO) (x3 : Int), v = .inr ((o, x3)) → Go X 215 (wM g ad o) [(0, .ref (ad 0)), (1, iv x1), (2, iv x2), (3, iv x3), (4, iv x4)] [] := fun o x3 e => k1 o x3 (kx _ e).symm
    unfold l_X12_setLeft_56 at h
    refine g_iload E gdX12_setLeft_56 5 rfl ?_
    refine g_iconst E gdX12_setLeft_58 ?_
    refine g_icmp_ge E 215 gdX12_setLeft_59 (by decide) h (fun h => ?_) (fun h => ?_)
    ·
      refine g_sub E [0, 1, 2, 3, 4] rfl ?_
      exact k1 o x3 (Option.some.inj h).symm
    ·
      refine g_iload E gdX12_setLeft_62 4 rfl ?_
      refine g_iload E gdX12_setLeft_64 5 rfl ?_
      obtain ⟨r11, hc12, h⟩ := qB_of h
      refine g_Si (r := r11) (As := [iv x4, iv x5]) (rest := []) (w := wM g ad o) E (c_X12_beside l g (wM g ad o) x4 x5 r11 hc12) okm_X12_beside w_1881 w_1880 rfl rfl (Nat.le_of_ble_eq_true rfl) ⟨Nat.le_of_ble_eq_true rfl, Nat.le_of_ble_eq_true rfl⟩ gdX12_setLeft_66 ?_
      refine g_istore E [(6, iv r11), (0, .ref (ad 0)), (1, iv x1), (2, iv x2), (3, iv x3), (4, iv x4), (5, iv x5)] gdX12_setLeft_69 (by decide) rfl ?_
      refine g_iload E gdX12_setLeft_71 5 rfl ?_
      refine g_iload_n E gdX12_setLeft_73 rfl 2 rfl ?_
      refine g_icmp_eq E 209 gdX12_setLeft_74 (by decide) h (fun h => ?_) (fun h => ?_)
      ·
        refine g_sub E [1, 2, 3, 4, 5, 6] rfl ?_
        exact j209 o x1 x2 x3 x4 x5 v h k0 k1
      ·
        refine g_aload_n E gdX12_setLeft_77 rfl 1 rfl ?_
        refine g_iload E gdX12_setLeft_78 5 rfl ?_
        refine g_iload E gdX12_setLeft_80 0 rfl ?_
        refine g_iload_n E gdX12_setLeft_82 rfl 3 rfl ?_
        obtain ⟨r13, hc14, h⟩ := qB_of h
        refine g_Vi (r := r13) (As := [iv x4, iv r11, iv x2]) (rest := []) (w := wM g ad o) E (c_X12_leads l g ad o x4 r11 x2 r13 hc14) okm_X12_leads okw_X12_leads w_1883 rfl (wM_0 g ad o) rfl rfl (Nat.le_of_ble_eq_true rfl) ⟨Nat.le_of_ble_eq_true rfl, Nat.le_of_ble_eq_true rfl⟩ gdX12_setLeft_83 ?_
        refine g_if_eq E 209 gdX12_setLeft_86 (by decide) h (fun h => ?_) (fun h => ?_)
        ·
          refine g_sub E [1, 2, 3, 4, 5, 6] rfl ?_
          exact j209 o x1 x2 x3 x4 x5 v h k0 k1
        ·
          refine g_aload_n E gdX12_setLeft_89 rfl 1 rfl ?_
          refine g_get (T := TX12) E fw_X12 0 (wM_0 g ad o) rfl 46 (by decide) w_1512 rfl rfl gdX12_setLeft_90 ?_
          refine g_iconst E gdX12_setLeft_93 ?_
          refine g_iload E gdX12_setLeft_94 0 rfl ?_
          refine g_imul E gdX12_setLeft_96 ?_
          refine g_iload E gdX12_setLeft_97 6 rfl ?_
          refine g_iadd E gdX12_setLeft_99 ?_
          obtain ⟨hi15, h⟩ := qIn_of h
          refine g_iald E 38 (wM_38 g ad o) (by decide) hi15 gdX12_setLeft_100 ?_
          obtain ⟨n16, e_n16, h⟩ := qNm_of h
          refine g_nmi e_n16 ?_
          refine g_ldcw (k := 100000000) E gdX12_setLeft_101 w_1879 (by decide) ?_
          refine g_icmp_ge E 209 gdX12_setLeft_104 (by decide) h (fun h => ?_) (fun h => ?_)
          ·
            refine g_sub E [1, 2, 3, 4, 5, 6] rfl ?_
            exact j209 o x1 x2 x3 x4 x5 v h k0 k1
          ·
            refine g_iconst E gdX12_setLeft_107 ?_
            refine g_istore E [(7, iv 0), (6, iv r11), (0, .ref (ad 0)), (1, iv x1), (2, iv x2), (3, iv x3), (4, iv x4), (5, iv x5)] gdX12_setLeft_108 (by decide) rfl ?_
            refine g_sub E [2, 3, 4, 5, 6, 7, 1, 0] rfl ?_
            exact j110 o x1 x2 x3 x4 x5 r11 0 v h k0 k1
  have j56 : ∀ (o : OO) (x1 : Int) (x2 : Int) (x3 : Int) (x4 : Int) (x5 : Int) (v : (OO × Int × Int) ⊕ ((OO × Int))), e_X12_setLeft_56 o x1 x2 x3 x4 x5 = some v → (∀ (o : OO) (x3 : Int) (x4 : Int), v = .inl (o, x3, x4) → Go X 46 (wM g ad o) [(0, .ref (ad 0)), (1, iv x1), (2, iv x2), (3, iv x3), (4, iv x4)] []) → (∀ (o : OO) (x3 : Int), v = .inr ((o, x3)) → Go X 221 (wM g ad o) [(0, .ref (ad 0)), (1, iv x1), (2, iv x2), (3, iv x3)] []) → Go X 56 (wM g ad o) [(0, .ref (ad 0)), (1, iv x1), (2, iv x2), (3, iv x3), (4, iv x4), (5, iv x5)] [] := by
    intro o x1 x2 x3 x4 x5 v h k0 k1
    unfold e_X12_setLeft_56 at h
    obtain ⟨r, hr, h⟩ := qB_of h
    refine l56 x1 x2 x4 r _ hr ?_
    ·
      intro u0 u1 e
      subst e
      have h : b_X12_setLeft_215 u0 x1 x2 u1 x4 = some v := h
      exact j215 u0 x1 x2 u1 x4 v h k0 k1
  have l46 : ∀ (x1 : Int) (x2 : Int) (r : (OO × Int)) (s0 : OO × Int × Int), loopW (fun s => l_X12_setLeft_46 x1 x2 s.1 s.2.1 s.2.2) s0 = some r → (∀ (o : OO) (x3 : Int), r = ((o, x3)) → Go X 221 (wM g ad o) [(0, .ref (ad 0)), (1, iv x1), (2, iv x2), (3, iv x3)] []) → Go X 46 (wM g ad s0.1) [(0, .ref (ad 0)), (1, iv x1), (2, iv x2), (3, iv s0.2.1), (4, iv s0.2.2)] [] := by
    intro x1 x2 r s0 h k1
    refine loop_rule (Head := fun s0 => Go X 46 (wM g ad s0.1) [(0, .ref (ad 0)), (1, iv x1), (2, iv x2), (3, iv s0.2.1), (4, iv s0.2.2)] []) h ?_
    intro s v h kk kx
    obtain ⟨o, x3, x4⟩ := s
    have h : l_X12_setLeft_46 x1 x2 o x3 x4 = some v := h
    have k0 : ∀ (o : OO) (x3 : Int) (x4 : Int), v = .inl (o, x3, x4) → Go X 46 (wM g ad o) [(0, .ref (ad 0)), (1, iv x1), (2, iv x2), (3, iv x3), (4, iv x4)] [] := fun o x3 x4 e => kk (o, x3, x4) e
    have k1 : ∀ (o : OO) (x3 : Int), v = .inr ((o, x3)) → Go X 221 (wM g ad o) [(0, .ref (ad 0)), (1, iv x1), (2, iv x2), (3, iv x3)] [] := fun o x3 e => k1 o x3 (kx _ e).symm
    unfold l_X12_setLeft_46 at h
    refine g_iload E gdX12_setLeft_46 4 rfl ?_
    refine g_bipush E gdX12_setLeft_48 (by decide) ?_
    refine g_icmp_ge E 221 gdX12_setLeft_50 (by decide) h (fun h => ?_) (fun h => ?_)
    ·
      refine g_sub E [0, 1, 2, 3] rfl ?_
      exact k1 o x3 (Option.some.inj h).symm
    ·
      refine g_iconst E gdX12_setLeft_53 ?_
      refine g_istore E [(5, iv 0), (0, .ref (ad 0)), (1, iv x1), (2, iv x2), (3, iv x3), (4, iv x4)] gdX12_setLeft_54 (by decide) rfl ?_
      refine g_sub E [1, 2, 3, 4, 5, 0] rfl ?_
      exact j56 o x1 x2 x3 x4 0 v h k0 k1
  have j46 : ∀ (o : OO) (x1 : Int) (x2 : Int) (x3 : Int) (x4 : Int) (v : (OO × Int) ⊕ ((OO))), e_X12_setLeft_46 o x1 x2 x3 x4 = some v → (∀ (o : OO) (x3 : Int), v = .inl (o, x3) → Go X 37 (wM g ad o) [(0, .ref (ad 0)), (1, iv x1), (2, iv x2), (3, iv x3)] []) → (∀ (o : OO), v = .inr (o) → Go X 224 (wM g ad o) [] []) → Go X 46 (wM g ad o) [(0, .ref (ad 0)), (1, iv x1), (2, iv x2), (3, iv x3), (4, iv x4)] [] := by
    intro o x1 x2 x3 x4 v h k0 k1
    unfold e_X12_setLeft_46 at h
    obtain ⟨r, hr, h⟩ := qB_of h
    refine l46 x1 x2 r _ hr ?_
    ·
      intro u0 u1 e
      subst e
      have h : b_X12_setLeft_221 u0 x1 x2 u1 = some v := h
      exact j221 u0 x1 x2 u1 v h k0 k1
  have l37 : ∀ (x1 : Int) (x2 : Int) (r : (OO)) (s0 : OO × Int), loopW (fun s => l_X12_setLeft_37 x1 x2 s.1 s.2) s0 = some r → (∀ (o : OO), r = (o) → Go X 224 (wM g ad o) [] []) → Go X 37 (wM g ad s0.1) [(0, .ref (ad 0)), (1, iv x1), (2, iv x2), (3, iv s0.2)] [] := by
    intro x1 x2 r s0 h k1
    refine loop_rule (Head := fun s0 => Go X 37 (wM g ad s0.1) [(0, .ref (ad 0)), (1, iv x1), (2, iv x2), (3, iv s0.2)] []) h ?_
    intro s v h kk kx
    obtain ⟨o, x3⟩ := s
    have h : l_X12_setLeft_37 x1 x2 o x3 = some v := h
    have k0 : ∀ (o : OO) (x3 : Int), v = .inl (o, x3) → Go X 37 (wM g ad o) [(0, .ref (ad 0)), (1, iv x1), (2, iv x2), (3, iv x3)] [] := fun o x3 e => kk (o, x3) e
    have k1 : ∀ (o : OO), v = .inr (o) → Go X 224 (wM g ad o) [] [] := fun o e => k1 o (kx _ e).symm
    unfold l_X12_setLeft_37 at h
    refine g_iload_n E gdX12_setLeft_37 rfl 3 rfl ?_
    refine g_if_eq E 224 gdX12_setLeft_38 (by decide) h (fun h => ?_) (fun h => ?_)
    ·
      refine g_sub E [] rfl ?_
      exact k1 o (Option.some.inj h).symm
    ·
      refine g_iconst E gdX12_setLeft_41 ?_
      refine g_istore_n E [(3, iv 0), (0, .ref (ad 0)), (1, iv x1), (2, iv x2)] gdX12_setLeft_42 rfl (by decide) rfl ?_
      refine g_iconst E gdX12_setLeft_43 ?_
      refine g_istore E [(4, iv 0), (3, iv 0), (0, .ref (ad 0)), (1, iv x1), (2, iv x2)] gdX12_setLeft_44 (by decide) rfl ?_
      refine g_sub E [2, 3, 4, 1, 0] rfl ?_
      exact j46 o x1 x2 0 0 v h k0 k1
  have j37 : ∀ (o : OO) (x1 : Int) (x2 : Int) (x3 : Int), e_X12_setLeft_37 o x1 x2 x3 = some v → Go X 37 (wM g ad o) [(0, .ref (ad 0)), (1, iv x1), (2, iv x2), (3, iv x3)] [] := by
    intro o x1 x2 x3 h
    unfold e_X12_setLeft_37 at h
    obtain ⟨r, hr, h⟩ := qB_of h
    refine l37 x1 x2 r _ hr ?_
    ·
      intro u0 e
      have e := e.symm
      subst e
      have h : b_X12_setLeft_224 u0 = some v := h
      exact j224 u0 h
  have j35 : ∀ (o : OO) (x1 : Int) (x2 : Int), b_X12_setLeft_35 o x1 x2 = some v → Go X 35 (wM g ad o) [(0, .ref (ad 0)), (1, iv x1), (2, iv x2)] [] := by
    intro o x1 x2 h
    unfold b_X12_setLeft_35 at h
    refine g_iconst E gdX12_setLeft_35 ?_
    refine g_istore_n E [(3, iv 1), (0, .ref (ad 0)), (1, iv x1), (2, iv x2)] gdX12_setLeft_36 rfl (by decide) rfl ?_
    refine g_sub E [1, 2, 3, 0] rfl ?_
    exact j37 o x1 x2 1 h
  have j28 : ∀ (o : OO) (x1 : Int) (x2 : Int) (x3 : Int) (y1 : Int) (y2 : Int) (v : (OO × Int) ⊕ ((OO))), b_X12_setLeft_28 o x1 x2 x3 y1 y2 = some v → (∀ (o : OO) (x3 : Int), v = .inl (o, x3) → Go X 2 (wM g ad o) [(0, .ref (ad 0)), (1, iv x1), (2, iv x2), (3, iv x3)] []) → (∀ (o : OO), v = .inr (o) → Go X 35 (wM g ad o) [(0, .ref (ad 0)), (1, iv x1), (2, iv x2)] []) → Go X 28 (wM g ad o) [(0, .ref (ad 0)), (1, iv x1), (2, iv x2), (3, iv x3)] [iv y2, iv y1, .ref (ad 38)] := by
    intro o x1 x2 x3 y1 y2 v h k0 k1
    unfold b_X12_setLeft_28 at h
    obtain ⟨hi17, h⟩ := qIn_of h
    obtain ⟨o18, e_o18, h⟩ := qNm_of h
    refine g_iast (ws' := wM g ad o18) E 38 (wM_38 g ad o) (by decide) hi17 (by rw [e_o18]; exact wM_s38 g ad o _ _) gdX12_setLeft_28 ?_
    refine g_iinc E [(3, iv (x3 + 1)), (0, .ref (ad 0)), (1, iv x1), (2, iv x2)] gdX12_setLeft_29 3 rfl (by decide) rfl ?_
    refine g_goto E 2 gdX12_setLeft_32 (by decide) ?_
    refine g_sub E [1, 2, 3, 0] rfl ?_
    exact k0 o18 (x3 + 1) (Option.some.inj h).symm
  have l2 : ∀ (x1 : Int) (x2 : Int) (r : (OO)) (s0 : OO × Int), loopW (fun s => l_X12_setLeft_2 x1 x2 s.1 s.2) s0 = some r → (∀ (o : OO), r = (o) → Go X 35 (wM g ad o) [(0, .ref (ad 0)), (1, iv x1), (2, iv x2)] []) → Go X 2 (wM g ad s0.1) [(0, .ref (ad 0)), (1, iv x1), (2, iv x2), (3, iv s0.2)] [] := by
    intro x1 x2 r s0 h k1
    refine loop_rule (Head := fun s0 => Go X 2 (wM g ad s0.1) [(0, .ref (ad 0)), (1, iv x1), (2, iv x2), (3, iv s0.2)] []) h ?_
    intro s v h kk kx
    obtain ⟨o, x3⟩ := s
    have h : l_X12_setLeft_2 x1 x2 o x3 = some v := h
    have k0 : ∀ (o : OO) (x3 : Int), v = .inl (o, x3) → Go X 2 (wM g ad o) [(0, .ref (ad 0)), (1, iv x1), (2, iv x2), (3, iv x3)] [] := fun o x3 e => kk (o, x3) e
    have k1 : ∀ (o : OO), v = .inr (o) → Go X 35 (wM g ad o) [(0, .ref (ad 0)), (1, iv x1), (2, iv x2)] [] := fun o e => k1 o (kx _ e).symm
    unfold l_X12_setLeft_2 at h
    refine g_iload_n E gdX12_setLeft_2 rfl 3 rfl ?_
    refine g_sipush E gdX12_setLeft_3 (by decide) ?_
    refine g_icmp_ge E 35 gdX12_setLeft_6 (by decide) h (fun h => ?_) (fun h => ?_)
    ·
      refine g_sub E [0, 1, 2] rfl ?_
      exact k1 o (Option.some.inj h).symm
    ·
      refine g_aload_n E gdX12_setLeft_9 rfl 0 rfl ?_
      refine g_get (T := TX12) E fw_X12 0 (wM_0 g ad o) rfl 46 (by decide) w_1512 rfl rfl gdX12_setLeft_10 ?_
      refine g_iload_n E gdX12_setLeft_13 rfl 3 rfl ?_
      refine g_iload_n E gdX12_setLeft_14 rfl 3 rfl ?_
      refine g_iconst E gdX12_setLeft_15 ?_
      obtain ⟨hd19, h⟩ := qDv_of h
      refine g_idiv E hd19 gdX12_setLeft_16 ?_
      refine g_iload_n E gdX12_setLeft_17 rfl 1 rfl ?_
      refine g_icmp_ne E 25 gdX12_setLeft_18 (by decide) h (fun h => ?_) (fun h => ?_)
      ·
        refine g_ldcw (k := 100000000) E gdX12_setLeft_25 w_1879 (by decide) ?_
        exact j28 o x1 x2 x3 x3 100000000 v h k0 k1
      ·
        refine g_iconst E gdX12_setLeft_21 ?_
        refine g_goto E 28 gdX12_setLeft_22 (by decide) ?_
        exact j28 o x1 x2 x3 x3 0 v h k0 k1
  have j2 : ∀ (o : OO) (x1 : Int) (x2 : Int) (x3 : Int), e_X12_setLeft_2 o x1 x2 x3 = some v → Go X 2 (wM g ad o) [(0, .ref (ad 0)), (1, iv x1), (2, iv x2), (3, iv x3)] [] := by
    intro o x1 x2 x3 h
    unfold e_X12_setLeft_2 at h
    obtain ⟨r, hr, h⟩ := qB_of h
    refine l2 x1 x2 r _ hr ?_
    ·
      intro u0 e
      have e := e.symm
      subst e
      have h : b_X12_setLeft_35 u0 x1 x2 = some v := h
      exact j35 u0 x1 x2 h
  unfold s_X12_setLeft at h
  refine g_iconst E gdX12_setLeft_0 ?_
  refine g_istore_n E [(3, iv 0), (0, .ref (ad 0)), (1, iv x1), (2, iv x2)] gdX12_setLeft_1 rfl (by decide) rfl ?_
  refine g_sub E [1, 2, 3, 0] rfl ?_
  exact j2 o x1 x2 0 h
