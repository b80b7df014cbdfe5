set_option maxRecDepth 200000 in
theorem w_1996 : Cond.code yX12_heard cX12_heard 5 (some .int) ∈ tb := tb_mem 1996 (by rfl) rfl
set_option maxRecDepth 200000 in
theorem w_1995 : Cond.instanceMethod yX12_heard ∈ tb := tb_mem 1995 (by decide +kernel) rfl
set_option maxRecDepth 200000 in
theorem w_68 : Cond.selects "CityRoadModel" yX12_heard yX12_heard ∈ tb := tb_mem 68 (by decide +kernel) rfl
set_option maxRecDepth 200000 in
theorem w_1993 : Cond.methodLink "CityRoadModel" 374 yX12_heard ∈ tb := tb_mem 1993 (by decide +kernel) rfl
set_option maxRecDepth 200000 in
theorem w_2004 : Cond.code yX12_knew cX12_knew 5 (some .boolean) ∈ tb := tb_mem 2004 (by rfl) rfl
set_option maxRecDepth 200000 in
theorem w_2003 : Cond.instanceMethod yX12_knew ∈ tb := tb_mem 2003 (by decide +kernel) rfl
set_option maxRecDepth 200000 in
theorem w_69 : Cond.selects "CityRoadModel" yX12_knew yX12_knew ∈ tb := tb_mem 69 (by decide +kernel) rfl
set_option maxRecDepth 200000 in
theorem w_2001 : Cond.methodLink "CityRoadModel" 377 yX12_knew ∈ tb := tb_mem 2001 (by decide +kernel) rfl
set_option maxRecDepth 200000 in
theorem w_1528 : Cond.fieldLink "CityRoadModel" 165 "CityRoadModel" "steps" "[I" ∈ tb := tb_mem 1528 (by decide +kernel) rfl
set_option maxRecDepth 200000 in
theorem w_1882 : Cond.code yX12_beside cX12_beside 2 (some .int) ∈ tb := tb_mem 1882 (by rfl) rfl
set_option maxRecDepth 200000 in
theorem w_1881 : Cond.static yX12_beside ∈ tb := tb_mem 1881 (by decide +kernel) rfl
set_option maxRecDepth 200000 in
theorem w_1880 : Cond.methodLink "CityRoadModel" 315 yX12_beside ∈ tb := tb_mem 1880 (by decide +kernel) rfl
set_option maxRecDepth 200000 in
theorem w_1469 : Cond.fieldLink "CityRoadModel" 364 "CityRoadModel" "cellSet" "J" ∈ tb := tb_mem 1469 (by decide +kernel) rfl
set_option maxRecDepth 200000 in
theorem w_1529 : Cond.fieldLink "CityRoadModel" 168 "CityRoadModel" "walkers" "[I" ∈ tb := tb_mem 1529 (by decide +kernel) rfl
set_option maxRecDepth 200000 in
theorem w_2029 : Cond.constantLong "CityRoadModel" 395 (-1) ∈ tb := tb_mem 2029 (by decide +kernel) rfl
set_option maxRecDepth 200000 in
theorem w_2028 : Cond.code yX12_setSteps cX12_setSteps 8 none ∈ tb := tb_mem 2028 (by rfl) rfl
set_option maxRecDepth 200000 in
theorem w_2027 : Cond.instanceMethod yX12_setSteps ∈ tb := tb_mem 2027 (by decide +kernel) rfl
set_option maxRecDepth 200000 in
theorem w_73 : Cond.selects "CityRoadModel" yX12_setSteps yX12_setSteps ∈ tb := tb_mem 73 (by decide +kernel) rfl
set_option maxRecDepth 200000 in
theorem w_2025 : Cond.methodLink "CityRoadModel" 391 yX12_setSteps ∈ tb := tb_mem 2025 (by decide +kernel) rfl
set_option maxRecDepth 200000 in
theorem w_1734 : Cond.code yX12_isText cX12_isText 1 (some .boolean) ∈ tb := tb_mem 1734 (by rfl) rfl
set_option maxRecDepth 200000 in
theorem w_1733 : Cond.static yX12_isText ∈ tb := tb_mem 1733 (by decide +kernel) rfl
set_option maxRecDepth 200000 in
theorem w_1732 : Cond.methodLink "CityRoadModel" 220 yX12_isText ∈ tb := tb_mem 1732 (by decide +kernel) rfl
set_option maxRecDepth 200000 in
theorem w_1480 : Cond.fieldLink "CityRoadModel" 37 "CityRoadModel" "items" "[I" ∈ tb := tb_mem 1480 (by decide +kernel) rfl
set_option maxRecDepth 200000 in
theorem w_1757 : Cond.code yX12_letter cX12_letter 1 (some .int) ∈ tb := tb_mem 1757 (by rfl) rfl
set_option maxRecDepth 200000 in
theorem w_1756 : Cond.static yX12_letter ∈ tb := tb_mem 1756 (by decide +kernel) rfl
set_option maxRecDepth 200000 in
theorem w_1755 : Cond.methodLink "CityRoadModel" 232 yX12_letter ∈ tb := tb_mem 1755 (by decide +kernel) rfl
set_option maxRecDepth 200000 in
theorem w_1742 : Cond.code yX12_askedText cX12_askedText 2 (some .int) ∈ tb := tb_mem 1742 (by rfl) rfl
set_option maxRecDepth 200000 in
theorem w_1741 : Cond.instanceMethod yX12_askedText ∈ tb := tb_mem 1741 (by decide +kernel) rfl
set_option maxRecDepth 200000 in
theorem w_39 : Cond.selects "CityRoadModel" yX12_askedText yX12_askedText ∈ tb := tb_mem 39 (by decide +kernel) rfl
set_option maxRecDepth 200000 in
theorem w_1739 : Cond.methodLink "CityRoadModel" 226 yX12_askedText ∈ tb := tb_mem 1739 (by decide +kernel) rfl
set_option maxRecDepth 200000 in
theorem w_1754 : Cond.code yX12_reads cX12_reads 6 (some .int) ∈ tb := tb_mem 1754 (by rfl) rfl
set_option maxRecDepth 200000 in
theorem w_1753 : Cond.instanceMethod yX12_reads ∈ tb := tb_mem 1753 (by decide +kernel) rfl
set_option maxRecDepth 200000 in
theorem w_40 : Cond.selects "CityRoadModel" yX12_reads yX12_reads ∈ tb := tb_mem 40 (by decide +kernel) rfl
set_option maxRecDepth 200000 in
theorem w_1751 : Cond.methodLink "CityRoadModel" 235 yX12_reads ∈ tb := tb_mem 1751 (by decide +kernel) rfl
set_option maxRecDepth 200000 in
theorem w_1764 : Cond.code yX12_isDay cX12_isDay 1 (some .boolean) ∈ tb := tb_mem 1764 (by rfl) rfl
set_option maxRecDepth 200000 in
theorem w_1763 : Cond.static yX12_isDay ∈ tb := tb_mem 1763 (by decide +kernel) rfl
set_option maxRecDepth 200000 in
theorem w_1762 : Cond.methodLink "CityRoadModel" 238 yX12_isDay ∈ tb := tb_mem 1762 (by decide +kernel) rfl
set_option maxRecDepth 200000 in
theorem w_1771 : Cond.code yX12_isAsked cX12_isAsked 3 (some .boolean) ∈ tb := tb_mem 1771 (by rfl) rfl
set_option maxRecDepth 200000 in
theorem w_1770 : Cond.static yX12_isAsked ∈ tb := tb_mem 1770 (by decide +kernel) rfl
set_option maxRecDepth 200000 in
theorem w_1769 : Cond.methodLink "CityRoadModel" 251 yX12_isAsked ∈ tb := tb_mem 1769 (by decide +kernel) rfl
set_option maxRecDepth 200000 in
theorem w_1898 : Cond.code yX12_enter cX12_enter 3 (some .int) ∈ tb := tb_mem 1898 (by rfl) rfl
set_option maxRecDepth 200000 in
theorem w_1897 : Cond.instanceMethod yX12_enter ∈ tb := tb_mem 1897 (by decide +kernel) rfl
set_option maxRecDepth 200000 in
theorem w_59 : Cond.selects "CityRoadModel" yX12_enter yX12_enter ∈ tb := tb_mem 59 (by decide +kernel) rfl
set_option maxRecDepth 200000 in
theorem w_1895 : Cond.methodLink "CityRoadModel" 334 yX12_enter ∈ tb := tb_mem 1895 (by decide +kernel) rfl
set_option maxRecDepth 200000 in
theorem w_1509 : Cond.fieldLink "CityRoadModel" 114 "CityRoadModel" "first" "[I" ∈ tb := tb_mem 1509 (by decide +kernel) rfl
set_option maxRecDepth 200000 in
theorem w_1510 : Cond.fieldLink "CityRoadModel" 117 "CityRoadModel" "second" "[I" ∈ tb := tb_mem 1510 (by decide +kernel) rfl
set_option maxRecDepth 200000 in
theorem w_2086 : Cond.constantLong "CityRoadModel" 422 (10) ∈ tb := tb_mem 2086 (by decide +kernel) rfl
theorem gdX12_knew_24 : decode cX12_knew 24 = .ok (.ireturn, 1) := by decide +kernel
theorem gdX12_knew_23 : decode cX12_knew 23 = .ok (.iconst 0, 1) := by decide +kernel
theorem gdX12_knew_0 : decode cX12_knew 0 = .ok (.aload_n 0, 1) := by decide +kernel
theorem gdX12_knew_1 : decode cX12_knew 1 = .ok (.iload_n 1, 1) := by decide +kernel
theorem gdX12_knew_2 : decode cX12_knew 2 = .ok (.iload_n 2, 1) := by decide +kernel
theorem gdX12_knew_3 : decode cX12_knew 3 = .ok (.invokevirtual 374, 3) := by decide +kernel
theorem gdX12_knew_6 : decode cX12_knew 6 = .ok (.istore 4, 2) := by decide +kernel
theorem gdX12_knew_8 : decode cX12_knew 8 = .ok (.iload 4, 2) := by decide +kernel
theorem gdX12_knew_10 : decode cX12_knew 10 = .ok (.ifCond .lt 13, 3) := by decide +kernel
theorem gdX12_knew_13 : decode cX12_knew 13 = .ok (.iload 4, 2) := by decide +kernel
theorem gdX12_knew_15 : decode cX12_knew 15 = .ok (.iload_n 3, 1) := by decide +kernel
theorem gdX12_knew_16 : decode cX12_knew 16 = .ok (.if_icmp .gt 7, 3) := by decide +kernel
theorem gdX12_knew_19 : decode cX12_knew 19 = .ok (.iconst 1, 1) := by decide +kernel
theorem gdX12_knew_20 : decode cX12_knew 20 = .ok (.goto 4, 3) := by decide +kernel
theorem gdX12_early_233 : decode cX12_early 233 = .ok (.bipush 100, 2) := by decide +kernel
theorem gdX12_early_235 : decode cX12_early 235 = .ok (.iload_n 3, 1) := by decide +kernel
theorem gdX12_early_236 : decode cX12_early 236 = .ok (.imul, 1) := by decide +kernel
theorem gdX12_early_237 : decode cX12_early 237 = .ok (.iload 4, 2) := by decide +kernel
theorem gdX12_early_239 : decode cX12_early 239 = .ok (.iadd, 1) := by decide +kernel
theorem gdX12_early_240 : decode cX12_early 240 = .ok (.ireturn, 1) := by decide +kernel
theorem gdX12_early_227 : decode cX12_early 227 = .ok (.iinc 5 1, 3) := by decide +kernel
theorem gdX12_early_230 : decode cX12_early 230 = .ok (.goto (-210), 3) := by decide +kernel
theorem gdX12_early_224 : decode cX12_early 224 = .ok (.iadd, 1) := by decide +kernel
theorem gdX12_early_225 : decode cX12_early 225 = .ok (.istore 4, 2) := by decide +kernel
theorem gdX12_early_223 : decode cX12_early 223 = .ok (.iconst 0, 1) := by decide +kernel
theorem gdX12_early_205 : decode cX12_early 205 = .ok (.iadd, 1) := by decide +kernel
theorem gdX12_early_206 : decode cX12_early 206 = .ok (.istore_n 3, 1) := by decide +kernel
theorem gdX12_early_207 : decode cX12_early 207 = .ok (.iload 4, 2) := by decide +kernel
theorem gdX12_early_209 : decode cX12_early 209 = .ok (.iload 8, 2) := by decide +kernel
theorem gdX12_early_211 : decode cX12_early 211 = .ok (.ifCond .ne 12, 3) := by decide +kernel
theorem gdX12_early_214 : decode cX12_early 214 = .ok (.iload 7, 2) := by decide +kernel
theorem gdX12_early_216 : decode cX12_early 216 = .ok (.ifCond .eq 7, 3) := by decide +kernel
theorem gdX12_early_219 : decode cX12_early 219 = .ok (.iconst 1, 1) := by decide +kernel
theorem gdX12_early_220 : decode cX12_early 220 = .ok (.goto 4, 3) := by decide +kernel
theorem gdX12_early_173 : decode cX12_early 173 = .ok (.aload_n 0, 1) := by decide +kernel
theorem gdX12_early_174 : decode cX12_early 174 = .ok (.aload_n 0, 1) := by decide +kernel
theorem gdX12_early_175 : decode cX12_early 175 = .ok (.getfield 132, 3) := by decide +kernel
theorem gdX12_early_178 : decode cX12_early 178 = .ok (.iload 5, 2) := by decide +kernel
theorem gdX12_early_180 : decode cX12_early 180 = .ok (.iaload, 1) := by decide +kernel
theorem gdX12_early_181 : decode cX12_early 181 = .ok (.iload_n 1, 1) := by decide +kernel
theorem gdX12_early_182 : decode cX12_early 182 = .ok (.aload_n 0, 1) := by decide +kernel
theorem gdX12_early_183 : decode cX12_early 183 = .ok (.getfield 135, 3) := by decide +kernel
theorem gdX12_early_186 : decode cX12_early 186 = .ok (.iload 5, 2) := by decide +kernel
theorem gdX12_early_188 : decode cX12_early 188 = .ok (.iaload, 1) := by decide +kernel
theorem gdX12_early_189 : decode cX12_early 189 = .ok (.invokevirtual 377, 3) := by decide +kernel
theorem gdX12_early_192 : decode cX12_early 192 = .ok (.istore 8, 2) := by decide +kernel
theorem gdX12_early_194 : decode cX12_early 194 = .ok (.iload_n 3, 1) := by decide +kernel
theorem gdX12_early_195 : decode cX12_early 195 = .ok (.iload 8, 2) := by decide +kernel
theorem gdX12_early_197 : decode cX12_early 197 = .ok (.ifCond .eq 7, 3) := by decide +kernel
theorem gdX12_early_204 : decode cX12_early 204 = .ok (.iconst 0, 1) := by decide +kernel
theorem gdX12_early_200 : decode cX12_early 200 = .ok (.iconst 1, 1) := by decide +kernel
theorem gdX12_early_201 : decode cX12_early 201 = .ok (.goto 4, 3) := by decide +kernel
theorem gdX12_early_165 : decode cX12_early 165 = .ok (.istore 7, 2) := by decide +kernel
theorem gdX12_early_167 : decode cX12_early 167 = .ok (.iinc 8 1, 3) := by decide +kernel
theorem gdX12_early_170 : decode cX12_early 170 = .ok (.goto (-75), 3) := by decide +kernel
theorem gdX12_early_160 : decode cX12_early 160 = .ok (.iconst 1, 1) := by decide +kernel
theorem gdX12_early_161 : decode cX12_early 161 = .ok (.goto 4, 3) := by decide +kernel
theorem gdX12_early_164 : decode cX12_early 164 = .ok (.iconst 0, 1) := by decide +kernel
theorem gdX12_early_95 : decode cX12_early 95 = .ok (.iload 8, 2) := by decide +kernel
theorem gdX12_early_97 : decode cX12_early 97 = .ok (.aload_n 0, 1) := by decide +kernel
theorem gdX12_early_98 : decode cX12_early 98 = .ok (.getfield 281, 3) := by decide +kernel
theorem gdX12_early_101 : decode cX12_early 101 = .ok (.if_icmp .ge 72, 3) := by decide +kernel
theorem gdX12_early_104 : decode cX12_early 104 = .ok (.iload 7, 2) := by decide +kernel
theorem gdX12_early_106 : decode cX12_early 106 = .ok (.ifCond .ne 54, 3) := by decide +kernel
theorem gdX12_early_109 : decode cX12_early 109 = .ok (.iload 8, 2) := by decide +kernel
theorem gdX12_early_111 : decode cX12_early 111 = .ok (.aload_n 0, 1) := by decide +kernel
theorem gdX12_early_112 : decode cX12_early 112 = .ok (.getfield 132, 3) := by decide +kernel
theorem gdX12_early_115 : decode cX12_early 115 = .ok (.iload 5, 2) := by decide +kernel
theorem gdX12_early_117 : decode cX12_early 117 = .ok (.iaload, 1) := by decide +kernel
theorem gdX12_early_118 : decode cX12_early 118 = .ok (.if_icmp .eq 46, 3) := by decide +kernel
theorem gdX12_early_121 : decode cX12_early 121 = .ok (.aload_n 0, 1) := by decide +kernel
theorem gdX12_early_122 : decode cX12_early 122 = .ok (.getfield 80, 3) := by decide +kernel
theorem gdX12_early_125 : decode cX12_early 125 = .ok (.iload 8, 2) := by decide +kernel
theorem gdX12_early_127 : decode cX12_early 127 = .ok (.iaload, 1) := by decide +kernel
theorem gdX12_early_128 : decode cX12_early 128 = .ok (.aload_n 0, 1) := by decide +kernel
theorem gdX12_early_129 : decode cX12_early 129 = .ok (.getfield 80, 3) := by decide +kernel
theorem gdX12_early_132 : decode cX12_early 132 = .ok (.aload_n 0, 1) := by decide +kernel
theorem gdX12_early_133 : decode cX12_early 133 = .ok (.getfield 132, 3) := by decide +kernel
theorem gdX12_early_136 : decode cX12_early 136 = .ok (.iload 5, 2) := by decide +kernel
theorem gdX12_early_138 : decode cX12_early 138 = .ok (.iaload, 1) := by decide +kernel
theorem gdX12_early_139 : decode cX12_early 139 = .ok (.iaload, 1) := by decide +kernel
theorem gdX12_early_140 : decode cX12_early 140 = .ok (.if_icmp .ne 24, 3) := by decide +kernel
theorem gdX12_early_143 : decode cX12_early 143 = .ok (.aload_n 0, 1) := by decide +kernel
theorem gdX12_early_144 : decode cX12_early 144 = .ok (.iload 8, 2) := by decide +kernel
theorem gdX12_early_146 : decode cX12_early 146 = .ok (.iload_n 1, 1) := by decide +kernel
theorem gdX12_early_147 : decode cX12_early 147 = .ok (.aload_n 0, 1) := by decide +kernel
theorem gdX12_early_148 : decode cX12_early 148 = .ok (.getfield 135, 3) := by decide +kernel
theorem gdX12_early_151 : decode cX12_early 151 = .ok (.iload 5, 2) := by decide +kernel
theorem gdX12_early_153 : decode cX12_early 153 = .ok (.iaload, 1) := by decide +kernel
theorem gdX12_early_154 : decode cX12_early 154 = .ok (.invokevirtual 377, 3) := by decide +kernel
theorem gdX12_early_157 : decode cX12_early 157 = .ok (.ifCond .eq 7, 3) := by decide +kernel
theorem gdX12_early_59 : decode cX12_early 59 = .ok (.istore 6, 2) := by decide +kernel
theorem gdX12_early_61 : decode cX12_early 61 = .ok (.iload 6, 2) := by decide +kernel
theorem gdX12_early_63 : decode cX12_early 63 = .ok (.ifCond .eq 164, 3) := by decide +kernel
theorem gdX12_early_66 : decode cX12_early 66 = .ok (.aload_n 0, 1) := by decide +kernel
theorem gdX12_early_67 : decode cX12_early 67 = .ok (.iload_n 1, 1) := by decide +kernel
theorem gdX12_early_68 : decode cX12_early 68 = .ok (.invokevirtual 340, 3) := by decide +kernel
theorem gdX12_early_71 : decode cX12_early 71 = .ok (.aload_n 0, 1) := by decide +kernel
theorem gdX12_early_72 : decode cX12_early 72 = .ok (.getfield 46, 3) := by decide +kernel
theorem gdX12_early_75 : decode cX12_early 75 = .ok (.aload_n 0, 1) := by decide +kernel
theorem gdX12_early_76 : decode cX12_early 76 = .ok (.getfield 129, 3) := by decide +kernel
theorem gdX12_early_79 : decode cX12_early 79 = .ok (.iload 5, 2) := by decide +kernel
theorem gdX12_early_81 : decode cX12_early 81 = .ok (.iaload, 1) := by decide +kernel
theorem gdX12_early_82 : decode cX12_early 82 = .ok (.iaload, 1) := by decide +kernel
theorem gdX12_early_83 : decode cX12_early 83 = .ok (.invokestatic 344, 3) := by decide +kernel
theorem gdX12_early_86 : decode cX12_early 86 = .ok (.ifCond .eq 141, 3) := by decide +kernel
theorem gdX12_early_89 : decode cX12_early 89 = .ok (.iconst 0, 1) := by decide +kernel
theorem gdX12_early_90 : decode cX12_early 90 = .ok (.istore 7, 2) := by decide +kernel
theorem gdX12_early_92 : decode cX12_early 92 = .ok (.iconst 0, 1) := by decide +kernel
theorem gdX12_early_93 : decode cX12_early 93 = .ok (.istore 8, 2) := by decide +kernel
theorem gdX12_early_54 : decode cX12_early 54 = .ok (.iconst 1, 1) := by decide +kernel
theorem gdX12_early_55 : decode cX12_early 55 = .ok (.goto 4, 3) := by decide +kernel
theorem gdX12_early_20 : decode cX12_early 20 = .ok (.iload 5, 2) := by decide +kernel
theorem gdX12_early_22 : decode cX12_early 22 = .ok (.aload_n 0, 1) := by decide +kernel
theorem gdX12_early_23 : decode cX12_early 23 = .ok (.getfield 368, 3) := by decide +kernel
theorem gdX12_early_26 : decode cX12_early 26 = .ok (.if_icmp .ge 207, 3) := by decide +kernel
theorem gdX12_early_29 : decode cX12_early 29 = .ok (.aload_n 0, 1) := by decide +kernel
theorem gdX12_early_30 : decode cX12_early 30 = .ok (.getfield 95, 3) := by decide +kernel
theorem gdX12_early_33 : decode cX12_early 33 = .ok (.iload_n 1, 1) := by decide +kernel
theorem gdX12_early_34 : decode cX12_early 34 = .ok (.iaload, 1) := by decide +kernel
theorem gdX12_early_35 : decode cX12_early 35 = .ok (.ifCond .lt 19, 3) := by decide +kernel
theorem gdX12_early_38 : decode cX12_early 38 = .ok (.aload_n 0, 1) := by decide +kernel
theorem gdX12_early_39 : decode cX12_early 39 = .ok (.getfield 135, 3) := by decide +kernel
theorem gdX12_early_42 : decode cX12_early 42 = .ok (.iload 5, 2) := by decide +kernel
theorem gdX12_early_44 : decode cX12_early 44 = .ok (.iaload, 1) := by decide +kernel
theorem gdX12_early_45 : decode cX12_early 45 = .ok (.aload_n 0, 1) := by decide +kernel
theorem gdX12_early_46 : decode cX12_early 46 = .ok (.getfield 95, 3) := by decide +kernel
theorem gdX12_early_49 : decode cX12_early 49 = .ok (.iload_n 1, 1) := by decide +kernel
theorem gdX12_early_50 : decode cX12_early 50 = .ok (.iaload, 1) := by decide +kernel
theorem gdX12_early_51 : decode cX12_early 51 = .ok (.if_icmp .ge 7, 3) := by decide +kernel
theorem gdX12_early_58 : decode cX12_early 58 = .ok (.iconst 0, 1) := by decide +kernel
theorem gdX12_early_0 : decode cX12_early 0 = .ok (.aload_n 0, 1) := by decide +kernel
theorem gdX12_early_1 : decode cX12_early 1 = .ok (.iload_n 1, 1) := by decide +kernel
theorem gdX12_early_2 : decode cX12_early 2 = .ok (.invokevirtual 348, 3) := by decide +kernel
theorem gdX12_early_5 : decode cX12_early 5 = .ok (.istore_n 2, 1) := by decide +kernel
theorem gdX12_early_6 : decode cX12_early 6 = .ok (.iload_n 2, 1) := by decide +kernel
theorem gdX12_early_7 : decode cX12_early 7 = .ok (.ifCond .ge 5, 3) := by decide +kernel
theorem gdX12_early_12 : decode cX12_early 12 = .ok (.iconst 0, 1) := by decide +kernel
theorem gdX12_early_13 : decode cX12_early 13 = .ok (.istore_n 3, 1) := by decide +kernel
theorem gdX12_early_14 : decode cX12_early 14 = .ok (.iconst 0, 1) := by decide +kernel
theorem gdX12_early_15 : decode cX12_early 15 = .ok (.istore 4, 2) := by decide +kernel
theorem gdX12_early_17 : decode cX12_early 17 = .ok (.iconst 0, 1) := by decide +kernel
theorem gdX12_early_18 : decode cX12_early 18 = .ok (.istore 5, 2) := by decide +kernel
theorem gdX12_early_10 : decode cX12_early 10 = .ok (.iload_n 2, 1) := by decide +kernel
theorem gdX12_early_11 : decode cX12_early 11 = .ok (.ireturn, 1) := by decide +kernel
theorem gdX12_beside_44 : decode cX12_beside 44 = .ok (.ireturn, 1) := by decide +kernel
theorem gdX12_beside_60 : decode cX12_beside 60 = .ok (.ireturn, 1) := by decide +kernel
theorem gdX12_beside_78 : decode cX12_beside 78 = .ok (.ireturn, 1) := by decide +kernel
theorem gdX12_beside_97 : decode cX12_beside 97 = .ok (.ireturn, 1) := by decide +kernel
theorem gdX12_beside_0 : decode cX12_beside 0 = .ok (.iload_n 1, 1) := by decide +kernel
theorem gdX12_beside_1 : decode cX12_beside 1 = .ok (.tableswitch 78 0 2 #[27, 44, 60], 27) := by decide +kernel
theorem gdX12_beside_28 : decode cX12_beside 28 = .ok (.iload_n 0, 1) := by decide +kernel
theorem gdX12_beside_29 : decode cX12_beside 29 = .ok (.bipush 8, 2) := by decide +kernel
theorem gdX12_beside_31 : decode cX12_beside 31 = .ok (.idiv, 1) := by decide +kernel
theorem gdX12_beside_32 : decode cX12_beside 32 = .ok (.ifCond .le 10, 3) := by decide +kernel
theorem gdX12_beside_42 : decode cX12_beside 42 = .ok (.bipush (-9), 2) := by decide +kernel
theorem gdX12_beside_35 : decode cX12_beside 35 = .ok (.iload_n 0, 1) := by decide +kernel
theorem gdX12_beside_36 : decode cX12_beside 36 = .ok (.bipush 8, 2) := by decide +kernel
theorem gdX12_beside_38 : decode cX12_beside 38 = .ok (.isub, 1) := by decide +kernel
theorem gdX12_beside_39 : decode cX12_beside 39 = .ok (.goto 5, 3) := by decide +kernel
theorem gdX12_beside_45 : decode cX12_beside 45 = .ok (.iload_n 0, 1) := by decide +kernel
theorem gdX12_beside_46 : decode cX12_beside 46 = .ok (.bipush 8, 2) := by decide +kernel
theorem gdX12_beside_48 : decode cX12_beside 48 = .ok (.irem, 1) := by decide +kernel
theorem gdX12_beside_49 : decode cX12_beside 49 = .ok (.ifCond .le 9, 3) := by decide +kernel
theorem gdX12_beside_58 : decode cX12_beside 58 = .ok (.bipush (-9), 2) := by decide +kernel
theorem gdX12_beside_52 : decode cX12_beside 52 = .ok (.iload_n 0, 1) := by decide +kernel
theorem gdX12_beside_53 : decode cX12_beside 53 = .ok (.iconst 1, 1) := by decide +kernel
theorem gdX12_beside_54 : decode cX12_beside 54 = .ok (.isub, 1) := by decide +kernel
theorem gdX12_beside_55 : decode cX12_beside 55 = .ok (.goto 5, 3) := by decide +kernel
theorem gdX12_beside_61 : decode cX12_beside 61 = .ok (.iload_n 0, 1) := by decide +kernel
theorem gdX12_beside_62 : decode cX12_beside 62 = .ok (.bipush 8, 2) := by decide +kernel
theorem gdX12_beside_64 : decode cX12_beside 64 = .ok (.irem, 1) := by decide +kernel
theorem gdX12_beside_65 : decode cX12_beside 65 = .ok (.bipush 7, 2) := by decide +kernel
theorem gdX12_beside_67 : decode cX12_beside 67 = .ok (.if_icmp .ge 9, 3) := by decide +kernel
theorem gdX12_beside_76 : decode cX12_beside 76 = .ok (.bipush (-9), 2) := by decide +kernel
theorem gdX12_beside_70 : decode cX12_beside 70 = .ok (.iload_n 0, 1) := by decide +kernel
theorem gdX12_beside_71 : decode cX12_beside 71 = .ok (.iconst 1, 1) := by decide +kernel
theorem gdX12_beside_72 : decode cX12_beside 72 = .ok (.iadd, 1) := by decide +kernel
theorem gdX12_beside_73 : decode cX12_beside 73 = .ok (.goto 5, 3) := by decide +kernel
theorem gdX12_beside_79 : decode cX12_beside 79 = .ok (.iload_n 0, 1) := by decide +kernel
theorem gdX12_beside_80 : decode cX12_beside 80 = .ok (.bipush 8, 2) := by decide +kernel
theorem gdX12_beside_82 : decode cX12_beside 82 = .ok (.idiv, 1) := by decide +kernel
theorem gdX12_beside_83 : decode cX12_beside 83 = .ok (.bipush 7, 2) := by decide +kernel
theorem gdX12_beside_85 : decode cX12_beside 85 = .ok (.if_icmp .ge 10, 3) := by decide +kernel
theorem gdX12_beside_95 : decode cX12_beside 95 = .ok (.bipush (-9), 2) := by decide +kernel
theorem gdX12_beside_88 : decode cX12_beside 88 = .ok (.iload_n 0, 1) := by decide +kernel
theorem gdX12_beside_89 : decode cX12_beside 89 = .ok (.bipush 8, 2) := by decide +kernel
theorem gdX12_beside_91 : decode cX12_beside 91 = .ok (.iadd, 1) := by decide +kernel
theorem gdX12_beside_92 : decode cX12_beside 92 = .ok (.goto 5, 3) := by decide +kernel
theorem gdX12_setSteps_166 : decode cX12_setSteps 166 = .ok (.return_, 1) := by decide +kernel
theorem gdX12_setSteps_163 : decode cX12_setSteps 163 = .ok (.goto (-124), 3) := by decide +kernel
theorem gdX12_setSteps_157 : decode cX12_setSteps 157 = .ok (.iinc 5 1, 3) := by decide +kernel
theorem gdX12_setSteps_160 : decode cX12_setSteps 160 = .ok (.goto (-110), 3) := by decide +kernel
theorem gdX12_setSteps_151 : decode cX12_setSteps 151 = .ok (.iinc 6 1, 3) := by decide +kernel
theorem gdX12_setSteps_154 : decode cX12_setSteps 154 = .ok (.goto (-94), 3) := by decide +kernel
theorem gdX12_setSteps_60 : decode cX12_setSteps 60 = .ok (.iload 6, 2) := by decide +kernel
theorem gdX12_setSteps_62 : decode cX12_setSteps 62 = .ok (.iconst 4, 1) := by decide +kernel
theorem gdX12_setSteps_63 : decode cX12_setSteps 63 = .ok (.if_icmp .ge 94, 3) := by decide +kernel
theorem gdX12_setSteps_66 : decode cX12_setSteps 66 = .ok (.aload_n 0, 1) := by decide +kernel
theorem gdX12_setSteps_67 : decode cX12_setSteps 67 = .ok (.getfield 165, 3) := by decide +kernel
theorem gdX12_setSteps_70 : decode cX12_setSteps 70 = .ok (.iload 5, 2) := by decide +kernel
theorem gdX12_setSteps_72 : decode cX12_setSteps 72 = .ok (.iaload, 1) := by decide +kernel
theorem gdX12_setSteps_73 : decode cX12_setSteps 73 = .ok (.ldc_w 314, 3) := by decide +kernel
theorem gdX12_setSteps_76 : decode cX12_setSteps 76 = .ok (.if_icmp .ge 81, 3) := by decide +kernel
theorem gdX12_setSteps_79 : decode cX12_setSteps 79 = .ok (.iload 5, 2) := by decide +kernel
theorem gdX12_setSteps_81 : decode cX12_setSteps 81 = .ok (.iload 6, 2) := by decide +kernel
theorem gdX12_setSteps_83 : decode cX12_setSteps 83 = .ok (.invokestatic 315, 3) := by decide +kernel
theorem gdX12_setSteps_86 : decode cX12_setSteps 86 = .ok (.istore 7, 2) := by decide +kernel
theorem gdX12_setSteps_88 : decode cX12_setSteps 88 = .ok (.iload 7, 2) := by decide +kernel
theorem gdX12_setSteps_90 : decode cX12_setSteps 90 = .ok (.ifCond .lt 61, 3) := by decide +kernel
theorem gdX12_setSteps_93 : decode cX12_setSteps 93 = .ok (.aload_n 0, 1) := by decide +kernel
theorem gdX12_setSteps_94 : decode cX12_setSteps 94 = .ok (.getfield 40, 3) := by decide +kernel
theorem gdX12_setSteps_97 : decode cX12_setSteps 97 = .ok (.iload 7, 2) := by decide +kernel
theorem gdX12_setSteps_99 : decode cX12_setSteps 99 = .ok (.iaload, 1) := by decide +kernel
theorem gdX12_setSteps_100 : decode cX12_setSteps 100 = .ok (.iconst 4, 1) := by decide +kernel
theorem gdX12_setSteps_101 : decode cX12_setSteps 101 = .ok (.if_icmp .eq 50, 3) := by decide +kernel
theorem gdX12_setSteps_104 : decode cX12_setSteps 104 = .ok (.lload_n 2, 1) := by decide +kernel
theorem gdX12_setSteps_105 : decode cX12_setSteps 105 = .ok (.iload 7, 2) := by decide +kernel
theorem gdX12_setSteps_107 : decode cX12_setSteps 107 = .ok (.invokestatic 344, 3) := by decide +kernel
theorem gdX12_setSteps_110 : decode cX12_setSteps 110 = .ok (.ifCond .ne 41, 3) := by decide +kernel
theorem gdX12_setSteps_113 : decode cX12_setSteps 113 = .ok (.aload_n 0, 1) := by decide +kernel
theorem gdX12_setSteps_114 : decode cX12_setSteps 114 = .ok (.getfield 165, 3) := by decide +kernel
theorem gdX12_setSteps_117 : decode cX12_setSteps 117 = .ok (.iload 5, 2) := by decide +kernel
theorem gdX12_setSteps_119 : decode cX12_setSteps 119 = .ok (.iaload, 1) := by decide +kernel
theorem gdX12_setSteps_120 : decode cX12_setSteps 120 = .ok (.iconst 1, 1) := by decide +kernel
theorem gdX12_setSteps_121 : decode cX12_setSteps 121 = .ok (.iadd, 1) := by decide +kernel
theorem gdX12_setSteps_122 : decode cX12_setSteps 122 = .ok (.aload_n 0, 1) := by decide +kernel
theorem gdX12_setSteps_123 : decode cX12_setSteps 123 = .ok (.getfield 165, 3) := by decide +kernel
theorem gdX12_setSteps_126 : decode cX12_setSteps 126 = .ok (.iload 7, 2) := by decide +kernel
theorem gdX12_setSteps_128 : decode cX12_setSteps 128 = .ok (.iaload, 1) := by decide +kernel
theorem gdX12_setSteps_129 : decode cX12_setSteps 129 = .ok (.if_icmp .ge 22, 3) := by decide +kernel
theorem gdX12_setSteps_132 : decode cX12_setSteps 132 = .ok (.aload_n 0, 1) := by decide +kernel
theorem gdX12_setSteps_133 : decode cX12_setSteps 133 = .ok (.getfield 165, 3) := by decide +kernel
theorem gdX12_setSteps_136 : decode cX12_setSteps 136 = .ok (.iload 7, 2) := by decide +kernel
theorem gdX12_setSteps_138 : decode cX12_setSteps 138 = .ok (.aload_n 0, 1) := by decide +kernel
theorem gdX12_setSteps_139 : decode cX12_setSteps 139 = .ok (.getfield 165, 3) := by decide +kernel
theorem gdX12_setSteps_142 : decode cX12_setSteps 142 = .ok (.iload 5, 2) := by decide +kernel
theorem gdX12_setSteps_144 : decode cX12_setSteps 144 = .ok (.iaload, 1) := by decide +kernel
theorem gdX12_setSteps_145 : decode cX12_setSteps 145 = .ok (.iconst 1, 1) := by decide +kernel
theorem gdX12_setSteps_146 : decode cX12_setSteps 146 = .ok (.iadd, 1) := by decide +kernel
theorem gdX12_setSteps_147 : decode cX12_setSteps 147 = .ok (.iastore, 1) := by decide +kernel
theorem gdX12_setSteps_148 : decode cX12_setSteps 148 = .ok (.iconst 1, 1) := by decide +kernel
theorem gdX12_setSteps_149 : decode cX12_setSteps 149 = .ok (.istore 4, 2) := by decide +kernel
theorem gdX12_setSteps_50 : decode cX12_setSteps 50 = .ok (.iload 5, 2) := by decide +kernel
theorem gdX12_setSteps_52 : decode cX12_setSteps 52 = .ok (.bipush 64, 2) := by decide +kernel
theorem gdX12_setSteps_54 : decode cX12_setSteps 54 = .ok (.if_icmp .ge 109, 3) := by decide +kernel
theorem gdX12_setSteps_57 : decode cX12_setSteps 57 = .ok (.iconst 0, 1) := by decide +kernel
theorem gdX12_setSteps_58 : decode cX12_setSteps 58 = .ok (.istore 6, 2) := by decide +kernel
theorem gdX12_setSteps_39 : decode cX12_setSteps 39 = .ok (.iload 4, 2) := by decide +kernel
theorem gdX12_setSteps_41 : decode cX12_setSteps 41 = .ok (.ifCond .eq 125, 3) := by decide +kernel
theorem gdX12_setSteps_44 : decode cX12_setSteps 44 = .ok (.iconst 0, 1) := by decide +kernel
theorem gdX12_setSteps_45 : decode cX12_setSteps 45 = .ok (.istore 4, 2) := by decide +kernel
theorem gdX12_setSteps_47 : decode cX12_setSteps 47 = .ok (.iconst 0, 1) := by decide +kernel
theorem gdX12_setSteps_48 : decode cX12_setSteps 48 = .ok (.istore 5, 2) := by decide +kernel
theorem gdX12_setSteps_36 : decode cX12_setSteps 36 = .ok (.iconst 1, 1) := by decide +kernel
theorem gdX12_setSteps_37 : decode cX12_setSteps 37 = .ok (.istore 4, 2) := by decide +kernel
theorem gdX12_setSteps_29 : decode cX12_setSteps 29 = .ok (.iastore, 1) := by decide +kernel
theorem gdX12_setSteps_30 : decode cX12_setSteps 30 = .ok (.iinc 4 1, 3) := by decide +kernel
theorem gdX12_setSteps_33 : decode cX12_setSteps 33 = .ok (.goto (-30), 3) := by decide +kernel
theorem gdX12_setSteps_3 : decode cX12_setSteps 3 = .ok (.iload 4, 2) := by decide +kernel
theorem gdX12_setSteps_5 : decode cX12_setSteps 5 = .ok (.bipush 64, 2) := by decide +kernel
theorem gdX12_setSteps_7 : decode cX12_setSteps 7 = .ok (.if_icmp .ge 29, 3) := by decide +kernel
theorem gdX12_setSteps_10 : decode cX12_setSteps 10 = .ok (.aload_n 0, 1) := by decide +kernel
theorem gdX12_setSteps_11 : decode cX12_setSteps 11 = .ok (.getfield 165, 3) := by decide +kernel
theorem gdX12_setSteps_14 : decode cX12_setSteps 14 = .ok (.iload 4, 2) := by decide +kernel
theorem gdX12_setSteps_16 : decode cX12_setSteps 16 = .ok (.iload 4, 2) := by decide +kernel
theorem gdX12_setSteps_18 : decode cX12_setSteps 18 = .ok (.iload_n 1, 1) := by decide +kernel
theorem gdX12_setSteps_19 : decode cX12_setSteps 19 = .ok (.if_icmp .ne 7, 3) := by decide +kernel
theorem gdX12_setSteps_26 : decode cX12_setSteps 26 = .ok (.ldc_w 314, 3) := by decide +kernel
theorem gdX12_setSteps_22 : decode cX12_setSteps 22 = .ok (.iconst 0, 1) := by decide +kernel
theorem gdX12_setSteps_23 : decode cX12_setSteps 23 = .ok (.goto 6, 3) := by decide +kernel
theorem gdX12_setSteps_0 : decode cX12_setSteps 0 = .ok (.iconst 0, 1) := by decide +kernel
theorem gdX12_setSteps_1 : decode cX12_setSteps 1 = .ok (.istore 4, 2) := by decide +kernel
theorem gdX12_fall_18 : decode cX12_fall 18 = .ok (.iconst (-1), 1) := by decide +kernel
theorem gdX12_fall_19 : decode cX12_fall 19 = .ok (.ireturn, 1) := by decide +kernel
theorem gdX12_fall_399 : decode cX12_fall 399 = .ok (.aload_n 0, 1) := by decide +kernel
theorem gdX12_fall_400 : decode cX12_fall 400 = .ok (.lload 7, 2) := by decide +kernel
theorem gdX12_fall_402 : decode cX12_fall 402 = .ok (.putfield 364, 3) := by decide +kernel
theorem gdX12_fall_405 : decode cX12_fall 405 = .ok (.iload 10, 2) := by decide +kernel
theorem gdX12_fall_407 : decode cX12_fall 407 = .ok (.ireturn, 1) := by decide +kernel
theorem gdX12_fall_393 : decode cX12_fall 393 = .ok (.iinc 11 1, 3) := by decide +kernel
theorem gdX12_fall_396 : decode cX12_fall 396 = .ok (.goto (-271), 3) := by decide +kernel
theorem gdX12_fall_387 : decode cX12_fall 387 = .ok (.iinc 12 1, 3) := by decide +kernel
theorem gdX12_fall_390 : decode cX12_fall 390 = .ok (.goto (-59), 3) := by decide +kernel
theorem gdX12_fall_331 : decode cX12_fall 331 = .ok (.iload 12, 2) := by decide +kernel
theorem gdX12_fall_333 : decode cX12_fall 333 = .ok (.aload_n 0, 1) := by decide +kernel
theorem gdX12_fall_334 : decode cX12_fall 334 = .ok (.getfield 254, 3) := by decide +kernel
theorem gdX12_fall_337 : decode cX12_fall 337 = .ok (.if_icmp .ge 56, 3) := by decide +kernel
theorem gdX12_fall_340 : decode cX12_fall 340 = .ok (.lload 5, 2) := by decide +kernel
theorem gdX12_fall_342 : decode cX12_fall 342 = .ok (.iload 12, 2) := by decide +kernel
theorem gdX12_fall_344 : decode cX12_fall 344 = .ok (.invokestatic 344, 3) := by decide +kernel
theorem gdX12_fall_347 : decode cX12_fall 347 = .ok (.ifCond .eq 40, 3) := by decide +kernel
theorem gdX12_fall_350 : decode cX12_fall 350 = .ok (.aload_n 0, 1) := by decide +kernel
theorem gdX12_fall_351 : decode cX12_fall 351 = .ok (.getfield 168, 3) := by decide +kernel
theorem gdX12_fall_354 : decode cX12_fall 354 = .ok (.iload 12, 2) := by decide +kernel
theorem gdX12_fall_356 : decode cX12_fall 356 = .ok (.iaload, 1) := by decide +kernel
theorem gdX12_fall_357 : decode cX12_fall 357 = .ok (.iload 9, 2) := by decide +kernel
theorem gdX12_fall_359 : decode cX12_fall 359 = .ok (.if_icmp .ge 28, 3) := by decide +kernel
theorem gdX12_fall_362 : decode cX12_fall 362 = .ok (.lload 5, 2) := by decide +kernel
theorem gdX12_fall_364 : decode cX12_fall 364 = .ok (.lconst 1, 1) := by decide +kernel
theorem gdX12_fall_365 : decode cX12_fall 365 = .ok (.iload 12, 2) := by decide +kernel
theorem gdX12_fall_367 : decode cX12_fall 367 = .ok (.lshl, 1) := by decide +kernel
theorem gdX12_fall_368 : decode cX12_fall 368 = .ok (.ldc2_w 395, 3) := by decide +kernel
theorem gdX12_fall_371 : decode cX12_fall 371 = .ok (.lxor, 1) := by decide +kernel
theorem gdX12_fall_372 : decode cX12_fall 372 = .ok (.land, 1) := by decide +kernel
theorem gdX12_fall_373 : decode cX12_fall 373 = .ok (.lstore 5, 2) := by decide +kernel
theorem gdX12_fall_375 : decode cX12_fall 375 = .ok (.lload 7, 2) := by decide +kernel
theorem gdX12_fall_377 : decode cX12_fall 377 = .ok (.lconst 1, 1) := by decide +kernel
theorem gdX12_fall_378 : decode cX12_fall 378 = .ok (.iload 12, 2) := by decide +kernel
theorem gdX12_fall_380 : decode cX12_fall 380 = .ok (.lshl, 1) := by decide +kernel
theorem gdX12_fall_381 : decode cX12_fall 381 = .ok (.lor, 1) := by decide +kernel
theorem gdX12_fall_382 : decode cX12_fall 382 = .ok (.lstore 7, 2) := by decide +kernel
theorem gdX12_fall_384 : decode cX12_fall 384 = .ok (.iinc 10 1, 3) := by decide +kernel
theorem gdX12_fall_328 : decode cX12_fall 328 = .ok (.iconst 0, 1) := by decide +kernel
theorem gdX12_fall_329 : decode cX12_fall 329 = .ok (.istore 12, 2) := by decide +kernel
theorem gdX12_fall_322 : decode cX12_fall 322 = .ok (.iinc 12 1, 3) := by decide +kernel
theorem gdX12_fall_325 : decode cX12_fall 325 = .ok (.goto (-165), 3) := by decide +kernel
theorem gdX12_fall_306 : decode cX12_fall 306 = .ok (.iload 13, 2) := by decide +kernel
theorem gdX12_fall_308 : decode cX12_fall 308 = .ok (.ifCond .lt 14, 3) := by decide +kernel
theorem gdX12_fall_311 : decode cX12_fall 311 = .ok (.aload_n 0, 1) := by decide +kernel
theorem gdX12_fall_312 : decode cX12_fall 312 = .ok (.getfield 168, 3) := by decide +kernel
theorem gdX12_fall_315 : decode cX12_fall 315 = .ok (.iload 13, 2) := by decide +kernel
theorem gdX12_fall_317 : decode cX12_fall 317 = .ok (.dup2, 1) := by decide +kernel
theorem gdX12_fall_318 : decode cX12_fall 318 = .ok (.iaload, 1) := by decide +kernel
theorem gdX12_fall_319 : decode cX12_fall 319 = .ok (.iconst 1, 1) := by decide +kernel
theorem gdX12_fall_320 : decode cX12_fall 320 = .ok (.iadd, 1) := by decide +kernel
theorem gdX12_fall_321 : decode cX12_fall 321 = .ok (.iastore, 1) := by decide +kernel
theorem gdX12_fall_298 : decode cX12_fall 298 = .ok (.istore 13, 2) := by decide +kernel
theorem gdX12_fall_300 : decode cX12_fall 300 = .ok (.iinc 14 1, 3) := by decide +kernel
theorem gdX12_fall_303 : decode cX12_fall 303 = .ok (.goto (-81), 3) := by decide +kernel
theorem gdX12_fall_291 : decode cX12_fall 291 = .ok (.iload 14, 2) := by decide +kernel
theorem gdX12_fall_293 : decode cX12_fall 293 = .ok (.goto 5, 3) := by decide +kernel
theorem gdX12_fall_296 : decode cX12_fall 296 = .ok (.iload 13, 2) := by decide +kernel
theorem gdX12_fall_259 : decode cX12_fall 259 = .ok (.istore 15, 2) := by decide +kernel
theorem gdX12_fall_261 : decode cX12_fall 261 = .ok (.iload 15, 2) := by decide +kernel
theorem gdX12_fall_263 : decode cX12_fall 263 = .ok (.ldc_w 314, 3) := by decide +kernel
theorem gdX12_fall_266 : decode cX12_fall 266 = .ok (.if_icmp .ge 30, 3) := by decide +kernel
theorem gdX12_fall_269 : decode cX12_fall 269 = .ok (.iload 13, 2) := by decide +kernel
theorem gdX12_fall_271 : decode cX12_fall 271 = .ok (.ifCond .lt 20, 3) := by decide +kernel
theorem gdX12_fall_274 : decode cX12_fall 274 = .ok (.iload 15, 2) := by decide +kernel
theorem gdX12_fall_276 : decode cX12_fall 276 = .ok (.aload_n 0, 1) := by decide +kernel
theorem gdX12_fall_277 : decode cX12_fall 277 = .ok (.getfield 165, 3) := by decide +kernel
theorem gdX12_fall_280 : decode cX12_fall 280 = .ok (.aload_n 0, 1) := by decide +kernel
theorem gdX12_fall_281 : decode cX12_fall 281 = .ok (.getfield 46, 3) := by decide +kernel
theorem gdX12_fall_284 : decode cX12_fall 284 = .ok (.iload 13, 2) := by decide +kernel
theorem gdX12_fall_286 : decode cX12_fall 286 = .ok (.iaload, 1) := by decide +kernel
theorem gdX12_fall_287 : decode cX12_fall 287 = .ok (.iaload, 1) := by decide +kernel
theorem gdX12_fall_288 : decode cX12_fall 288 = .ok (.if_icmp .ge 8, 3) := by decide +kernel
theorem gdX12_fall_222 : decode cX12_fall 222 = .ok (.iload 14, 2) := by decide +kernel
theorem gdX12_fall_224 : decode cX12_fall 224 = .ok (.aload_n 0, 1) := by decide +kernel
theorem gdX12_fall_225 : decode cX12_fall 225 = .ok (.getfield 254, 3) := by decide +kernel
theorem gdX12_fall_228 : decode cX12_fall 228 = .ok (.if_icmp .ge 78, 3) := by decide +kernel
theorem gdX12_fall_231 : decode cX12_fall 231 = .ok (.lload 5, 2) := by decide +kernel
theorem gdX12_fall_233 : decode cX12_fall 233 = .ok (.iload 14, 2) := by decide +kernel
theorem gdX12_fall_235 : decode cX12_fall 235 = .ok (.invokestatic 344, 3) := by decide +kernel
theorem gdX12_fall_238 : decode cX12_fall 238 = .ok (.ifCond .eq 18, 3) := by decide +kernel
theorem gdX12_fall_256 : decode cX12_fall 256 = .ok (.ldc_w 314, 3) := by decide +kernel
theorem gdX12_fall_241 : decode cX12_fall 241 = .ok (.aload_n 0, 1) := by decide +kernel
theorem gdX12_fall_242 : decode cX12_fall 242 = .ok (.getfield 165, 3) := by decide +kernel
theorem gdX12_fall_245 : decode cX12_fall 245 = .ok (.aload_n 0, 1) := by decide +kernel
theorem gdX12_fall_246 : decode cX12_fall 246 = .ok (.getfield 46, 3) := by decide +kernel
theorem gdX12_fall_249 : decode cX12_fall 249 = .ok (.iload 14, 2) := by decide +kernel
theorem gdX12_fall_251 : decode cX12_fall 251 = .ok (.iaload, 1) := by decide +kernel
theorem gdX12_fall_252 : decode cX12_fall 252 = .ok (.iaload, 1) := by decide +kernel
theorem gdX12_fall_253 : decode cX12_fall 253 = .ok (.goto 6, 3) := by decide +kernel
theorem gdX12_fall_160 : decode cX12_fall 160 = .ok (.iload 12, 2) := by decide +kernel
theorem gdX12_fall_162 : decode cX12_fall 162 = .ok (.aload_n 0, 1) := by decide +kernel
theorem gdX12_fall_163 : decode cX12_fall 163 = .ok (.getfield 281, 3) := by decide +kernel
theorem gdX12_fall_166 : decode cX12_fall 166 = .ok (.if_icmp .ge 162, 3) := by decide +kernel
theorem gdX12_fall_169 : decode cX12_fall 169 = .ok (.aload_n 0, 1) := by decide +kernel
theorem gdX12_fall_170 : decode cX12_fall 170 = .ok (.getfield 71, 3) := by decide +kernel
theorem gdX12_fall_173 : decode cX12_fall 173 = .ok (.iload 12, 2) := by decide +kernel
theorem gdX12_fall_175 : decode cX12_fall 175 = .ok (.iaload, 1) := by decide +kernel
theorem gdX12_fall_176 : decode cX12_fall 176 = .ok (.ifCond .lt 146, 3) := by decide +kernel
theorem gdX12_fall_179 : decode cX12_fall 179 = .ok (.lload_n 3, 1) := by decide +kernel
theorem gdX12_fall_180 : decode cX12_fall 180 = .ok (.aload_n 0, 1) := by decide +kernel
theorem gdX12_fall_181 : decode cX12_fall 181 = .ok (.getfield 46, 3) := by decide +kernel
theorem gdX12_fall_184 : decode cX12_fall 184 = .ok (.aload_n 0, 1) := by decide +kernel
theorem gdX12_fall_185 : decode cX12_fall 185 = .ok (.getfield 71, 3) := by decide +kernel
theorem gdX12_fall_188 : decode cX12_fall 188 = .ok (.iload 12, 2) := by decide +kernel
theorem gdX12_fall_190 : decode cX12_fall 190 = .ok (.iaload, 1) := by decide +kernel
theorem gdX12_fall_191 : decode cX12_fall 191 = .ok (.iaload, 1) := by decide +kernel
theorem gdX12_fall_192 : decode cX12_fall 192 = .ok (.invokestatic 344, 3) := by decide +kernel
theorem gdX12_fall_195 : decode cX12_fall 195 = .ok (.ifCond .ne 127, 3) := by decide +kernel
theorem gdX12_fall_198 : decode cX12_fall 198 = .ok (.aload_n 0, 1) := by decide +kernel
theorem gdX12_fall_199 : decode cX12_fall 199 = .ok (.aload_n 0, 1) := by decide +kernel
theorem gdX12_fall_200 : decode cX12_fall 200 = .ok (.getfield 46, 3) := by decide +kernel
theorem gdX12_fall_203 : decode cX12_fall 203 = .ok (.aload_n 0, 1) := by decide +kernel
theorem gdX12_fall_204 : decode cX12_fall 204 = .ok (.getfield 71, 3) := by decide +kernel
theorem gdX12_fall_207 : decode cX12_fall 207 = .ok (.iload 12, 2) := by decide +kernel
theorem gdX12_fall_209 : decode cX12_fall 209 = .ok (.iaload, 1) := by decide +kernel
theorem gdX12_fall_210 : decode cX12_fall 210 = .ok (.iaload, 1) := by decide +kernel
theorem gdX12_fall_211 : decode cX12_fall 211 = .ok (.lload_n 3, 1) := by decide +kernel
theorem gdX12_fall_212 : decode cX12_fall 212 = .ok (.invokevirtual 391, 3) := by decide +kernel
theorem gdX12_fall_215 : decode cX12_fall 215 = .ok (.bipush (-9), 2) := by decide +kernel
theorem gdX12_fall_217 : decode cX12_fall 217 = .ok (.istore 13, 2) := by decide +kernel
theorem gdX12_fall_219 : decode cX12_fall 219 = .ok (.iconst 0, 1) := by decide +kernel
theorem gdX12_fall_220 : decode cX12_fall 220 = .ok (.istore 14, 2) := by decide +kernel
theorem gdX12_fall_157 : decode cX12_fall 157 = .ok (.iconst 0, 1) := by decide +kernel
theorem gdX12_fall_158 : decode cX12_fall 158 = .ok (.istore 12, 2) := by decide +kernel
theorem gdX12_fall_134 : decode cX12_fall 134 = .ok (.iload 12, 2) := by decide +kernel
theorem gdX12_fall_136 : decode cX12_fall 136 = .ok (.aload_n 0, 1) := by decide +kernel
theorem gdX12_fall_137 : decode cX12_fall 137 = .ok (.getfield 254, 3) := by decide +kernel
theorem gdX12_fall_140 : decode cX12_fall 140 = .ok (.if_icmp .ge 17, 3) := by decide +kernel
theorem gdX12_fall_143 : decode cX12_fall 143 = .ok (.aload_n 0, 1) := by decide +kernel
theorem gdX12_fall_144 : decode cX12_fall 144 = .ok (.getfield 168, 3) := by decide +kernel
theorem gdX12_fall_147 : decode cX12_fall 147 = .ok (.iload 12, 2) := by decide +kernel
theorem gdX12_fall_149 : decode cX12_fall 149 = .ok (.iconst 0, 1) := by decide +kernel
theorem gdX12_fall_150 : decode cX12_fall 150 = .ok (.iastore, 1) := by decide +kernel
theorem gdX12_fall_151 : decode cX12_fall 151 = .ok (.iinc 12 1, 3) := by decide +kernel
theorem gdX12_fall_154 : decode cX12_fall 154 = .ok (.goto (-20), 3) := by decide +kernel
theorem gdX12_fall_125 : decode cX12_fall 125 = .ok (.iload 11, 2) := by decide +kernel
theorem gdX12_fall_127 : decode cX12_fall 127 = .ok (.iload_n 2, 1) := by decide +kernel
theorem gdX12_fall_128 : decode cX12_fall 128 = .ok (.if_icmp .ge 271, 3) := by decide +kernel
theorem gdX12_fall_131 : decode cX12_fall 131 = .ok (.iconst 0, 1) := by decide +kernel
theorem gdX12_fall_132 : decode cX12_fall 132 = .ok (.istore 12, 2) := by decide +kernel
theorem gdX12_fall_112 : decode cX12_fall 112 = .ok (.aload_n 0, 1) := by decide +kernel
theorem gdX12_fall_113 : decode cX12_fall 113 = .ok (.iconst 4, 1) := by decide +kernel
theorem gdX12_fall_114 : decode cX12_fall 114 = .ok (.invokevirtual 328, 3) := by decide +kernel
theorem gdX12_fall_117 : decode cX12_fall 117 = .ok (.istore 9, 2) := by decide +kernel
theorem gdX12_fall_119 : decode cX12_fall 119 = .ok (.iconst 0, 1) := by decide +kernel
theorem gdX12_fall_120 : decode cX12_fall 120 = .ok (.istore 10, 2) := by decide +kernel
theorem gdX12_fall_122 : decode cX12_fall 122 = .ok (.iconst 0, 1) := by decide +kernel
theorem gdX12_fall_123 : decode cX12_fall 123 = .ok (.istore 11, 2) := by decide +kernel
theorem gdX12_fall_103 : decode cX12_fall 103 = .ok (.lor, 1) := by decide +kernel
theorem gdX12_fall_104 : decode cX12_fall 104 = .ok (.lstore 5, 2) := by decide +kernel
theorem gdX12_fall_106 : decode cX12_fall 106 = .ok (.iinc 9 1, 3) := by decide +kernel
theorem gdX12_fall_109 : decode cX12_fall 109 = .ok (.goto (-60), 3) := by decide +kernel
theorem gdX12_fall_102 : decode cX12_fall 102 = .ok (.lconst 0, 1) := by decide +kernel
theorem gdX12_fall_49 : decode cX12_fall 49 = .ok (.iload 9, 2) := by decide +kernel
theorem gdX12_fall_51 : decode cX12_fall 51 = .ok (.aload_n 0, 1) := by decide +kernel
theorem gdX12_fall_52 : decode cX12_fall 52 = .ok (.getfield 254, 3) := by decide +kernel
theorem gdX12_fall_55 : decode cX12_fall 55 = .ok (.if_icmp .ge 57, 3) := by decide +kernel
theorem gdX12_fall_58 : decode cX12_fall 58 = .ok (.lload 5, 2) := by decide +kernel
theorem gdX12_fall_60 : decode cX12_fall 60 = .ok (.aload_n 0, 1) := by decide +kernel
theorem gdX12_fall_61 : decode cX12_fall 61 = .ok (.getfield 49, 3) := by decide +kernel
theorem gdX12_fall_64 : decode cX12_fall 64 = .ok (.iload 9, 2) := by decide +kernel
theorem gdX12_fall_66 : decode cX12_fall 66 = .ok (.iaload, 1) := by decide +kernel
theorem gdX12_fall_67 : decode cX12_fall 67 = .ok (.iconst 1, 1) := by decide +kernel
theorem gdX12_fall_68 : decode cX12_fall 68 = .ok (.if_icmp .ne 34, 3) := by decide +kernel
theorem gdX12_fall_71 : decode cX12_fall 71 = .ok (.aload_n 0, 1) := by decide +kernel
theorem gdX12_fall_72 : decode cX12_fall 72 = .ok (.getfield 55, 3) := by decide +kernel
theorem gdX12_fall_75 : decode cX12_fall 75 = .ok (.iload 9, 2) := by decide +kernel
theorem gdX12_fall_77 : decode cX12_fall 77 = .ok (.baload, 1) := by decide +kernel
theorem gdX12_fall_78 : decode cX12_fall 78 = .ok (.ifCond .ne 24, 3) := by decide +kernel
theorem gdX12_fall_81 : decode cX12_fall 81 = .ok (.lload_n 3, 1) := by decide +kernel
theorem gdX12_fall_82 : decode cX12_fall 82 = .ok (.aload_n 0, 1) := by decide +kernel
theorem gdX12_fall_83 : decode cX12_fall 83 = .ok (.getfield 46, 3) := by decide +kernel
theorem gdX12_fall_86 : decode cX12_fall 86 = .ok (.iload 9, 2) := by decide +kernel
theorem gdX12_fall_88 : decode cX12_fall 88 = .ok (.iaload, 1) := by decide +kernel
theorem gdX12_fall_89 : decode cX12_fall 89 = .ok (.invokestatic 344, 3) := by decide +kernel
theorem gdX12_fall_92 : decode cX12_fall 92 = .ok (.ifCond .ne 10, 3) := by decide +kernel
theorem gdX12_fall_95 : decode cX12_fall 95 = .ok (.lconst 1, 1) := by decide +kernel
theorem gdX12_fall_96 : decode cX12_fall 96 = .ok (.iload 9, 2) := by decide +kernel
theorem gdX12_fall_98 : decode cX12_fall 98 = .ok (.lshl, 1) := by decide +kernel
theorem gdX12_fall_99 : decode cX12_fall 99 = .ok (.goto 4, 3) := by decide +kernel
theorem gdX12_fall_0 : decode cX12_fall 0 = .ok (.aload_n 0, 1) := by decide +kernel
theorem gdX12_fall_1 : decode cX12_fall 1 = .ok (.iload_n 1, 1) := by decide +kernel
theorem gdX12_fall_2 : decode cX12_fall 2 = .ok (.invokevirtual 308, 3) := by decide +kernel
theorem gdX12_fall_5 : decode cX12_fall 5 = .ok (.ifCond .eq 13, 3) := by decide +kernel
theorem gdX12_fall_8 : decode cX12_fall 8 = .ok (.iload_n 2, 1) := by decide +kernel
theorem gdX12_fall_9 : decode cX12_fall 9 = .ok (.iconst 0, 1) := by decide +kernel
theorem gdX12_fall_10 : decode cX12_fall 10 = .ok (.bipush 20, 2) := by decide +kernel
theorem gdX12_fall_12 : decode cX12_fall 12 = .ok (.invokestatic 208, 3) := by decide +kernel
theorem gdX12_fall_15 : decode cX12_fall 15 = .ok (.ifCond .ne 5, 3) := by decide +kernel
theorem gdX12_fall_20 : decode cX12_fall 20 = .ok (.aload_n 0, 1) := by decide +kernel
theorem gdX12_fall_21 : decode cX12_fall 21 = .ok (.iload_n 1, 1) := by decide +kernel
theorem gdX12_fall_22 : decode cX12_fall 22 = .ok (.invokevirtual 311, 3) := by decide +kernel
theorem gdX12_fall_25 : decode cX12_fall 25 = .ok (.ifCond .ne 9, 3) := by decide +kernel
theorem gdX12_fall_34 : decode cX12_fall 34 = .ok (.aload_n 0, 1) := by decide +kernel
theorem gdX12_fall_35 : decode cX12_fall 35 = .ok (.iload_n 1, 1) := by decide +kernel
theorem gdX12_fall_36 : decode cX12_fall 36 = .ok (.invokevirtual 340, 3) := by decide +kernel
theorem gdX12_fall_39 : decode cX12_fall 39 = .ok (.lstore_n 3, 1) := by decide +kernel
theorem gdX12_fall_40 : decode cX12_fall 40 = .ok (.lconst 0, 1) := by decide +kernel
theorem gdX12_fall_41 : decode cX12_fall 41 = .ok (.lstore 5, 2) := by decide +kernel
theorem gdX12_fall_43 : decode cX12_fall 43 = .ok (.lconst 0, 1) := by decide +kernel
theorem gdX12_fall_44 : decode cX12_fall 44 = .ok (.lstore 7, 2) := by decide +kernel
theorem gdX12_fall_46 : decode cX12_fall 46 = .ok (.iconst 0, 1) := by decide +kernel
theorem gdX12_fall_47 : decode cX12_fall 47 = .ok (.istore 9, 2) := by decide +kernel
theorem gdX12_fall_28 : decode cX12_fall 28 = .ok (.aload_n 0, 1) := by decide +kernel
theorem gdX12_fall_29 : decode cX12_fall 29 = .ok (.iconst 3, 1) := by decide +kernel
theorem gdX12_fall_30 : decode cX12_fall 30 = .ok (.invokevirtual 216, 3) := by decide +kernel
theorem gdX12_fall_33 : decode cX12_fall 33 = .ok (.ireturn, 1) := by decide +kernel
theorem gdX12_isText_0 : decode cX12_isText 0 = .ok (.iload_n 0, 1) := by decide +kernel
theorem gdX12_isText_1 : decode cX12_isText 1 = .ok (.iconst 0, 1) := by decide +kernel
theorem gdX12_isText_2 : decode cX12_isText 2 = .ok (.iconst 3, 1) := by decide +kernel
theorem gdX12_isText_3 : decode cX12_isText 3 = .ok (.invokestatic 208, 3) := by decide +kernel
theorem gdX12_isText_6 : decode cX12_isText 6 = .ok (.ireturn, 1) := by decide +kernel
theorem gdX12_askedText_29 : decode cX12_askedText 29 = .ok (.ireturn, 1) := by decide +kernel
theorem gdX12_askedText_0 : decode cX12_askedText 0 = .ok (.iload_n 1, 1) := by decide +kernel
theorem gdX12_askedText_1 : decode cX12_askedText 1 = .ok (.invokestatic 220, 3) := by decide +kernel
theorem gdX12_askedText_4 : decode cX12_askedText 4 = .ok (.ifCond .ne 7, 3) := by decide +kernel
theorem gdX12_askedText_11 : decode cX12_askedText 11 = .ok (.aload_n 0, 1) := by decide +kernel
theorem gdX12_askedText_12 : decode cX12_askedText 12 = .ok (.getfield 22, 3) := by decide +kernel
theorem gdX12_askedText_15 : decode cX12_askedText 15 = .ok (.iload_n 1, 1) := by decide +kernel
theorem gdX12_askedText_16 : decode cX12_askedText 16 = .ok (.iaload, 1) := by decide +kernel
theorem gdX12_askedText_17 : decode cX12_askedText 17 = .ok (.ifCond .ge 11, 3) := by decide +kernel
theorem gdX12_askedText_28 : decode cX12_askedText 28 = .ok (.iconst 0, 1) := by decide +kernel
theorem gdX12_askedText_20 : decode cX12_askedText 20 = .ok (.aload_n 0, 1) := by decide +kernel
theorem gdX12_askedText_21 : decode cX12_askedText 21 = .ok (.iconst 1, 1) := by decide +kernel
theorem gdX12_askedText_22 : decode cX12_askedText 22 = .ok (.invokevirtual 216, 3) := by decide +kernel
theorem gdX12_askedText_25 : decode cX12_askedText 25 = .ok (.goto 4, 3) := by decide +kernel
theorem gdX12_askedText_7 : decode cX12_askedText 7 = .ok (.iconst (-1), 1) := by decide +kernel
theorem gdX12_askedText_8 : decode cX12_askedText 8 = .ok (.goto 21, 3) := by decide +kernel
theorem gdX12_letter_0 : decode cX12_letter 0 = .ok (.iload_n 0, 1) := by decide +kernel
theorem gdX12_letter_1 : decode cX12_letter 1 = .ok (.tableswitch 93 70 84 #[77, 93, 90, 93, 93, 83, 93, 81, 85, 93, 87, 93, 93, 75, 79], 75) := by decide +kernel
theorem gdX12_letter_78 : decode cX12_letter 78 = .ok (.iconst 1, 1) := by decide +kernel
theorem gdX12_letter_79 : decode cX12_letter 79 = .ok (.ireturn, 1) := by decide +kernel
theorem gdX12_letter_94 : decode cX12_letter 94 = .ok (.bipush (-9), 2) := by decide +kernel
theorem gdX12_letter_96 : decode cX12_letter 96 = .ok (.ireturn, 1) := by decide +kernel
theorem gdX12_letter_91 : decode cX12_letter 91 = .ok (.bipush 7, 2) := by decide +kernel
theorem gdX12_letter_93 : decode cX12_letter 93 = .ok (.ireturn, 1) := by decide +kernel
theorem gdX12_letter_84 : decode cX12_letter 84 = .ok (.iconst 4, 1) := by decide +kernel
theorem gdX12_letter_85 : decode cX12_letter 85 = .ok (.ireturn, 1) := by decide +kernel
theorem gdX12_letter_82 : decode cX12_letter 82 = .ok (.iconst 3, 1) := by decide +kernel
theorem gdX12_letter_83 : decode cX12_letter 83 = .ok (.ireturn, 1) := by decide +kernel
theorem gdX12_letter_86 : decode cX12_letter 86 = .ok (.iconst 5, 1) := by decide +kernel
theorem gdX12_letter_87 : decode cX12_letter 87 = .ok (.ireturn, 1) := by decide +kernel
theorem gdX12_letter_88 : decode cX12_letter 88 = .ok (.bipush 6, 2) := by decide +kernel
theorem gdX12_letter_90 : decode cX12_letter 90 = .ok (.ireturn, 1) := by decide +kernel
theorem gdX12_letter_76 : decode cX12_letter 76 = .ok (.iconst 0, 1) := by decide +kernel
theorem gdX12_letter_77 : decode cX12_letter 77 = .ok (.ireturn, 1) := by decide +kernel
theorem gdX12_letter_80 : decode cX12_letter 80 = .ok (.iconst 2, 1) := by decide +kernel
theorem gdX12_letter_81 : decode cX12_letter 81 = .ok (.ireturn, 1) := by decide +kernel
theorem gdX12_reads_65 : decode cX12_reads 65 = .ok (.iload_n 2, 1) := by decide +kernel
theorem gdX12_reads_66 : decode cX12_reads 66 = .ok (.ireturn, 1) := by decide +kernel
theorem gdX12_reads_149 : decode cX12_reads 149 = .ok (.iload_n 2, 1) := by decide +kernel
theorem gdX12_reads_150 : decode cX12_reads 150 = .ok (.ireturn, 1) := by decide +kernel
theorem gdX12_reads_165 : decode cX12_reads 165 = .ok (.bipush (-9), 2) := by decide +kernel
theorem gdX12_reads_167 : decode cX12_reads 167 = .ok (.ireturn, 1) := by decide +kernel
theorem gdX12_reads_144 : decode cX12_reads 144 = .ok (.iload 4, 2) := by decide +kernel
theorem gdX12_reads_146 : decode cX12_reads 146 = .ok (.ifCond .ne 5, 3) := by decide +kernel
theorem gdX12_reads_151 : decode cX12_reads 151 = .ok (.aload_n 0, 1) := by decide +kernel
theorem gdX12_reads_152 : decode cX12_reads 152 = .ok (.getfield 37, 3) := by decide +kernel
theorem gdX12_reads_155 : decode cX12_reads 155 = .ok (.iload_n 3, 1) := by decide +kernel
theorem gdX12_reads_156 : decode cX12_reads 156 = .ok (.invokestatic 232, 3) := by decide +kernel
theorem gdX12_reads_159 : decode cX12_reads 159 = .ok (.iload 5, 2) := by decide +kernel
theorem gdX12_reads_161 : decode cX12_reads 161 = .ok (.iastore, 1) := by decide +kernel
theorem gdX12_reads_162 : decode cX12_reads 162 = .ok (.goto (-138), 3) := by decide +kernel
theorem gdX12_reads_76 : decode cX12_reads 76 = .ok (.iload_n 2, 1) := by decide +kernel
theorem gdX12_reads_77 : decode cX12_reads 77 = .ok (.aload_n 0, 1) := by decide +kernel
theorem gdX12_reads_78 : decode cX12_reads 78 = .ok (.getfield 22, 3) := by decide +kernel
theorem gdX12_reads_81 : decode cX12_reads 81 = .ok (.iload_n 1, 1) := by decide +kernel
theorem gdX12_reads_82 : decode cX12_reads 82 = .ok (.iaload, 1) := by decide +kernel
theorem gdX12_reads_83 : decode cX12_reads 83 = .ok (.if_icmp .ge 61, 3) := by decide +kernel
theorem gdX12_reads_86 : decode cX12_reads 86 = .ok (.iload 4, 2) := by decide +kernel
theorem gdX12_reads_88 : decode cX12_reads 88 = .ok (.iconst 4, 1) := by decide +kernel
theorem gdX12_reads_89 : decode cX12_reads 89 = .ok (.if_icmp .ge 55, 3) := by decide +kernel
theorem gdX12_reads_92 : decode cX12_reads 92 = .ok (.aload_n 0, 1) := by decide +kernel
theorem gdX12_reads_93 : decode cX12_reads 93 = .ok (.getfield 25, 3) := by decide +kernel
theorem gdX12_reads_96 : decode cX12_reads 96 = .ok (.bipush 40, 2) := by decide +kernel
theorem gdX12_reads_98 : decode cX12_reads 98 = .ok (.iload_n 1, 1) := by decide +kernel
theorem gdX12_reads_99 : decode cX12_reads 99 = .ok (.imul, 1) := by decide +kernel
theorem gdX12_reads_100 : decode cX12_reads 100 = .ok (.iload_n 2, 1) := by decide +kernel
theorem gdX12_reads_101 : decode cX12_reads 101 = .ok (.iadd, 1) := by decide +kernel
theorem gdX12_reads_102 : decode cX12_reads 102 = .ok (.iaload, 1) := by decide +kernel
theorem gdX12_reads_103 : decode cX12_reads 103 = .ok (.bipush 48, 2) := by decide +kernel
theorem gdX12_reads_105 : decode cX12_reads 105 = .ok (.bipush 57, 2) := by decide +kernel
theorem gdX12_reads_107 : decode cX12_reads 107 = .ok (.invokestatic 208, 3) := by decide +kernel
theorem gdX12_reads_110 : decode cX12_reads 110 = .ok (.ifCond .eq 34, 3) := by decide +kernel
theorem gdX12_reads_113 : decode cX12_reads 113 = .ok (.bipush 10, 2) := by decide +kernel
theorem gdX12_reads_115 : decode cX12_reads 115 = .ok (.iload 5, 2) := by decide +kernel
theorem gdX12_reads_117 : decode cX12_reads 117 = .ok (.imul, 1) := by decide +kernel
theorem gdX12_reads_118 : decode cX12_reads 118 = .ok (.aload_n 0, 1) := by decide +kernel
theorem gdX12_reads_119 : decode cX12_reads 119 = .ok (.getfield 25, 3) := by decide +kernel
theorem gdX12_reads_122 : decode cX12_reads 122 = .ok (.bipush 40, 2) := by decide +kernel
theorem gdX12_reads_124 : decode cX12_reads 124 = .ok (.iload_n 1, 1) := by decide +kernel
theorem gdX12_reads_125 : decode cX12_reads 125 = .ok (.imul, 1) := by decide +kernel
theorem gdX12_reads_126 : decode cX12_reads 126 = .ok (.iload_n 2, 1) := by decide +kernel
theorem gdX12_reads_127 : decode cX12_reads 127 = .ok (.iadd, 1) := by decide +kernel
theorem gdX12_reads_128 : decode cX12_reads 128 = .ok (.iaload, 1) := by decide +kernel
theorem gdX12_reads_129 : decode cX12_reads 129 = .ok (.iadd, 1) := by decide +kernel
theorem gdX12_reads_130 : decode cX12_reads 130 = .ok (.bipush 48, 2) := by decide +kernel
theorem gdX12_reads_132 : decode cX12_reads 132 = .ok (.isub, 1) := by decide +kernel
theorem gdX12_reads_133 : decode cX12_reads 133 = .ok (.istore 5, 2) := by decide +kernel
theorem gdX12_reads_135 : decode cX12_reads 135 = .ok (.iinc 4 1, 3) := by decide +kernel
theorem gdX12_reads_138 : decode cX12_reads 138 = .ok (.iinc 2 1, 3) := by decide +kernel
theorem gdX12_reads_141 : decode cX12_reads 141 = .ok (.goto (-65), 3) := by decide +kernel
theorem gdX12_reads_24 : decode cX12_reads 24 = .ok (.iload_n 2, 1) := by decide +kernel
theorem gdX12_reads_25 : decode cX12_reads 25 = .ok (.aload_n 0, 1) := by decide +kernel
theorem gdX12_reads_26 : decode cX12_reads 26 = .ok (.getfield 22, 3) := by decide +kernel
theorem gdX12_reads_29 : decode cX12_reads 29 = .ok (.iload_n 1, 1) := by decide +kernel
theorem gdX12_reads_30 : decode cX12_reads 30 = .ok (.iaload, 1) := by decide +kernel
theorem gdX12_reads_31 : decode cX12_reads 31 = .ok (.if_icmp .ge 134, 3) := by decide +kernel
theorem gdX12_reads_34 : decode cX12_reads 34 = .ok (.aload_n 0, 1) := by decide +kernel
theorem gdX12_reads_35 : decode cX12_reads 35 = .ok (.getfield 25, 3) := by decide +kernel
theorem gdX12_reads_38 : decode cX12_reads 38 = .ok (.bipush 40, 2) := by decide +kernel
theorem gdX12_reads_40 : decode cX12_reads 40 = .ok (.iload_n 1, 1) := by decide +kernel
theorem gdX12_reads_41 : decode cX12_reads 41 = .ok (.imul, 1) := by decide +kernel
theorem gdX12_reads_42 : decode cX12_reads 42 = .ok (.iload_n 2, 1) := by decide +kernel
theorem gdX12_reads_43 : decode cX12_reads 43 = .ok (.iadd, 1) := by decide +kernel
theorem gdX12_reads_44 : decode cX12_reads 44 = .ok (.iaload, 1) := by decide +kernel
theorem gdX12_reads_45 : decode cX12_reads 45 = .ok (.istore_n 3, 1) := by decide +kernel
theorem gdX12_reads_46 : decode cX12_reads 46 = .ok (.iload_n 3, 1) := by decide +kernel
theorem gdX12_reads_47 : decode cX12_reads 47 = .ok (.bipush 32, 2) := by decide +kernel
theorem gdX12_reads_49 : decode cX12_reads 49 = .ok (.if_icmp .ne 9, 3) := by decide +kernel
theorem gdX12_reads_58 : decode cX12_reads 58 = .ok (.iload_n 3, 1) := by decide +kernel
theorem gdX12_reads_59 : decode cX12_reads 59 = .ok (.invokestatic 232, 3) := by decide +kernel
theorem gdX12_reads_62 : decode cX12_reads 62 = .ok (.ifCond .ge 5, 3) := by decide +kernel
theorem gdX12_reads_67 : decode cX12_reads 67 = .ok (.iinc 2 1, 3) := by decide +kernel
theorem gdX12_reads_70 : decode cX12_reads 70 = .ok (.iconst 0, 1) := by decide +kernel
theorem gdX12_reads_71 : decode cX12_reads 71 = .ok (.istore 4, 2) := by decide +kernel
theorem gdX12_reads_73 : decode cX12_reads 73 = .ok (.iconst 0, 1) := by decide +kernel
theorem gdX12_reads_74 : decode cX12_reads 74 = .ok (.istore 5, 2) := by decide +kernel
theorem gdX12_reads_52 : decode cX12_reads 52 = .ok (.iinc 2 1, 3) := by decide +kernel
theorem gdX12_reads_55 : decode cX12_reads 55 = .ok (.goto (-31), 3) := by decide +kernel
theorem gdX12_reads_22 : decode cX12_reads 22 = .ok (.iconst 0, 1) := by decide +kernel
theorem gdX12_reads_23 : decode cX12_reads 23 = .ok (.istore_n 2, 1) := by decide +kernel
theorem gdX12_reads_2 : decode cX12_reads 2 = .ok (.iload_n 2, 1) := by decide +kernel
theorem gdX12_reads_3 : decode cX12_reads 3 = .ok (.bipush 8, 2) := by decide +kernel
theorem gdX12_reads_5 : decode cX12_reads 5 = .ok (.if_icmp .ge 17, 3) := by decide +kernel
theorem gdX12_reads_8 : decode cX12_reads 8 = .ok (.aload_n 0, 1) := by decide +kernel
theorem gdX12_reads_9 : decode cX12_reads 9 = .ok (.getfield 37, 3) := by decide +kernel
theorem gdX12_reads_12 : decode cX12_reads 12 = .ok (.iload_n 2, 1) := by decide +kernel
theorem gdX12_reads_13 : decode cX12_reads 13 = .ok (.bipush (-9), 2) := by decide +kernel
theorem gdX12_reads_15 : decode cX12_reads 15 = .ok (.iastore, 1) := by decide +kernel
theorem gdX12_reads_16 : decode cX12_reads 16 = .ok (.iinc 2 1, 3) := by decide +kernel
theorem gdX12_reads_19 : decode cX12_reads 19 = .ok (.goto (-17), 3) := by decide +kernel
theorem gdX12_reads_0 : decode cX12_reads 0 = .ok (.iconst 0, 1) := by decide +kernel
theorem gdX12_reads_1 : decode cX12_reads 1 = .ok (.istore_n 2, 1) := by decide +kernel
theorem gdX12_fault_19 : decode cX12_fault 19 = .ok (.ireturn, 1) := by decide +kernel
theorem gdX12_fault_0 : decode cX12_fault 0 = .ok (.aload_n 0, 1) := by decide +kernel
theorem gdX12_fault_1 : decode cX12_fault 1 = .ok (.iload_n 1, 1) := by decide +kernel
theorem gdX12_fault_2 : decode cX12_fault 2 = .ok (.invokevirtual 226, 3) := by decide +kernel
theorem gdX12_fault_5 : decode cX12_fault 5 = .ok (.istore_n 2, 1) := by decide +kernel
theorem gdX12_fault_6 : decode cX12_fault 6 = .ok (.iload_n 2, 1) := by decide +kernel
theorem gdX12_fault_7 : decode cX12_fault 7 = .ok (.ifCond .ge 7, 3) := by decide +kernel
theorem gdX12_fault_14 : decode cX12_fault 14 = .ok (.aload_n 0, 1) := by decide +kernel
theorem gdX12_fault_15 : decode cX12_fault 15 = .ok (.iload_n 1, 1) := by decide +kernel
theorem gdX12_fault_16 : decode cX12_fault 16 = .ok (.invokevirtual 235, 3) := by decide +kernel
theorem gdX12_fault_10 : decode cX12_fault 10 = .ok (.iload_n 2, 1) := by decide +kernel
theorem gdX12_fault_11 : decode cX12_fault 11 = .ok (.goto 8, 3) := by decide +kernel
theorem gdX12_finding_0 : decode cX12_finding 0 = .ok (.aload_n 0, 1) := by decide +kernel
theorem gdX12_finding_1 : decode cX12_finding 1 = .ok (.getfield 202, 3) := by decide +kernel
theorem gdX12_finding_4 : decode cX12_finding 4 = .ok (.ireturn, 1) := by decide +kernel
theorem gdX12_findings_19 : decode cX12_findings 19 = .ok (.ireturn, 1) := by decide +kernel
theorem gdX12_findings_0 : decode cX12_findings 0 = .ok (.iload_n 1, 1) := by decide +kernel
theorem gdX12_findings_1 : decode cX12_findings 1 = .ok (.iconst 1, 1) := by decide +kernel
theorem gdX12_findings_2 : decode cX12_findings 2 = .ok (.iconst 5, 1) := by decide +kernel
theorem gdX12_findings_3 : decode cX12_findings 3 = .ok (.invokestatic 208, 3) := by decide +kernel
theorem gdX12_findings_6 : decode cX12_findings 6 = .ok (.ifCond .eq 12, 3) := by decide +kernel
theorem gdX12_findings_18 : decode cX12_findings 18 = .ok (.iconst (-1), 1) := by decide +kernel
theorem gdX12_findings_9 : decode cX12_findings 9 = .ok (.aload_n 0, 1) := by decide +kernel
theorem gdX12_findings_10 : decode cX12_findings 10 = .ok (.getfield 7, 3) := by decide +kernel
theorem gdX12_findings_13 : decode cX12_findings 13 = .ok (.iload_n 1, 1) := by decide +kernel
theorem gdX12_findings_14 : decode cX12_findings 14 = .ok (.iaload, 1) := by decide +kernel
theorem gdX12_findings_15 : decode cX12_findings 15 = .ok (.goto 4, 3) := by decide +kernel
theorem gdX12_isDay_0 : decode cX12_isDay 0 = .ok (.iload_n 0, 1) := by decide +kernel
theorem gdX12_isDay_1 : decode cX12_isDay 1 = .ok (.iconst 0, 1) := by decide +kernel
theorem gdX12_isDay_2 : decode cX12_isDay 2 = .ok (.sipush 999, 3) := by decide +kernel
theorem gdX12_isDay_5 : decode cX12_isDay 5 = .ok (.invokestatic 208, 3) := by decide +kernel
theorem gdX12_isDay_8 : decode cX12_isDay 8 = .ok (.ireturn, 1) := by decide +kernel
theorem gdX12_isAsked_29 : decode cX12_isAsked 29 = .ok (.ireturn, 1) := by decide +kernel
theorem gdX12_isAsked_28 : decode cX12_isAsked 28 = .ok (.iconst 0, 1) := by decide +kernel
theorem gdX12_isAsked_0 : decode cX12_isAsked 0 = .ok (.iload_n 0, 1) := by decide +kernel
theorem gdX12_isAsked_1 : decode cX12_isAsked 1 = .ok (.iconst 0, 1) := by decide +kernel
theorem gdX12_isAsked_2 : decode cX12_isAsked 2 = .ok (.bipush 7, 2) := by decide +kernel
theorem gdX12_isAsked_4 : decode cX12_isAsked 4 = .ok (.invokestatic 208, 3) := by decide +kernel
theorem gdX12_isAsked_7 : decode cX12_isAsked 7 = .ok (.ifCond .eq 21, 3) := by decide +kernel
theorem gdX12_isAsked_10 : decode cX12_isAsked 10 = .ok (.iload_n 1, 1) := by decide +kernel
theorem gdX12_isAsked_11 : decode cX12_isAsked 11 = .ok (.invokestatic 238, 3) := by decide +kernel
theorem gdX12_isAsked_14 : decode cX12_isAsked 14 = .ok (.ifCond .eq 14, 3) := by decide +kernel
theorem gdX12_isAsked_17 : decode cX12_isAsked 17 = .ok (.iload_n 2, 1) := by decide +kernel
theorem gdX12_isAsked_18 : decode cX12_isAsked 18 = .ok (.invokestatic 238, 3) := by decide +kernel
theorem gdX12_isAsked_21 : decode cX12_isAsked 21 = .ok (.ifCond .eq 7, 3) := by decide +kernel
theorem gdX12_isAsked_24 : decode cX12_isAsked 24 = .ok (.iconst 1, 1) := by decide +kernel
theorem gdX12_isAsked_25 : decode cX12_isAsked 25 = .ok (.goto 4, 3) := by decide +kernel
theorem gdX12_force_20 : decode cX12_force 20 = .ok (.ireturn, 1) := by decide +kernel
theorem gdX12_force_0 : decode cX12_force 0 = .ok (.iload_n 1, 1) := by decide +kernel
theorem gdX12_force_1 : decode cX12_force 1 = .ok (.iload_n 2, 1) := by decide +kernel
theorem gdX12_force_2 : decode cX12_force 2 = .ok (.iload_n 3, 1) := by decide +kernel
theorem gdX12_force_3 : decode cX12_force 3 = .ok (.invokestatic 251, 3) := by decide +kernel
theorem gdX12_force_6 : decode cX12_force 6 = .ok (.ifCond .eq 13, 3) := by decide +kernel
theorem gdX12_force_19 : decode cX12_force 19 = .ok (.iconst (-1), 1) := by decide +kernel
theorem gdX12_force_9 : decode cX12_force 9 = .ok (.aload_n 0, 1) := by decide +kernel
theorem gdX12_force_10 : decode cX12_force 10 = .ok (.iload_n 1, 1) := by decide +kernel
theorem gdX12_force_11 : decode cX12_force 11 = .ok (.iload_n 2, 1) := by decide +kernel
theorem gdX12_force_12 : decode cX12_force 12 = .ok (.iload_n 3, 1) := by decide +kernel
theorem gdX12_force_13 : decode cX12_force 13 = .ok (.invokevirtual 248, 3) := by decide +kernel
theorem gdX12_force_16 : decode cX12_force 16 = .ok (.goto 4, 3) := by decide +kernel
theorem gdX12_enter_0 : decode cX12_enter 0 = .ok (.aload_n 0, 1) := by decide +kernel
theorem gdX12_enter_1 : decode cX12_enter 1 = .ok (.getfield 83, 3) := by decide +kernel
theorem gdX12_enter_4 : decode cX12_enter 4 = .ok (.aload_n 0, 1) := by decide +kernel
theorem gdX12_enter_5 : decode cX12_enter 5 = .ok (.getfield 305, 3) := by decide +kernel
theorem gdX12_enter_8 : decode cX12_enter 8 = .ok (.iload_n 1, 1) := by decide +kernel
theorem gdX12_enter_9 : decode cX12_enter 9 = .ok (.iastore, 1) := by decide +kernel
theorem gdX12_enter_10 : decode cX12_enter 10 = .ok (.aload_n 0, 1) := by decide +kernel
theorem gdX12_enter_11 : decode cX12_enter 11 = .ok (.getfield 86, 3) := by decide +kernel
theorem gdX12_enter_14 : decode cX12_enter 14 = .ok (.aload_n 0, 1) := by decide +kernel
theorem gdX12_enter_15 : decode cX12_enter 15 = .ok (.getfield 305, 3) := by decide +kernel
theorem gdX12_enter_18 : decode cX12_enter 18 = .ok (.aload_n 0, 1) := by decide +kernel
theorem gdX12_enter_19 : decode cX12_enter 19 = .ok (.getfield 229, 3) := by decide +kernel
theorem gdX12_enter_22 : decode cX12_enter 22 = .ok (.iastore, 1) := by decide +kernel
theorem gdX12_enter_23 : decode cX12_enter 23 = .ok (.aload_n 0, 1) := by decide +kernel
theorem gdX12_enter_24 : decode cX12_enter 24 = .ok (.getfield 89, 3) := by decide +kernel
theorem gdX12_enter_27 : decode cX12_enter 27 = .ok (.aload_n 0, 1) := by decide +kernel
theorem gdX12_enter_28 : decode cX12_enter 28 = .ok (.getfield 305, 3) := by decide +kernel
theorem gdX12_enter_31 : decode cX12_enter 31 = .ok (.iload_n 2, 1) := by decide +kernel
theorem gdX12_enter_32 : decode cX12_enter 32 = .ok (.iastore, 1) := by decide +kernel
theorem gdX12_enter_33 : decode cX12_enter 33 = .ok (.aload_n 0, 1) := by decide +kernel
theorem gdX12_enter_34 : decode cX12_enter 34 = .ok (.getfield 95, 3) := by decide +kernel
theorem gdX12_enter_37 : decode cX12_enter 37 = .ok (.aload_n 0, 1) := by decide +kernel
theorem gdX12_enter_38 : decode cX12_enter 38 = .ok (.getfield 305, 3) := by decide +kernel
theorem gdX12_enter_41 : decode cX12_enter 41 = .ok (.bipush (-9), 2) := by decide +kernel
theorem gdX12_enter_43 : decode cX12_enter 43 = .ok (.iastore, 1) := by decide +kernel
theorem gdX12_enter_44 : decode cX12_enter 44 = .ok (.aload_n 0, 1) := by decide +kernel
theorem gdX12_enter_45 : decode cX12_enter 45 = .ok (.getfield 98, 3) := by decide +kernel
theorem gdX12_enter_48 : decode cX12_enter 48 = .ok (.aload_n 0, 1) := by decide +kernel
theorem gdX12_enter_49 : decode cX12_enter 49 = .ok (.getfield 305, 3) := by decide +kernel
theorem gdX12_enter_52 : decode cX12_enter 52 = .ok (.iconst 0, 1) := by decide +kernel
theorem gdX12_enter_53 : decode cX12_enter 53 = .ok (.iastore, 1) := by decide +kernel
theorem gdX12_enter_54 : decode cX12_enter 54 = .ok (.aload_n 0, 1) := by decide +kernel
theorem gdX12_enter_55 : decode cX12_enter 55 = .ok (.dup, 1) := by decide +kernel
theorem gdX12_enter_56 : decode cX12_enter 56 = .ok (.getfield 305, 3) := by decide +kernel
theorem gdX12_enter_59 : decode cX12_enter 59 = .ok (.iconst 1, 1) := by decide +kernel
theorem gdX12_enter_60 : decode cX12_enter 60 = .ok (.iadd, 1) := by decide +kernel
theorem gdX12_enter_61 : decode cX12_enter 61 = .ok (.putfield 305, 3) := by decide +kernel
theorem gdX12_enter_64 : decode cX12_enter 64 = .ok (.aload_n 0, 1) := by decide +kernel
theorem gdX12_enter_65 : decode cX12_enter 65 = .ok (.getfield 305, 3) := by decide +kernel
theorem gdX12_enter_68 : decode cX12_enter 68 = .ok (.iconst 1, 1) := by decide +kernel
theorem gdX12_enter_69 : decode cX12_enter 69 = .ok (.isub, 1) := by decide +kernel
theorem gdX12_enter_70 : decode cX12_enter 70 = .ok (.ireturn, 1) := by decide +kernel
theorem gdX12_grant_17 : decode cX12_grant 17 = .ok (.iconst (-1), 1) := by decide +kernel
theorem gdX12_grant_18 : decode cX12_grant 18 = .ok (.ireturn, 1) := by decide +kernel
theorem gdX12_grant_0 : decode cX12_grant 0 = .ok (.iload_n 1, 1) := by decide +kernel
theorem gdX12_grant_1 : decode cX12_grant 1 = .ok (.iconst 1, 1) := by decide +kernel
theorem gdX12_grant_2 : decode cX12_grant 2 = .ok (.bipush 10, 2) := by decide +kernel
theorem gdX12_grant_4 : decode cX12_grant 4 = .ok (.invokestatic 208, 3) := by decide +kernel
theorem gdX12_grant_7 : decode cX12_grant 7 = .ok (.ifCond .eq 10, 3) := by decide +kernel
theorem gdX12_grant_10 : decode cX12_grant 10 = .ok (.iload_n 2, 1) := by decide +kernel
theorem gdX12_grant_11 : decode cX12_grant 11 = .ok (.invokestatic 238, 3) := by decide +kernel
theorem gdX12_grant_14 : decode cX12_grant 14 = .ok (.ifCond .ne 5, 3) := by decide +kernel
theorem gdX12_grant_19 : decode cX12_grant 19 = .ok (.aload_n 0, 1) := by decide +kernel
theorem gdX12_grant_20 : decode cX12_grant 20 = .ok (.getfield 305, 3) := by decide +kernel
theorem gdX12_grant_23 : decode cX12_grant 23 = .ok (.bipush 24, 2) := by decide +kernel
theorem gdX12_grant_25 : decode cX12_grant 25 = .ok (.if_icmp .ne 6, 3) := by decide +kernel
theorem gdX12_grant_31 : decode cX12_grant 31 = .ok (.aload_n 0, 1) := by decide +kernel
theorem gdX12_grant_32 : decode cX12_grant 32 = .ok (.iconst 5, 1) := by decide +kernel
theorem gdX12_grant_33 : decode cX12_grant 33 = .ok (.bipush (-9), 2) := by decide +kernel
theorem gdX12_grant_35 : decode cX12_grant 35 = .ok (.invokevirtual 334, 3) := by decide +kernel
theorem gdX12_grant_38 : decode cX12_grant 38 = .ok (.istore_n 3, 1) := by decide +kernel
theorem gdX12_grant_39 : decode cX12_grant 39 = .ok (.aload_n 0, 1) := by decide +kernel
theorem gdX12_grant_40 : decode cX12_grant 40 = .ok (.getfield 114, 3) := by decide +kernel
theorem gdX12_grant_43 : decode cX12_grant 43 = .ok (.iload_n 3, 1) := by decide +kernel
theorem gdX12_grant_44 : decode cX12_grant 44 = .ok (.iload_n 1, 1) := by decide +kernel
theorem gdX12_grant_45 : decode cX12_grant 45 = .ok (.iastore, 1) := by decide +kernel
theorem gdX12_grant_46 : decode cX12_grant 46 = .ok (.aload_n 0, 1) := by decide +kernel
theorem gdX12_grant_47 : decode cX12_grant 47 = .ok (.getfield 117, 3) := by decide +kernel
theorem gdX12_grant_50 : decode cX12_grant 50 = .ok (.iload_n 3, 1) := by decide +kernel
theorem gdX12_grant_51 : decode cX12_grant 51 = .ok (.iload_n 2, 1) := by decide +kernel
theorem gdX12_grant_52 : decode cX12_grant 52 = .ok (.iastore, 1) := by decide +kernel
theorem gdX12_grant_53 : decode cX12_grant 53 = .ok (.iload_n 3, 1) := by decide +kernel
theorem gdX12_grant_54 : decode cX12_grant 54 = .ok (.ireturn, 1) := by decide +kernel
theorem gdX12_grant_28 : decode cX12_grant 28 = .ok (.bipush (-2), 2) := by decide +kernel
theorem gdX12_grant_30 : decode cX12_grant 30 = .ok (.ireturn, 1) := by decide +kernel
theorem gdX12_grants_16 : decode cX12_grants 16 = .ok (.iconst (-1), 1) := by decide +kernel
theorem gdX12_grants_17 : decode cX12_grants 17 = .ok (.ireturn, 1) := by decide +kernel
theorem gdX12_grants_36 : decode cX12_grants 36 = .ok (.aload_n 0, 1) := by decide +kernel
theorem gdX12_grants_37 : decode cX12_grants 37 = .ok (.iconst 3, 1) := by decide +kernel
theorem gdX12_grants_38 : decode cX12_grants 38 = .ok (.invokevirtual 216, 3) := by decide +kernel
theorem gdX12_grants_41 : decode cX12_grants 41 = .ok (.ireturn, 1) := by decide +kernel
theorem gdX12_grants_110 : decode cX12_grants 110 = .ok (.invokevirtual 290, 3) := by decide +kernel
theorem gdX12_grants_113 : decode cX12_grants 113 = .ok (.ireturn, 1) := by decide +kernel
theorem gdX12_grants_96 : decode cX12_grants 96 = .ok (.putfield 413, 3) := by decide +kernel
theorem gdX12_grants_99 : decode cX12_grants 99 = .ok (.aload_n 0, 1) := by decide +kernel
theorem gdX12_grants_100 : decode cX12_grants 100 = .ok (.iload_n 3, 1) := by decide +kernel
theorem gdX12_grants_101 : decode cX12_grants 101 = .ok (.iload_n 3, 1) := by decide +kernel
theorem gdX12_grants_102 : decode cX12_grants 102 = .ok (.ifCond .lt 7, 3) := by decide +kernel
theorem gdX12_grants_109 : decode cX12_grants 109 = .ok (.iconst 0, 1) := by decide +kernel
theorem gdX12_grants_105 : decode cX12_grants 105 = .ok (.iconst 1, 1) := by decide +kernel
theorem gdX12_grants_106 : decode cX12_grants 106 = .ok (.goto 4, 3) := by decide +kernel
theorem gdX12_grants_66 : decode cX12_grants 66 = .ok (.isub, 1) := by decide +kernel
theorem gdX12_grants_67 : decode cX12_grants 67 = .ok (.istore_n 3, 1) := by decide +kernel
theorem gdX12_grants_68 : decode cX12_grants 68 = .ok (.aload_n 0, 1) := by decide +kernel
theorem gdX12_grants_69 : decode cX12_grants 69 = .ok (.iload_n 3, 1) := by decide +kernel
theorem gdX12_grants_70 : decode cX12_grants 70 = .ok (.ifCond .lt 25, 3) := by decide +kernel
theorem gdX12_grants_95 : decode cX12_grants 95 = .ok (.lconst 0, 1) := by decide +kernel
theorem gdX12_grants_73 : decode cX12_grants 73 = .ok (.aload_n 0, 1) := by decide +kernel
theorem gdX12_grants_74 : decode cX12_grants 74 = .ok (.getfield 92, 3) := by decide +kernel
theorem gdX12_grants_77 : decode cX12_grants 77 = .ok (.iload_n 2, 1) := by decide +kernel
theorem gdX12_grants_78 : decode cX12_grants 78 = .ok (.iaload, 1) := by decide +kernel
theorem gdX12_grants_79 : decode cX12_grants 79 = .ok (.i2l, 1) := by decide +kernel
theorem gdX12_grants_80 : decode cX12_grants 80 = .ok (.aload_n 0, 1) := by decide +kernel
theorem gdX12_grants_81 : decode cX12_grants 81 = .ok (.getfield 114, 3) := by decide +kernel
theorem gdX12_grants_84 : decode cX12_grants 84 = .ok (.iload_n 1, 1) := by decide +kernel
theorem gdX12_grants_85 : decode cX12_grants 85 = .ok (.iaload, 1) := by decide +kernel
theorem gdX12_grants_86 : decode cX12_grants 86 = .ok (.i2l, 1) := by decide +kernel
theorem gdX12_grants_87 : decode cX12_grants 87 = .ok (.lmul, 1) := by decide +kernel
theorem gdX12_grants_88 : decode cX12_grants 88 = .ok (.ldc2_w 422, 3) := by decide +kernel
theorem gdX12_grants_91 : decode cX12_grants 91 = .ok (.ldiv, 1) := by decide +kernel
theorem gdX12_grants_92 : decode cX12_grants 92 = .ok (.goto 4, 3) := by decide +kernel
theorem gdX12_grants_0 : decode cX12_grants 0 = .ok (.aload_n 0, 1) := by decide +kernel
theorem gdX12_grants_1 : decode cX12_grants 1 = .ok (.iload_n 1, 1) := by decide +kernel
theorem gdX12_grants_2 : decode cX12_grants 2 = .ok (.invokevirtual 308, 3) := by decide +kernel
theorem gdX12_grants_5 : decode cX12_grants 5 = .ok (.ifCond .eq 11, 3) := by decide +kernel
theorem gdX12_grants_8 : decode cX12_grants 8 = .ok (.aload_n 0, 1) := by decide +kernel
theorem gdX12_grants_9 : decode cX12_grants 9 = .ok (.iload_n 2, 1) := by decide +kernel
theorem gdX12_grants_10 : decode cX12_grants 10 = .ok (.invokevirtual 308, 3) := by decide +kernel
theorem gdX12_grants_13 : decode cX12_grants 13 = .ok (.ifCond .ne 5, 3) := by decide +kernel
theorem gdX12_grants_18 : decode cX12_grants 18 = .ok (.aload_n 0, 1) := by decide +kernel
theorem gdX12_grants_19 : decode cX12_grants 19 = .ok (.getfield 83, 3) := by decide +kernel
theorem gdX12_grants_22 : decode cX12_grants 22 = .ok (.iload_n 1, 1) := by decide +kernel
theorem gdX12_grants_23 : decode cX12_grants 23 = .ok (.iaload, 1) := by decide +kernel
theorem gdX12_grants_24 : decode cX12_grants 24 = .ok (.iconst 5, 1) := by decide +kernel
theorem gdX12_grants_25 : decode cX12_grants 25 = .ok (.if_icmp .ne 11, 3) := by decide +kernel
theorem gdX12_grants_28 : decode cX12_grants 28 = .ok (.aload_n 0, 1) := by decide +kernel
theorem gdX12_grants_29 : decode cX12_grants 29 = .ok (.iload_n 2, 1) := by decide +kernel
theorem gdX12_grants_30 : decode cX12_grants 30 = .ok (.invokevirtual 311, 3) := by decide +kernel
theorem gdX12_grants_33 : decode cX12_grants 33 = .ok (.ifCond .ne 9, 3) := by decide +kernel
theorem gdX12_grants_42 : decode cX12_grants 42 = .ok (.aload_n 0, 1) := by decide +kernel
theorem gdX12_grants_43 : decode cX12_grants 43 = .ok (.getfield 117, 3) := by decide +kernel
theorem gdX12_grants_46 : decode cX12_grants 46 = .ok (.iload_n 1, 1) := by decide +kernel
theorem gdX12_grants_47 : decode cX12_grants 47 = .ok (.iaload, 1) := by decide +kernel
theorem gdX12_grants_48 : decode cX12_grants 48 = .ok (.aload_n 0, 1) := by decide +kernel
theorem gdX12_grants_49 : decode cX12_grants 49 = .ok (.getfield 171, 3) := by decide +kernel
theorem gdX12_grants_52 : decode cX12_grants 52 = .ok (.ifCond .ge 10, 3) := by decide +kernel
theorem gdX12_grants_62 : decode cX12_grants 62 = .ok (.aload_n 0, 1) := by decide +kernel
theorem gdX12_grants_63 : decode cX12_grants 63 = .ok (.getfield 171, 3) := by decide +kernel
theorem gdX12_grants_55 : decode cX12_grants 55 = .ok (.aload_n 0, 1) := by decide +kernel
theorem gdX12_grants_56 : decode cX12_grants 56 = .ok (.getfield 229, 3) := by decide +kernel
theorem gdX12_grants_59 : decode cX12_grants 59 = .ok (.goto 7, 3) := by decide +kernel
theorem okm_X12_heard : okM yX12_heard cX12_heard 5 (some .int) 2 := ⟨w_1996, w_103, by decide +kernel, by decide +kernel, by decide +kernel⟩
theorem okw_X12_heard : okV yX12_heard := ⟨w_1995, w_68⟩
theorem okm_X12_knew : okM yX12_knew cX12_knew 5 (some .boolean) 3 := ⟨w_2004, w_103, by decide +kernel, by decide +kernel, by decide +kernel⟩
theorem okw_X12_knew : okV yX12_knew := ⟨w_2003, w_69⟩
theorem okm_X12_beside : okM yX12_beside cX12_beside 2 (some .int) 2 := ⟨w_1882, w_103, by decide +kernel, by decide +kernel, by decide +kernel⟩
theorem okm_X12_setSteps : okM yX12_setSteps cX12_setSteps 8 none 2 := ⟨w_2028, w_103, by decide +kernel, by decide +kernel, by decide +kernel⟩
theorem okw_X12_setSteps : okV yX12_setSteps := ⟨w_2027, w_73⟩
theorem okm_X12_isText : okM yX12_isText cX12_isText 1 (some .boolean) 1 := ⟨w_1734, w_103, by decide +kernel, by decide +kernel, by decide +kernel⟩
theorem okm_X12_letter : okM yX12_letter cX12_letter 1 (some .int) 1 := ⟨w_1757, w_103, by decide +kernel, by decide +kernel, by decide +kernel⟩
theorem okm_X12_askedText : okM yX12_askedText cX12_askedText 2 (some .int) 1 := ⟨w_1742, w_103, by decide +kernel, by decide +kernel, by decide +kernel⟩
theorem okw_X12_askedText : okV yX12_askedText := ⟨w_1741, w_39⟩
theorem okm_X12_reads : okM yX12_reads cX12_reads 6 (some .int) 1 := ⟨w_1754, w_103, by decide +kernel, by decide +kernel, by decide +kernel⟩
theorem okw_X12_reads : okV yX12_reads := ⟨w_1753, w_40⟩
theorem okm_X12_isDay : okM yX12_isDay cX12_isDay 1 (some .boolean) 1 := ⟨w_1764, w_103, by decide +kernel, by decide +kernel, by decide +kernel⟩
theorem okm_X12_isAsked : okM yX12_isAsked cX12_isAsked 3 (some .boolean) 3 := ⟨w_1771, w_103, by decide +kernel, by decide +kernel, by decide +kernel⟩
theorem okm_X12_enter : okM yX12_enter cX12_enter 3 (some .int) 2 := ⟨w_1898, w_103, by decide +kernel, by decide +kernel, by decide +kernel⟩
theorem okw_X12_enter : okV yX12_enter := ⟨w_1897, w_59⟩
set_option maxHeartbeats 4000000 in
set_option maxRecDepth 100000 in
theorem c_X12_knew (l : Launch) (g : GG) (ad : Nat → Nat) (o : OO) (x1 : Int) (x2 : Int) (x3 : Int) (v : Int) (h : s_X12_knew o x1 x2 x3 = some v) : CI l g yX12_knew cX12_knew 5 (some .boolean) 1 24 (wM g ad o) [.ref (ad 0), iv x1, iv x2, iv x3] v (wM g ad o) := by
  refine met_I (by decide) (Nat.le_of_ble_eq_true rfl) ?_
  intro X E hQ
  show Go X 0 (wM g ad o) [(0, .ref (ad 0)), (1, iv x1), (2, iv x2), (3, iv x3)] []
  have j24 : ∀ (y0 : Int), b_X12_knew_24 o y0 = some v → Go X 24 (wM g ad o) [] [iv y0] := by
    intro y0 h
    unfold b_X12_knew_24 at h
    obtain ⟨hz, h⟩ := qZ_of h
    exact g_zret E hQ hz (Option.some.inj h) rfl gdX12_knew_24
  have j23 : b_X12_knew_23 o = some v → Go X 23 (wM g ad o) [] [] := by
    intro h
    unfold b_X12_knew_23 at h
    refine g_iconst E gdX12_knew_23 ?_
    exact j24 0 h
  unfold s_X12_knew at h
  refine g_aload_n E gdX12_knew_0 rfl 0 rfl ?_
  refine g_iload_n E gdX12_knew_1 rfl 1 rfl ?_
  refine g_iload_n E gdX12_knew_2 rfl 2 rfl ?_
  obtain ⟨r1, hc2, h⟩ := qB_of h
  refine g_Vi (r := r1) (As := [iv x1, iv x2]) (rest := []) (w := wM g ad o) E (c_X12_heard l g ad o x1 x2 r1 hc2) okm_X12_heard okw_X12_heard w_1993 rfl (wM_0 g ad o) rfl rfl (Nat.le_of_ble_eq_true rfl) ⟨Nat.le_of_ble_eq_true rfl, Nat.le_of_ble_eq_true rfl⟩ gdX12_knew_3 ?_
  refine g_istore E [(4, iv r1), (0, .ref (ad 0)), (1, iv x1), (2, iv x2), (3, iv x3)] gdX12_knew_6 (by decide) rfl ?_
  refine g_iload E gdX12_knew_8 0 rfl ?_
  refine g_if_lt E 23 gdX12_knew_10 (by decide) h (fun h => ?_) (fun h => ?_)
  ·
    refine g_sub E [] rfl ?_
    exact j23  h
  ·
    refine g_iload E gdX12_knew_13 0 rfl ?_
    refine g_iload_n E gdX12_knew_15 rfl 4 rfl ?_
    refine g_icmp_gt E 23 gdX12_knew_16 (by decide) h (fun h => ?_) (fun h => ?_)
    ·
      refine g_sub E [] rfl ?_
      exact j23  h
    ·
      refine g_iconst E gdX12_knew_19 ?_
      refine g_goto E 24 gdX12_knew_20 (by decide) ?_
      refine g_sub E [] rfl ?_
      exact j24 1 h
set_option maxHeartbeats 4000000 in
set_option maxRecDepth 100000 in
theorem c_X12_early (l : Launch) (g : GG) (ad : Nat → Nat) (o : OO) (x1 : Int) (v : Int × OO) (h : s_X12_early o x1 = some v) : CI l g yX12_early cX12_early 9 (some .int) 3 64 (wM g ad o) [.ref (ad 0), iv x1] v.1 (wM g ad v.2) := by
  refine met_I (by decide) (Nat.le_of_ble_eq_true rfl) ?_
  intro X E hQ
  show Go X 0 (wM g ad o) [(0, .ref (ad 0)), (1, iv x1)] []
  have j233 : ∀ (o : OO) (x3 : Int) (x4 : Int), b_X12_early_233 o x3 x4 = some v → Go X 233 (wM g ad o) [(3, iv x3), (4, iv x4)] [] := by
    intro o x3 x4 h
    unfold b_X12_early_233 at h
    refine g_bipush E gdX12_early_233 (by decide) ?_
    refine g_iload_n E gdX12_early_235 rfl 0 rfl ?_
    refine g_imul E gdX12_early_236 ?_
    refine g_iload E gdX12_early_237 1 rfl ?_
    refine g_iadd E gdX12_early_239 ?_
    exact g_iret E hQ (by rw [← Option.some.inj h]) (by rw [← Option.some.inj h]) gdX12_early_240
  have j227 : ∀ (o : OO) (x1 : Int) (x3 : Int) (x4 : Int) (x5 : Int) (v : (Int × Int × Int) ⊕ ((Int × Int))), b_X12_early_227 o x1 x3 x4 x5 = some v → (∀ (x3 : Int) (x4 : Int) (x5 : Int), v = .inl (x3, x4, x5) → Go X 20 (wM g ad o) [(0, .ref (ad 0)), (1, iv x1), (3, iv x3), (4, iv x4), (5, iv x5)] []) → (∀ (x3 : Int) (x4 : Int), v = .inr ((x3, x4)) → Go X 233 (wM g ad o) [(3, iv x3), (4, iv x4)] []) → Go X 227 (wM g ad o) [(0, .ref (ad 0)), (1, iv x1), (3, iv x3), (4, iv x4), (5, iv x5)] [] := by
    intro o x1 x3 x4 x5 v h k0 k1
    unfold b_X12_early_227 at h
    refine g_iinc E [(5, iv (x5 + 1)), (0, .ref (ad 0)), (1, iv x1), (3, iv x3), (4, iv x4)] gdX12_early_227 4 rfl (by decide) rfl ?_
    refine g_goto E 20 gdX12_early_230 (by decide) ?_
    refine g_sub E [1, 2, 3, 4, 0] rfl ?_
    exact k0 x3 x4 (x5 + 1) (Option.some.inj h).symm
  have j224 : ∀ (o : OO) (x1 : Int) (x3 : Int) (x5 : Int) (y0 : Int) (y1 : Int) (v : (Int × Int × Int) ⊕ ((Int × Int))), b_X12_early_224 o x1 x3 x5 y0 y1 = some v → (∀ (x3 : Int) (x4 : Int) (x5 : Int), v = .inl (x3, x4, x5) → Go X 20 (wM g ad o) [(0, .ref (ad 0)), (1, iv x1), (3, iv x3), (4, iv x4), (5, iv x5)] []) → (∀ (x3 : Int) (x4 : Int), v = .inr ((x3, x4)) → Go X 233 (wM g ad o) [(3, iv x3), (4, iv x4)] []) → Go X 224 (wM g ad o) [(0, .ref (ad 0)), (1, iv x1), (3, iv x3), (5, iv x5)] [iv y1, iv y0] := by
    intro o x1 x3 x5 y0 y1 v h k0 k1
    unfold b_X12_early_224 at h
    refine g_iadd E gdX12_early_224 ?_
    obtain ⟨n1, e_n1, h⟩ := qNm_of h
    refine g_nmi e_n1 ?_
    refine g_istore E [(4, iv n1), (0, .ref (ad 0)), (1, iv x1), (3, iv x3), (5, iv x5)] gdX12_early_225 (by decide) rfl ?_
    refine g_sub E [1, 2, 3, 0, 4] rfl ?_
    exact j227 o x1 x3 n1 x5 v h k0 k1
  have j223 : ∀ (o : OO) (x1 : Int) (x3 : Int) (x5 : Int) (y0 : Int) (v : (Int × Int × Int) ⊕ ((Int × Int))), b_X12_early_223 o x1 x3 x5 y0 = some v → (∀ (x3 : Int) (x4 : Int) (x5 : Int), v = .inl (x3, x4, x5) → Go X 20 (wM g ad o) [(0, .ref (ad 0)), (1, iv x1), (3, iv x3), (4, iv x4), (5, iv x5)] []) → (∀ (x3 : Int) (x4 : Int), v = .inr ((x3, x4)) → Go X 233 (wM g ad o) [(3, iv x3), (4, iv x4)] []) → Go X 223 (wM g ad o) [(0, .ref (ad 0)), (1, iv x1), (3, iv x3), (5, iv x5)] [iv y0] := by
    intro o x1 x3 x5 y0 v h k0 k1
    unfold b_X12_early_223 at h
    refine g_iconst E gdX12_early_223 ?_
    exact j224 o x1 x3 x5 y0 0 v h k0 k1
  have j205 : ∀ (o : OO) (x1 : Int) (x4 : Int) (x5 : Int) (x7 : Int) (x8 : Int) (y0 : Int) (y1 : Int) (v : (Int × Int × Int) ⊕ ((Int × Int))), b_X12_early_205 o x1 x4 x5 x7 x8 y0 y1 = some v → (∀ (x3 : Int) (x4 : Int) (x5 : Int), v = .inl (x3, x4, x5) → Go X 20 (wM g ad o) [(0, .ref (ad 0)), (1, iv x1), (3, iv x3), (4, iv x4), (5, iv x5)] []) → (∀ (x3 : Int) (x4 : Int), v = .inr ((x3, x4)) → Go X 233 (wM g ad o) [(3, iv x3), (4, iv x4)] []) → Go X 205 (wM g ad o) [(0, .ref (ad 0)), (1, iv x1), (4, iv x4), (5, iv x5), (7, iv x7), (8, iv x8)] [iv y1, iv y0] := by
    intro o x1 x4 x5 x7 x8 y0 y1 v h k0 k1
    unfold b_X12_early_205 at h
    refine g_iadd E gdX12_early_205 ?_
    obtain ⟨n2, e_n2, h⟩ := qNm_of h
    refine g_nmi e_n2 ?_
    refine g_istore_n E [(3, iv n2), (0, .ref (ad 0)), (1, iv x1), (4, iv x4), (5, iv x5), (7, iv x7), (8, iv x8)] gdX12_early_206 rfl (by decide) rfl ?_
    refine g_iload E gdX12_early_207 3 rfl ?_
    refine g_iload E gdX12_early_209 6 rfl ?_
    refine g_if_ne E 223 gdX12_early_211 (by decide) h (fun h => ?_) (fun h => ?_)
    ·
      refine g_sub E [1, 2, 0, 4] rfl ?_
      exact j223 o x1 n2 x5 x4 v h k0 k1
    ·
      refine g_iload E gdX12_early_214 5 rfl ?_
      refine g_if_eq E 223 gdX12_early_216 (by decide) h (fun h => ?_) (fun h => ?_)
      ·
        refine g_sub E [1, 2, 0, 4] rfl ?_
        exact j223 o x1 n2 x5 x4 v h k0 k1
      ·
        refine g_iconst E gdX12_early_219 ?_
        refine g_goto E 224 gdX12_early_220 (by decide) ?_
        refine g_sub E [1, 2, 0, 4] rfl ?_
        exact j224 o x1 n2 x5 x4 1 v h k0 k1
  have j173 : ∀ (o : OO) (x1 : Int) (x3 : Int) (x4 : Int) (x5 : Int) (x7 : Int) (v : (Int × Int × Int) ⊕ ((Int × Int))), b_X12_early_173 o x1 x3 x4 x5 x7 = some v → (∀ (x3 : Int) (x4 : Int) (x5 : Int), v = .inl (x3, x4, x5) → Go X 20 (wM g ad o) [(0, .ref (ad 0)), (1, iv x1), (3, iv x3), (4, iv x4), (5, iv x5)] []) → (∀ (x3 : Int) (x4 : Int), v = .inr ((x3, x4)) → Go X 233 (wM g ad o) [(3, iv x3), (4, iv x4)] []) → Go X 173 (wM g ad o) [(0, .ref (ad 0)), (1, iv x1), (3, iv x3), (4, iv x4), (5, iv x5), (7, iv x7)] [] := by
    intro o x1 x3 x4 x5 x7 v h k0 k1
    unfold b_X12_early_173 at h
    refine g_aload_n E gdX12_early_173 rfl 0 rfl ?_
    refine g_aload_n E gdX12_early_174 rfl 0 rfl ?_
    refine g_get (T := TX12) E fw_X12 0 (wM_0 g ad o) rfl 50 (by decide) w_1516 rfl rfl gdX12_early_175 ?_
    refine g_iload E gdX12_early_178 4 rfl ?_
    obtain ⟨hi3, h⟩ := qIn_of h
    refine g_iald E 41 (wM_41 g ad o) (by decide) hi3 gdX12_early_180 ?_
    obtain ⟨n4, e_n4, h⟩ := qNm_of h
    refine g_nmi e_n4 ?_
    refine g_iload_n E gdX12_early_181 rfl 1 rfl ?_
    refine g_aload_n E gdX12_early_182 rfl 0 rfl ?_
    refine g_get (T := TX12) E fw_X12 0 (wM_0 g ad o) rfl 51 (by decide) w_1517 rfl rfl gdX12_early_183 ?_
    refine g_iload E gdX12_early_186 4 rfl ?_
    obtain ⟨hi5, h⟩ := qIn_of h
    refine g_iald E 42 (wM_42 g ad o) (by decide) hi5 gdX12_early_188 ?_
    obtain ⟨n6, e_n6, h⟩ := qNm_of h
    refine g_nmi e_n6 ?_
    obtain ⟨r7, hc8, h⟩ := qB_of h
    refine g_Vi (r := r7) (As := [iv n4, iv x1, iv n6]) (rest := []) (w := wM g ad o) E (c_X12_knew l g ad o n4 x1 n6 r7 hc8) okm_X12_knew okw_X12_knew w_2001 rfl (wM_0 g ad o) rfl rfl (Nat.le_of_ble_eq_true rfl) ⟨Nat.le_of_ble_eq_true rfl, Nat.le_of_ble_eq_true rfl⟩ gdX12_early_189 ?_
    refine g_istore E [(8, iv r7), (0, .ref (ad 0)), (1, iv x1), (3, iv x3), (4, iv x4), (5, iv x5), (7, iv x7)] gdX12_early_192 (by decide) rfl ?_
    refine g_iload_n E gdX12_early_194 rfl 3 rfl ?_
    refine g_iload E gdX12_early_195 0 rfl ?_
    refine g_if_eq E 204 gdX12_early_197 (by decide) h (fun h => ?_) (fun h => ?_)
    ·
      refine g_iconst E gdX12_early_204 ?_
      refine g_sub E [1, 2, 4, 5, 6, 0] rfl ?_
      exact j205 o x1 x4 x5 x7 r7 x3 0 v h k0 k1
    ·
      refine g_iconst E gdX12_early_200 ?_
      refine g_goto E 205 gdX12_early_201 (by decide) ?_
      refine g_sub E [1, 2, 4, 5, 6, 0] rfl ?_
      exact j205 o x1 x4 x5 x7 r7 x3 1 v h k0 k1
  have j165 : ∀ (o : OO) (x1 : Int) (x3 : Int) (x4 : Int) (x5 : Int) (x8 : Int) (y0 : Int) (v : (Int × Int) ⊕ ((Int))), b_X12_early_165 o x1 x3 x4 x5 x8 y0 = some v → (∀ (x7 : Int) (x8 : Int), v = .inl (x7, x8) → Go X 95 (wM g ad o) [(0, .ref (ad 0)), (1, iv x1), (3, iv x3), (4, iv x4), (5, iv x5), (7, iv x7), (8, iv x8)] []) → (∀ (x7 : Int), v = .inr (x7) → Go X 173 (wM g ad o) [(0, .ref (ad 0)), (1, iv x1), (3, iv x3), (4, iv x4), (5, iv x5), (7, iv x7)] []) → Go X 165 (wM g ad o) [(0, .ref (ad 0)), (1, iv x1), (3, iv x3), (4, iv x4), (5, iv x5), (8, iv x8)] [iv y0] := by
    intro o x1 x3 x4 x5 x8 y0 v h k0 k1
    unfold b_X12_early_165 at h
    refine g_istore E [(7, iv y0), (0, .ref (ad 0)), (1, iv x1), (3, iv x3), (4, iv x4), (5, iv x5), (8, iv x8)] gdX12_early_165 (by decide) rfl ?_
    refine g_iinc E [(8, iv (x8 + 1)), (7, iv y0), (0, .ref (ad 0)), (1, iv x1), (3, iv x3), (4, iv x4), (5, iv x5)] gdX12_early_167 6 rfl (by decide) rfl ?_
    refine g_goto E 95 gdX12_early_170 (by decide) ?_
    refine g_sub E [2, 3, 4, 5, 6, 1, 0] rfl ?_
    exact k0 y0 (x8 + 1) (Option.some.inj h).symm
  have j160 : ∀ (o : OO) (x1 : Int) (x3 : Int) (x4 : Int) (x5 : Int) (x8 : Int) (v : (Int × Int) ⊕ ((Int))), b_X12_early_160 o x1 x3 x4 x5 x8 = some v → (∀ (x7 : Int) (x8 : Int), v = .inl (x7, x8) → Go X 95 (wM g ad o) [(0, .ref (ad 0)), (1, iv x1), (3, iv x3), (4, iv x4), (5, iv x5), (7, iv x7), (8, iv x8)] []) → (∀ (x7 : Int), v = .inr (x7) → Go X 173 (wM g ad o) [(0, .ref (ad 0)), (1, iv x1), (3, iv x3), (4, iv x4), (5, iv x5), (7, iv x7)] []) → Go X 160 (wM g ad o) [(0, .ref (ad 0)), (1, iv x1), (3, iv x3), (4, iv x4), (5, iv x5), (8, iv x8)] [] := by
    intro o x1 x3 x4 x5 x8 v h k0 k1
    unfold b_X12_early_160 at h
    refine g_iconst E gdX12_early_160 ?_
    refine g_goto E 165 gdX12_early_161 (by decide) ?_
    exact j165 o x1 x3 x4 x5 x8 1 v h k0 k1
  have j164 : ∀ (o : OO) (x1 : Int) (x3 : Int) (x4 : Int) (x5 : Int) (x8 : Int) (v : (Int × Int) ⊕ ((Int))), b_X12_early_164 o x1 x3 x4 x5 x8 = some v → (∀ (x7 : Int) (x8 : Int), v = .inl (x7, x8) → Go X 95 (wM g ad o) [(0, .ref (ad 0)), (1, iv x1), (3, iv x3), (4, iv x4), (5, iv x5), (7, iv x7), (8, iv x8)] []) → (∀ (x7 : Int), v = .inr (x7) → Go X 173 (wM g ad o) [(0, .ref (ad 0)), (1, iv x1), (3, iv x3), (4, iv x4), (5, iv x5), (7, iv x7)] []) → Go X 164 (wM g ad o) [(0, .ref (ad 0)), (1, iv x1), (3, iv x3), (4, iv x4), (5, iv x5), (8, iv x8)] [] := by
    intro o x1 x3 x4 x5 x8 v h k0 k1
    unfold b_X12_early_164 at h
    refine g_iconst E gdX12_early_164 ?_
    exact j165 o x1 x3 x4 x5 x8 0 v h k0 k1
  have l95 : ∀ (o : OO) (x1 : Int) (x3 : Int) (x4 : Int) (x5 : Int) (r : (Int)) (s0 : Int × Int), loopW (fun s => l_X12_early_95 o x1 x3 x4 x5 s.1 s.2) s0 = some r → (∀ (x7 : Int), r = (x7) → Go X 173 (wM g ad o) [(0, .ref (ad 0)), (1, iv x1), (3, iv x3), (4, iv x4), (5, iv x5), (7, iv x7)] []) → Go X 95 (wM g ad o) [(0, .ref (ad 0)), (1, iv x1), (3, iv x3), (4, iv x4), (5, iv x5), (7, iv s0.1), (8, iv s0.2)] [] := by
    intro o x1 x3 x4 x5 r s0 h k1
    refine loop_rule (Head := fun s0 => Go X 95 (wM g ad o) [(0, .ref (ad 0)), (1, iv x1), (3, iv x3), (4, iv x4), (5, iv x5), (7, iv s0.1), (8, iv s0.2)] []) h ?_
    intro s v h kk kx
    obtain ⟨x7, x8⟩ := s
    have h : l_X12_early_95 o x1 x3 x4 x5 x7 x8 = some v := h
    have k0 : ∀ (x7 : Int) (x8 : Int), v = .inl (x7, x8) → Go X 95 (wM g ad o) [(0, .ref (ad 0)), (1, iv x1), (3, iv x3), (4, iv x4), (5, iv x5), (7, iv x7), (8, iv x8)] [] := fun x7 x8 e => kk (x7, x8) e
    have k1 : ∀ (x7 : Int), v = .inr (x7) → Go X 173 (wM g ad o) [(0, .ref (ad 0)), (1, iv x1), (3, iv x3), (4, iv x4), (5, iv x5), (7, iv x7)] [] := fun x7 e => k1 x7 (kx _ e).symm
    unfold l_X12_early_95 at h
    refine g_iload E gdX12_early_95 6 rfl ?_
    refine g_aload_n E gdX12_early_97 rfl 0 rfl ?_
    refine g_get (T := TX12) E fw_X12 0 (wM_0 g ad o) rfl 27 (by decide) w_1493 rfl rfl gdX12_early_98 ?_
    refine g_icmp_ge E 173 gdX12_early_101 (by decide) h (fun h => ?_) (fun h => ?_)
    ·
      refine g_sub E [0, 1, 2, 3, 4, 5] rfl ?_
      exact k1 x7 (Option.some.inj h).symm
    ·
      refine g_iload E gdX12_early_104 5 rfl ?_
      refine g_if_ne E 160 gdX12_early_106 (by decide) h (fun h => ?_) (fun h => ?_)
      ·
        refine g_sub E [0, 1, 2, 3, 4, 6] rfl ?_
        exact j160 o x1 x3 x4 x5 x8 v h k0 k1
      ·
        refine g_iload E gdX12_early_109 6 rfl ?_
        refine g_aload_n E gdX12_early_111 rfl 0 rfl ?_
        refine g_get (T := TX12) E fw_X12 0 (wM_0 g ad o) rfl 50 (by decide) w_1516 rfl rfl gdX12_early_112 ?_
        refine g_iload E gdX12_early_115 4 rfl ?_
        obtain ⟨hi9, h⟩ := qIn_of h
        refine g_iald E 41 (wM_41 g ad o) (by decide) hi9 gdX12_early_117 ?_
        obtain ⟨n10, e_n10, h⟩ := qNm_of h
        refine g_nmi e_n10 ?_
        refine g_icmp_eq E 164 gdX12_early_118 (by decide) h (fun h => ?_) (fun h => ?_)
        ·
          refine g_sub E [0, 1, 2, 3, 4, 6] rfl ?_
          exact j164 o x1 x3 x4 x5 x8 v h k0 k1
        ·
          refine g_aload_n E gdX12_early_121 rfl 0 rfl ?_
          refine g_get (T := TX12) E fw_X12 0 (wM_0 g ad o) rfl 31 (by decide) w_1497 rfl rfl gdX12_early_122 ?_
          refine g_iload E gdX12_early_125 6 rfl ?_
          obtain ⟨hi11, h⟩ := qIn_of h
          refine g_iald E 24 (wM_24 g ad o) (by decide) hi11 gdX12_early_127 ?_
          obtain ⟨n12, e_n12, h⟩ := qNm_of h
          refine g_nmi e_n12 ?_
          refine g_aload_n E gdX12_early_128 rfl 0 rfl ?_
          refine g_get (T := TX12) E fw_X12 0 (wM_0 g ad o) rfl 31 (by decide) w_1497 rfl rfl gdX12_early_129 ?_
          refine g_aload_n E gdX12_early_132 rfl 0 rfl ?_
          refine g_get (T := TX12) E fw_X12 0 (wM_0 g ad o) rfl 50 (by decide) w_1516 rfl rfl gdX12_early_133 ?_
          refine g_iload E gdX12_early_136 4 rfl ?_
          obtain ⟨hi13, h⟩ := qIn_of h
          refine g_iald E 41 (wM_41 g ad o) (by decide) hi13 gdX12_early_138 ?_
          obtain ⟨n14, e_n14, h⟩ := qNm_of h
          refine g_nmi e_n14 ?_
          obtain ⟨hi15, h⟩ := qIn_of h
          refine g_iald E 24 (wM_24 g ad o) (by decide) hi15 gdX12_early_139 ?_
          obtain ⟨n16, e_n16, h⟩ := qNm_of h
          refine g_nmi e_n16 ?_
          refine g_icmp_ne E 164 gdX12_early_140 (by decide) h (fun h => ?_) (fun h => ?_)
          ·
            refine g_sub E [0, 1, 2, 3, 4, 6] rfl ?_
            exact j164 o x1 x3 x4 x5 x8 v h k0 k1
          ·
            refine g_aload_n E gdX12_early_143 rfl 0 rfl ?_
            refine g_iload E gdX12_early_144 6 rfl ?_
            refine g_iload_n E gdX12_early_146 rfl 1 rfl ?_
            refine g_aload_n E gdX12_early_147 rfl 0 rfl ?_
            refine g_get (T := TX12) E fw_X12 0 (wM_0 g ad o) rfl 51 (by decide) w_1517 rfl rfl gdX12_early_148 ?_
            refine g_iload E gdX12_early_151 4 rfl ?_
            obtain ⟨hi17, h⟩ := qIn_of h
            refine g_iald E 42 (wM_42 g ad o) (by decide) hi17 gdX12_early_153 ?_
            obtain ⟨n18, e_n18, h⟩ := qNm_of h
            refine g_nmi e_n18 ?_
            obtain ⟨r19, hc20, h⟩ := qB_of h
            refine g_Vi (r := r19) (As := [iv x8, iv x1, iv n18]) (rest := []) (w := wM g ad o) E (c_X12_knew l g ad o x8 x1 n18 r19 hc20) okm_X12_knew okw_X12_knew w_2001 rfl (wM_0 g ad o) rfl rfl (Nat.le_of_ble_eq_true rfl) ⟨Nat.le_of_ble_eq_true rfl, Nat.le_of_ble_eq_true rfl⟩ gdX12_early_154 ?_
            refine g_if_eq E 164 gdX12_early_157 (by decide) h (fun h => ?_) (fun h => ?_)
            ·
              refine g_sub E [0, 1, 2, 3, 4, 6] rfl ?_
              exact j164 o x1 x3 x4 x5 x8 v h k0 k1
            ·
              refine g_sub E [0, 1, 2, 3, 4, 6] rfl ?_
              exact j160 o x1 x3 x4 x5 x8 v h k0 k1
  have j95 : ∀ (o : OO) (x1 : Int) (x3 : Int) (x4 : Int) (x5 : Int) (x7 : Int) (x8 : Int) (v : (Int × Int × Int) ⊕ ((Int × Int))), e_X12_early_95 o x1 x3 x4 x5 x7 x8 = some v → (∀ (x3 : Int) (x4 : Int) (x5 : Int), v = .inl (x3, x4, x5) → Go X 20 (wM g ad o) [(0, .ref (ad 0)), (1, iv x1), (3, iv x3), (4, iv x4), (5, iv x5)] []) → (∀ (x3 : Int) (x4 : Int), v = .inr ((x3, x4)) → Go X 233 (wM g ad o) [(3, iv x3), (4, iv x4)] []) → Go X 95 (wM g ad o) [(0, .ref (ad 0)), (1, iv x1), (3, iv x3), (4, iv x4), (5, iv x5), (7, iv x7), (8, iv x8)] [] := by
    intro o x1 x3 x4 x5 x7 x8 v h k0 k1
    unfold e_X12_early_95 at h
    obtain ⟨r, hr, h⟩ := qB_of h
    refine l95 o x1 x3 x4 x5 r _ hr ?_
    ·
      intro u0 e
      have e := e.symm
      subst e
      have h : b_X12_early_173 o x1 x3 x4 x5 u0 = some v := h
      exact j173 o x1 x3 x4 x5 u0 v h k0 k1
  have j59 : ∀ (o : OO) (x1 : Int) (x3 : Int) (x4 : Int) (x5 : Int) (y0 : Int) (v : (Int × Int × Int) ⊕ ((Int × Int))), b_X12_early_59 o x1 x3 x4 x5 y0 = some v → (∀ (x3 : Int) (x4 : Int) (x5 : Int), v = .inl (x3, x4, x5) → Go X 20 (wM g ad o) [(0, .ref (ad 0)), (1, iv x1), (3, iv x3), (4, iv x4), (5, iv x5)] []) → (∀ (x3 : Int) (x4 : Int), v = .inr ((x3, x4)) → Go X 233 (wM g ad o) [(3, iv x3), (4, iv x4)] []) → Go X 59 (wM g ad o) [(0, .ref (ad 0)), (1, iv x1), (3, iv x3), (4, iv x4), (5, iv x5)] [iv y0] := by
    intro o x1 x3 x4 x5 y0 v h k0 k1
    unfold b_X12_early_59 at h
    refine g_istore E [(6, iv y0), (0, .ref (ad 0)), (1, iv x1), (3, iv x3), (4, iv x4), (5, iv x5)] gdX12_early_59 (by decide) rfl ?_
    refine g_iload E gdX12_early_61 0 rfl ?_
    refine g_if_eq E 227 gdX12_early_63 (by decide) h (fun h => ?_) (fun h => ?_)
    ·
      refine g_sub E [1, 2, 3, 4, 5] rfl ?_
      exact j227 o x1 x3 x4 x5 v h k0 k1
    ·
      refine g_aload_n E gdX12_early_66 rfl 1 rfl ?_
      refine g_iload_n E gdX12_early_67 rfl 2 rfl ?_
      obtain ⟨p21, hc22, h⟩ := qB_of h
      refine g_Vl (r := p21) (As := [iv x1]) (rest := []) (w := wM g ad o) E (c_X12_cellsOf l g ad o x1 p21 hc22) okm_X12_cellsOf okw_X12_cellsOf w_1914 rfl (wM_0 g ad o) rfl rfl (Nat.le_of_ble_eq_true rfl) ⟨Nat.le_of_ble_eq_true rfl, Nat.le_of_ble_eq_true rfl⟩ gdX12_early_68 ?_
      refine g_aload_n E gdX12_early_71 rfl 1 rfl ?_
      refine g_get (T := TX12) E fw_X12 0 (wM_0 g ad o) rfl 18 (by decide) w_1484 rfl rfl gdX12_early_72 ?_
      refine g_aload_n E gdX12_early_75 rfl 1 rfl ?_
      refine g_get (T := TX12) E fw_X12 0 (wM_0 g ad o) rfl 49 (by decide) w_1515 rfl rfl gdX12_early_76 ?_
      refine g_iload E gdX12_early_79 5 rfl ?_
      obtain ⟨hi23, h⟩ := qIn_of h
      refine g_iald E 40 (wM_40 g ad o) (by decide) hi23 gdX12_early_81 ?_
      obtain ⟨n24, e_n24, h⟩ := qNm_of h
      refine g_nmi e_n24 ?_
      obtain ⟨hi25, h⟩ := qIn_of h
      refine g_iald E 13 (wM_13 g ad o) (by decide) hi25 gdX12_early_82 ?_
      obtain ⟨n26, e_n26, h⟩ := qNm_of h
      refine g_nmi e_n26 ?_
      obtain ⟨r27, hc28, h⟩ := qB_of h
      refine g_Si (r := r27) (As := [.long p21, iv n26]) (rest := []) (w := wM g ad o) E (c_X12_has l g (wM g ad o) p21 n26 r27 hc28) okm_X12_has w_1919 w_1918 rfl rfl (Nat.le_of_ble_eq_true rfl) ⟨Nat.le_of_ble_eq_true rfl, Nat.le_of_ble_eq_true rfl⟩ gdX12_early_83 ?_
      refine g_if_eq E 227 gdX12_early_86 (by decide) h (fun h => ?_) (fun h => ?_)
      ·
        refine g_sub E [1, 2, 3, 4, 5] rfl ?_
        exact j227 o x1 x3 x4 x5 v h k0 k1
      ·
        refine g_iconst E gdX12_early_89 ?_
        refine g_istore E [(7, iv 0), (6, iv y0), (0, .ref (ad 0)), (1, iv x1), (3, iv x3), (4, iv x4), (5, iv x5)] gdX12_early_90 (by decide) rfl ?_
        refine g_iconst E gdX12_early_92 ?_
        refine g_istore E [(8, iv 0), (7, iv 0), (6, iv y0), (0, .ref (ad 0)), (1, iv x1), (3, iv x3), (4, iv x4), (5, iv x5)] gdX12_early_93 (by decide) rfl ?_
        refine g_sub E [3, 4, 5, 6, 7, 1, 0] rfl ?_
        exact j95 o x1 x3 x4 x5 0 0 v h k0 k1
  have j54 : ∀ (o : OO) (x1 : Int) (x3 : Int) (x4 : Int) (x5 : Int) (v : (Int × Int × Int) ⊕ ((Int × Int))), b_X12_early_54 o x1 x3 x4 x5 = some v → (∀ (x3 : Int) (x4 : Int) (x5 : Int), v = .inl (x3, x4, x5) → Go X 20 (wM g ad o) [(0, .ref (ad 0)), (1, iv x1), (3, iv x3), (4, iv x4), (5, iv x5)] []) → (∀ (x3 : Int) (x4 : Int), v = .inr ((x3, x4)) → Go X 233 (wM g ad o) [(3, iv x3), (4, iv x4)] []) → Go X 54 (wM g ad o) [(0, .ref (ad 0)), (1, iv x1), (3, iv x3), (4, iv x4), (5, iv x5)] [] := by
    intro o x1 x3 x4 x5 v h k0 k1
    unfold b_X12_early_54 at h
    refine g_iconst E gdX12_early_54 ?_
    refine g_goto E 59 gdX12_early_55 (by decide) ?_
    exact j59 o x1 x3 x4 x5 1 v h k0 k1
  have l20 : ∀ (o : OO) (x1 : Int) (r : (Int × Int)) (s0 : Int × Int × Int), loopW (fun s => l_X12_early_20 o x1 s.1 s.2.1 s.2.2) s0 = some r → (∀ (x3 : Int) (x4 : Int), r = ((x3, x4)) → Go X 233 (wM g ad o) [(3, iv x3), (4, iv x4)] []) → Go X 20 (wM g ad o) [(0, .ref (ad 0)), (1, iv x1), (3, iv s0.1), (4, iv s0.2.1), (5, iv s0.2.2)] [] := by
    intro o x1 r s0 h k1
    refine loop_rule (Head := fun s0 => Go X 20 (wM g ad o) [(0, .ref (ad 0)), (1, iv x1), (3, iv s0.1), (4, iv s0.2.1), (5, iv s0.2.2)] []) h ?_
    intro s v h kk kx
    obtain ⟨x3, x4, x5⟩ := s
    have h : l_X12_early_20 o x1 x3 x4 x5 = some v := h
    have k0 : ∀ (x3 : Int) (x4 : Int) (x5 : Int), v = .inl (x3, x4, x5) → Go X 20 (wM g ad o) [(0, .ref (ad 0)), (1, iv x1), (3, iv x3), (4, iv x4), (5, iv x5)] [] := fun x3 x4 x5 e => kk (x3, x4, x5) e
    have k1 : ∀ (x3 : Int) (x4 : Int), v = .inr ((x3, x4)) → Go X 233 (wM g ad o) [(3, iv x3), (4, iv x4)] [] := fun x3 x4 e => k1 x3 x4 (kx _ e).symm
    unfold l_X12_early_20 at h
    refine g_iload E gdX12_early_20 4 rfl ?_
    refine g_aload_n E gdX12_early_22 rfl 0 rfl ?_
    refine g_get (T := TX12) E fw_X12 0 (wM_0 g ad o) rfl 48 (by decide) w_1514 rfl rfl gdX12_early_23 ?_
    refine g_icmp_ge E 233 gdX12_early_26 (by decide) h (fun h => ?_) (fun h => ?_)
    ·
      refine g_sub E [2, 3] rfl ?_
      exact k1 x3 x4 (Option.some.inj h).symm
    ·
      refine g_aload_n E gdX12_early_29 rfl 0 rfl ?_
      refine g_get (T := TX12) E fw_X12 0 (wM_0 g ad o) rfl 37 (by decide) w_1503 rfl rfl gdX12_early_30 ?_
      refine g_iload_n E gdX12_early_33 rfl 1 rfl ?_
      obtain ⟨hi29, h⟩ := qIn_of h
      refine g_iald E 29 (wM_29 g ad o) (by decide) hi29 gdX12_early_34 ?_
      obtain ⟨n30, e_n30, h⟩ := qNm_of h
      refine g_nmi e_n30 ?_
      refine g_if_lt E 54 gdX12_early_35 (by decide) h (fun h => ?_) (fun h => ?_)
      ·
        exact j54 o x1 x3 x4 x5 v h k0 k1
      ·
        refine g_aload_n E gdX12_early_38 rfl 0 rfl ?_
        refine g_get (T := TX12) E fw_X12 0 (wM_0 g ad o) rfl 51 (by decide) w_1517 rfl rfl gdX12_early_39 ?_
        refine g_iload E gdX12_early_42 4 rfl ?_
        obtain ⟨hi31, h⟩ := qIn_of h
        refine g_iald E 42 (wM_42 g ad o) (by decide) hi31 gdX12_early_44 ?_
        obtain ⟨n32, e_n32, h⟩ := qNm_of h
        refine g_nmi e_n32 ?_
        refine g_aload_n E gdX12_early_45 rfl 0 rfl ?_
        refine g_get (T := TX12) E fw_X12 0 (wM_0 g ad o) rfl 37 (by decide) w_1503 rfl rfl gdX12_early_46 ?_
        refine g_iload_n E gdX12_early_49 rfl 1 rfl ?_
        obtain ⟨hi33, h⟩ := qIn_of h
        refine g_iald E 29 (wM_29 g ad o) (by decide) hi33 gdX12_early_50 ?_
        obtain ⟨n34, e_n34, h⟩ := qNm_of h
        refine g_nmi e_n34 ?_
        refine g_icmp_ge E 58 gdX12_early_51 (by decide) h (fun h => ?_) (fun h => ?_)
        ·
          refine g_iconst E gdX12_early_58 ?_
          exact j59 o x1 x3 x4 x5 0 v h k0 k1
        ·
          exact j54 o x1 x3 x4 x5 v h k0 k1
  have j20 : ∀ (o : OO) (x1 : Int) (x3 : Int) (x4 : Int) (x5 : Int), e_X12_early_20 o x1 x3 x4 x5 = some v → Go X 20 (wM g ad o) [(0, .ref (ad 0)), (1, iv x1), (3, iv x3), (4, iv x4), (5, iv x5)] [] := by
    intro o x1 x3 x4 x5 h
    unfold e_X12_early_20 at h
    obtain ⟨r, hr, h⟩ := qB_of h
    refine l20 o x1 r _ hr ?_
    ·
      intro u0 u1 e
      subst e
      have h : b_X12_early_233 o u0 u1 = some v := h
      exact j233 o u0 u1 h
  unfold s_X12_early at h
  refine g_aload_n E gdX12_early_0 rfl 0 rfl ?_
  refine g_iload_n E gdX12_early_1 rfl 1 rfl ?_
  obtain ⟨r35, o37, hc36, h⟩ := qB2_of h
  refine g_Vi (r := r35) (As := [iv x1]) (rest := []) (w := wM g ad o37) E (c_X12_askedLine l g ad o x1 (r35, o37) hc36) okm_X12_askedLine okw_X12_askedLine w_1925 rfl (wM_0 g ad o) rfl rfl (Nat.le_of_ble_eq_true rfl) ⟨Nat.le_of_ble_eq_true rfl, Nat.le_of_ble_eq_true rfl⟩ gdX12_early_2 ?_
  refine g_istore_n E [(2, iv r35), (0, .ref (ad 0)), (1, iv x1)] gdX12_early_5 rfl (by decide) rfl ?_
  refine g_iload_n E gdX12_early_6 rfl 0 rfl ?_
  refine g_if_ge E 12 gdX12_early_7 (by decide) h (fun h => ?_) (fun h => ?_)
  ·
    refine g_iconst E gdX12_early_12 ?_
    refine g_istore_n E [(3, iv 0), (2, iv r35), (0, .ref (ad 0)), (1, iv x1)] gdX12_early_13 rfl (by decide) rfl ?_
    refine g_iconst E gdX12_early_14 ?_
    refine g_istore E [(4, iv 0), (3, iv 0), (2, iv r35), (0, .ref (ad 0)), (1, iv x1)] gdX12_early_15 (by decide) rfl ?_
    refine g_iconst E gdX12_early_17 ?_
    refine g_istore E [(5, iv 0), (4, iv 0), (3, iv 0), (2, iv r35), (0, .ref (ad 0)), (1, iv x1)] gdX12_early_18 (by decide) rfl ?_
    refine g_sub E [4, 5, 2, 1, 0] rfl ?_
    exact j20 o37 x1 0 0 0 h
  ·
    refine g_iload_n E gdX12_early_10 rfl 0 rfl ?_
    exact g_iret E hQ (by rw [← Option.some.inj h]) (by rw [← Option.some.inj h]) gdX12_early_11
set_option maxHeartbeats 4000000 in
set_option maxRecDepth 100000 in
theorem c_X12_beside (l : Launch) (g : GG) (ws : va_W) (x0 : Int) (x1 : Int) (v : Int) (h : s_X12_beside x0 x1 = some v) : CI l g yX12_beside cX12_beside 2 (some .int) 0 0 ws [iv x0, iv x1] v ws := by
  refine met_I (by decide) (Nat.le_of_ble_eq_true rfl) ?_
  intro X E hQ
  show Go X 0 ws [(0, iv x0), (1, iv x1)] []
  have j44 : ∀ (y0 : Int), b_X12_beside_44 y0 = some v → Go X 44 ws [] [iv y0] := by
    intro y0 h
    unfold b_X12_beside_44 at h
    exact g_iret E hQ (Option.some.inj h) rfl gdX12_beside_44
  have j60 : ∀ (y0 : Int), b_X12_beside_60 y0 = some v → Go X 60 ws [] [iv y0] := by
    intro y0 h
    unfold b_X12_beside_60 at h
    exact g_iret E hQ (Option.some.inj h) rfl gdX12_beside_60
  have j78 : ∀ (y0 : Int), b_X12_beside_78 y0 = some v → Go X 78 ws [] [iv y0] := by
    intro y0 h
    unfold b_X12_beside_78 at h
    exact g_iret E hQ (Option.some.inj h) rfl gdX12_beside_78
  have j97 : ∀ (y0 : Int), b_X12_beside_97 y0 = some v → Go X 97 ws [] [iv y0] := by
    intro y0 h
    unfold b_X12_beside_97 at h
    exact g_iret E hQ (Option.some.inj h) rfl gdX12_beside_97
  unfold s_X12_beside at h
  refine g_iload_n E gdX12_beside_0 rfl 1 rfl ?_
  obtain ⟨h1, -, ⟨hx, h⟩ | ⟨hx0, h⟩⟩ := qEq_of h
  ·
    refine g_tabIn (kx := 0) (off := 27) E 28 gdX12_beside_1 hx (by decide) (by decide) (by decide) (by decide) (by decide) ?_
    refine g_iload_n E gdX12_beside_28 rfl 0 rfl ?_
    refine g_bipush E gdX12_beside_29 (by decide) ?_
    obtain ⟨hd1, h⟩ := qDv_of h
    refine g_idiv E hd1 gdX12_beside_31 ?_
    refine g_if_le E 42 gdX12_beside_32 (by decide) h (fun h => ?_) (fun h => ?_)
    ·
      refine g_bipush E gdX12_beside_42 (by decide) ?_
      refine g_sub E [] rfl ?_
      exact j44 (-9) h
    ·
      refine g_iload_n E gdX12_beside_35 rfl 0 rfl ?_
      refine g_bipush E gdX12_beside_36 (by decide) ?_
      refine g_isub E gdX12_beside_38 ?_
      refine g_goto E 44 gdX12_beside_39 (by decide) ?_
      refine g_sub E [] rfl ?_
      exact j44 (x0 - 8) h
  ·
    obtain ⟨h1, -, ⟨hx, h⟩ | ⟨hx1, h⟩⟩ := qEq_of h
    ·
      refine g_tabIn (kx := 1) (off := 44) E 45 gdX12_beside_1 hx (by decide) (by decide) (by decide) (by decide) (by decide) ?_
      refine g_iload_n E gdX12_beside_45 rfl 0 rfl ?_
      refine g_bipush E gdX12_beside_46 (by decide) ?_
      obtain ⟨hd2, h⟩ := qDv_of h
      refine g_irem E hd2 gdX12_beside_48 ?_
      refine g_if_le E 58 gdX12_beside_49 (by decide) h (fun h => ?_) (fun h => ?_)
      ·
        refine g_bipush E gdX12_beside_58 (by decide) ?_
        refine g_sub E [] rfl ?_
        exact j60 (-9) h
      ·
        refine g_iload_n E gdX12_beside_52 rfl 0 rfl ?_
        refine g_iconst E gdX12_beside_53 ?_
        refine g_isub E gdX12_beside_54 ?_
        refine g_goto E 60 gdX12_beside_55 (by decide) ?_
        refine g_sub E [] rfl ?_
        exact j60 (x0 - 1) h
    ·
      obtain ⟨h1, -, ⟨hx, h⟩ | ⟨hx2, h⟩⟩ := qEq_of h
      ·
        refine g_tabIn (kx := 2) (off := 60) E 61 gdX12_beside_1 hx (by decide) (by decide) (by decide) (by decide) (by decide) ?_
        refine g_iload_n E gdX12_beside_61 rfl 0 rfl ?_
        refine g_bipush E gdX12_beside_62 (by decide) ?_
        obtain ⟨hd3, h⟩ := qDv_of h
        refine g_irem E hd3 gdX12_beside_64 ?_
        refine g_bipush E gdX12_beside_65 (by decide) ?_
        refine g_icmp_ge E 76 gdX12_beside_67 (by decide) h (fun h => ?_) (fun h => ?_)
        ·
          refine g_bipush E gdX12_beside_76 (by decide) ?_
          refine g_sub E [] rfl ?_
          exact j78 (-9) h
        ·
          refine g_iload_n E gdX12_beside_70 rfl 0 rfl ?_
          refine g_iconst E gdX12_beside_71 ?_
          refine g_iadd E gdX12_beside_72 ?_
          refine g_goto E 78 gdX12_beside_73 (by decide) ?_
          refine g_sub E [] rfl ?_
          exact j78 (x0 + 1) h
      ·
        refine g_tabOut E 79 gdX12_beside_1 h1 (by omega) (by decide) ?_
        refine g_iload_n E gdX12_beside_79 rfl 0 rfl ?_
        refine g_bipush E gdX12_beside_80 (by decide) ?_
        obtain ⟨hd4, h⟩ := qDv_of h
        refine g_idiv E hd4 gdX12_beside_82 ?_
        refine g_bipush E gdX12_beside_83 (by decide) ?_
        refine g_icmp_ge E 95 gdX12_beside_85 (by decide) h (fun h => ?_) (fun h => ?_)
        ·
          refine g_bipush E gdX12_beside_95 (by decide) ?_
          refine g_sub E [] rfl ?_
          exact j97 (-9) h
        ·
          refine g_iload_n E gdX12_beside_88 rfl 0 rfl ?_
          refine g_bipush E gdX12_beside_89 (by decide) ?_
          refine g_iadd E gdX12_beside_91 ?_
          refine g_goto E 97 gdX12_beside_92 (by decide) ?_
          refine g_sub E [] rfl ?_
          exact j97 (x0 + 8) h
set_option maxHeartbeats 4000000 in
set_option maxRecDepth 100000 in
theorem c_X12_setSteps (l : Launch) (g : GG) (ad : Nat → Nat) (o : OO) (x1 : Int) (z2 : Int64) (v : OO) (h : s_X12_setSteps o x1 z2 = some v) : CV l g yX12_setSteps cX12_setSteps 8 1 22 (wM g ad o) [.ref (ad 0), iv x1, .long z2] (wM g ad v) := by
  refine met_V (by decide) (Nat.le_of_ble_eq_true rfl) ?_
  intro X E hQ
  show Go X 0 (wM g ad o) [(0, .ref (ad 0)), (1, iv x1), (2, .long z2)] []
  have j166 : ∀ (o : OO), b_X12_setSteps_166 o = some v → Go X 166 (wM g ad o) [] [] := by
    intro o h
    unfold b_X12_setSteps_166 at h
    exact g_vret E hQ (by rw [← Option.some.inj h]) gdX12_setSteps_166
  have j163 : ∀ (o : OO) (z2 : Int64) (x4 : Int) (v : (OO × Int) ⊕ ((OO))), b_X12_setSteps_163 o z2 x4 = some v → (∀ (o : OO) (x4 : Int), v = .inl (o, x4) → Go X 39 (wM g ad o) [(0, .ref (ad 0)), (2, .long z2), (4, iv x4)] []) → (∀ (o : OO), v = .inr (o) → Go X 166 (wM g ad o) [] []) → Go X 163 (wM g ad o) [(0, .ref (ad 0)), (2, .long z2), (4, iv x4)] [] := by
    intro o z2 x4 v h k0 k1
    unfold b_X12_setSteps_163 at h
    refine g_goto E 39 gdX12_setSteps_163 (by decide) ?_
    exact k0 o x4 (Option.some.inj h).symm
  have j157 : ∀ (o : OO) (z2 : Int64) (x4 : Int) (x5 : Int) (v : (OO × Int × Int) ⊕ ((OO × Int))), b_X12_setSteps_157 o z2 x4 x5 = some v → (∀ (o : OO) (x4 : Int) (x5 : Int), v = .inl (o, x4, x5) → Go X 50 (wM g ad o) [(0, .ref (ad 0)), (2, .long z2), (4, iv x4), (5, iv x5)] []) → (∀ (o : OO) (x4 : Int), v = .inr ((o, x4)) → Go X 163 (wM g ad o) [(0, .ref (ad 0)), (2, .long z2), (4, iv x4)] []) → Go X 157 (wM g ad o) [(0, .ref (ad 0)), (2, .long z2), (4, iv x4), (5, iv x5)] [] := by
    intro o z2 x4 x5 v h k0 k1
    unfold b_X12_setSteps_157 at h
    refine g_iinc E [(5, iv (x5 + 1)), (0, .ref (ad 0)), (2, .long z2), (4, iv x4)] gdX12_setSteps_157 3 rfl (by decide) rfl ?_
    refine g_goto E 50 gdX12_setSteps_160 (by decide) ?_
    refine g_sub E [1, 2, 3, 0] rfl ?_
    exact k0 o x4 (x5 + 1) (Option.some.inj h).symm
  have j151 : ∀ (o : OO) (z2 : Int64) (x4 : Int) (x5 : Int) (x6 : Int) (v : (OO × Int × Int) ⊕ ((OO × Int))), b_X12_setSteps_151 o z2 x4 x5 x6 = some v → (∀ (o : OO) (x4 : Int) (x6 : Int), v = .inl (o, x4, x6) → Go X 60 (wM g ad o) [(0, .ref (ad 0)), (2, .long z2), (4, iv x4), (5, iv x5), (6, iv x6)] []) → (∀ (o : OO) (x4 : Int), v = .inr ((o, x4)) → Go X 157 (wM g ad o) [(0, .ref (ad 0)), (2, .long z2), (4, iv x4), (5, iv x5)] []) → Go X 151 (wM g ad o) [(0, .ref (ad 0)), (2, .long z2), (4, iv x4), (5, iv x5), (6, iv x6)] [] := by
    intro o z2 x4 x5 x6 v h k0 k1
    unfold b_X12_setSteps_151 at h
    refine g_iinc E [(6, iv (x6 + 1)), (0, .ref (ad 0)), (2, .long z2), (4, iv x4), (5, iv x5)] gdX12_setSteps_151 4 rfl (by decide) rfl ?_
    refine g_goto E 60 gdX12_setSteps_154 (by decide) ?_
    refine g_sub E [1, 2, 3, 4, 0] rfl ?_
    exact k0 o x4 (x6 + 1) (Option.some.inj h).symm
  have l60 : ∀ (z2 : Int64) (x5 : Int) (r : (OO × Int)) (s0 : OO × Int × Int), loopW (fun s => l_X12_setSteps_60 z2 x5 s.1 s.2.1 s.2.2) s0 = some r → (∀ (o : OO) (x4 : Int), r = ((o, x4)) → Go X 157 (wM g ad o) [(0, .ref (ad 0)), (2, .long z2), (4, iv x4), (5, iv x5)] []) → Go X 60 (wM g ad s0.1) [(0, .ref (ad 0)), (2, .long z2), (4, iv s0.2.1), (5, iv x5), (6, iv s0.2.2)] [] := by
    intro z2 x5 r s0 h k1
    refine loop_rule (Head := fun s0 => Go X 60 (wM g ad s0.1) [(0, .ref (ad 0)), (2, .long z2), (4, iv s0.2.1), (5, iv x5), (6, iv s0.2.2)] []) h ?_
    intro s v h kk kx
    obtain ⟨o, x4, x6⟩ := s
    have h : l_X12_setSteps_60 z2 x5 o x4 x6 = some v := h
    have k0 : ∀ (o : OO) (x4 : Int) (x6 : Int), v = .inl (o, x4, x6) → Go X 60 (wM g ad o) [(0, .ref (ad 0)), (2, .long z2), (4, iv x4), (5, iv x5), (6, iv x6)] [] := fun o x4 x6 e => kk (o, x4, x6) e
    have k1 : ∀ (o : OO) (x4 : Int), v = .inr ((o, x4)) → Go X 157 (wM g ad o) [(0, .ref (ad 0)), (2, .long z2), (4, iv x4), (5, iv x5)] [] := fun o x4 e => k1 o x4 (kx _ e).symm
    unfold l_X12_setSteps_60 at h
    refine g_iload E gdX12_setSteps_60 4 rfl ?_
    refine g_iconst E gdX12_setSteps_62 ?_
    refine g_icmp_ge E 157 gdX12_setSteps_63 (by decide) h (fun h => ?_) (fun h => ?_)
    ·
      refine g_sub E [0, 1, 2, 3] rfl ?_
      exact k1 o x4 (Option.some.inj h).symm
    ·
      refine g_aload_n E gdX12_setSteps_66 rfl 0 rfl ?_
      refine g_get (T := TX12) E fw_X12 0 (wM_0 g ad o) rfl 62 (by decide) w_1528 rfl rfl gdX12_setSteps_67 ?_
      refine g_iload E gdX12_setSteps_70 3 rfl ?_
      obtain ⟨hi1, h⟩ := qIn_of h
      refine g_iald E 52 (wM_52 g ad o) (by decide) hi1 gdX12_setSteps_72 ?_
      obtain ⟨n2, e_n2, h⟩ := qNm_of h
      refine g_nmi e_n2 ?_
      refine g_ldcw (k := 100000000) E gdX12_setSteps_73 w_1879 (by decide) ?_
      refine g_icmp_ge E 157 gdX12_setSteps_76 (by decide) h (fun h => ?_) (fun h => ?_)
      ·
        refine g_sub E [0, 1, 2, 3] rfl ?_
        exact k1 o x4 (Option.some.inj h).symm
      ·
        refine g_iload E gdX12_setSteps_79 3 rfl ?_
        refine g_iload E gdX12_setSteps_81 4 rfl ?_
        obtain ⟨r3, hc4, h⟩ := qB_of h
        refine g_Si (r := r3) (As := [iv x5, iv x6]) (rest := []) (w := wM g ad o) E (c_X12_beside l g (wM g ad o) x5 x6 r3 hc4) okm_X12_beside w_1881 w_1880 rfl rfl (Nat.le_of_ble_eq_true rfl) ⟨Nat.le_of_ble_eq_true rfl, Nat.le_of_ble_eq_true rfl⟩ gdX12_setSteps_83 ?_
        refine g_istore E [(7, iv r3), (0, .ref (ad 0)), (2, .long z2), (4, iv x4), (5, iv x5), (6, iv x6)] gdX12_setSteps_86 (by decide) rfl ?_
        refine g_iload E gdX12_setSteps_88 0 rfl ?_
        refine g_if_lt E 151 gdX12_setSteps_90 (by decide) h (fun h => ?_) (fun h => ?_)
        ·
          refine g_sub E [1, 2, 3, 4, 5] rfl ?_
          exact j151 o z2 x4 x5 x6 v h k0 k1
        ·
          refine g_aload_n E gdX12_setSteps_93 rfl 1 rfl ?_
          refine g_get (T := TX12) E fw_X12 0 (wM_0 g ad o) rfl 15 (by decide) w_1481 rfl rfl gdX12_setSteps_94 ?_
          refine g_iload E gdX12_setSteps_97 0 rfl ?_
          obtain ⟨hi5, h⟩ := qIn_of h
          refine g_iald E 11 (wM_11 g ad o) (by decide) hi5 gdX12_setSteps_99 ?_
          obtain ⟨n6, e_n6, h⟩ := qNm_of h
          refine g_nmi e_n6 ?_
          refine g_iconst E gdX12_setSteps_100 ?_
          refine g_icmp_eq E 151 gdX12_setSteps_101 (by decide) h (fun h => ?_) (fun h => ?_)
          ·
            refine g_sub E [1, 2, 3, 4, 5] rfl ?_
            exact j151 o z2 x4 x5 x6 v h k0 k1
          ·
            refine g_lload_n E gdX12_setSteps_104 rfl 2 rfl ?_
            refine g_iload E gdX12_setSteps_105 0 rfl ?_
            obtain ⟨r7, hc8, h⟩ := qB_of h
            refine g_Si (r := r7) (As := [.long z2, iv r3]) (rest := []) (w := wM g ad o) E (c_X12_has l g (wM g ad o) z2 r3 r7 hc8) okm_X12_has w_1919 w_1918 rfl rfl (Nat.le_of_ble_eq_true rfl) ⟨Nat.le_of_ble_eq_true rfl, Nat.le_of_ble_eq_true rfl⟩ gdX12_setSteps_107 ?_
            refine g_if_ne E 151 gdX12_setSteps_110 (by decide) h (fun h => ?_) (fun h => ?_)
            ·
              refine g_sub E [1, 2, 3, 4, 5] rfl ?_
              exact j151 o z2 x4 x5 x6 v h k0 k1
            ·
              refine g_aload_n E gdX12_setSteps_113 rfl 1 rfl ?_
              refine g_get (T := TX12) E fw_X12 0 (wM_0 g ad o) rfl 62 (by decide) w_1528 rfl rfl gdX12_setSteps_114 ?_
              refine g_iload E gdX12_setSteps_117 4 rfl ?_
              obtain ⟨hi9, h⟩ := qIn_of h
              refine g_iald E 52 (wM_52 g ad o) (by decide) hi9 gdX12_setSteps_119 ?_
              obtain ⟨n10, e_n10, h⟩ := qNm_of h
              refine g_nmi e_n10 ?_
              refine g_iconst E gdX12_setSteps_120 ?_
              refine g_iadd E gdX12_setSteps_121 ?_
              refine g_aload_n E gdX12_setSteps_122 rfl 1 rfl ?_
              refine g_get (T := TX12) E fw_X12 0 (wM_0 g ad o) rfl 62 (by decide) w_1528 rfl rfl gdX12_setSteps_123 ?_
              refine g_iload E gdX12_setSteps_126 0 rfl ?_
              obtain ⟨hi11, h⟩ := qIn_of h
              refine g_iald E 52 (wM_52 g ad o) (by decide) hi11 gdX12_setSteps_128 ?_
              obtain ⟨n12, e_n12, h⟩ := qNm_of h
              refine g_nmi e_n12 ?_
              refine g_icmp_ge E 151 gdX12_setSteps_129 (by decide) h (fun h => ?_) (fun h => ?_)
              ·
                refine g_sub E [1, 2, 3, 4, 5] rfl ?_
                exact j151 o z2 x4 x5 x6 v h k0 k1
              ·
                refine g_aload_n E gdX12_setSteps_132 rfl 1 rfl ?_
                refine g_get (T := TX12) E fw_X12 0 (wM_0 g ad o) rfl 62 (by decide) w_1528 rfl rfl gdX12_setSteps_133 ?_
                refine g_iload E gdX12_setSteps_136 0 rfl ?_
                refine g_aload_n E gdX12_setSteps_138 rfl 1 rfl ?_
                refine g_get (T := TX12) E fw_X12 0 (wM_0 g ad o) rfl 62 (by decide) w_1528 rfl rfl gdX12_setSteps_139 ?_
                refine g_iload E gdX12_setSteps_142 4 rfl ?_
                obtain ⟨hi13, h⟩ := qIn_of h
                refine g_iald E 52 (wM_52 g ad o) (by decide) hi13 gdX12_setSteps_144 ?_
                obtain ⟨n14, e_n14, h⟩ := qNm_of h
                refine g_nmi e_n14 ?_
                refine g_iconst E gdX12_setSteps_145 ?_
                refine g_iadd E gdX12_setSteps_146 ?_
                obtain ⟨hi15, h⟩ := qIn_of h
                obtain ⟨o16, e_o16, h⟩ := qNm_of h
                refine g_iast (ws' := wM g ad o16) E 52 (wM_52 g ad o) (by decide) hi15 (by rw [e_o16]; exact wM_s52 g ad o _ _) gdX12_setSteps_147 ?_
                refine g_iconst E gdX12_setSteps_148 ?_
                refine g_istore E [(4, iv 1), (7, iv r3), (0, .ref (ad 0)), (2, .long z2), (5, iv x5), (6, iv x6)] gdX12_setSteps_149 (by decide) rfl ?_
                refine g_sub E [2, 3, 0, 4, 5] rfl ?_
                exact j151 o16 z2 1 x5 x6 v h k0 k1
  have j60 : ∀ (o : OO) (z2 : Int64) (x4 : Int) (x5 : Int) (x6 : Int) (v : (OO × Int × Int) ⊕ ((OO × Int))), e_X12_setSteps_60 o z2 x4 x5 x6 = some v → (∀ (o : OO) (x4 : Int) (x5 : Int), v = .inl (o, x4, x5) → Go X 50 (wM g ad o) [(0, .ref (ad 0)), (2, .long z2), (4, iv x4), (5, iv x5)] []) → (∀ (o : OO) (x4 : Int), v = .inr ((o, x4)) → Go X 163 (wM g ad o) [(0, .ref (ad 0)), (2, .long z2), (4, iv x4)] []) → Go X 60 (wM g ad o) [(0, .ref (ad 0)), (2, .long z2), (4, iv x4), (5, iv x5), (6, iv x6)] [] := by
    intro o z2 x4 x5 x6 v h k0 k1
    unfold e_X12_setSteps_60 at h
    obtain ⟨r, hr, h⟩ := qB_of h
    refine l60 z2 x5 r _ hr ?_
    ·
      intro u0 u1 e
      subst e
      have h : b_X12_setSteps_157 u0 z2 u1 x5 = some v := h
      exact j157 u0 z2 u1 x5 v h k0 k1
  have l50 : ∀ (z2 : Int64) (r : (OO × Int)) (s0 : OO × Int × Int), loopW (fun s => l_X12_setSteps_50 z2 s.1 s.2.1 s.2.2) s0 = some r → (∀ (o : OO) (x4 : Int), r = ((o, x4)) → Go X 163 (wM g ad o) [(0, .ref (ad 0)), (2, .long z2), (4, iv x4)] []) → Go X 50 (wM g ad s0.1) [(0, .ref (ad 0)), (2, .long z2), (4, iv s0.2.1), (5, iv s0.2.2)] [] := by
    intro z2 r s0 h k1
    refine loop_rule (Head := fun s0 => Go X 50 (wM g ad s0.1) [(0, .ref (ad 0)), (2, .long z2), (4, iv s0.2.1), (5, iv s0.2.2)] []) h ?_
    intro s v h kk kx
    obtain ⟨o, x4, x5⟩ := s
    have h : l_X12_setSteps_50 z2 o x4 x5 = some v := h
    have k0 : ∀ (o : OO) (x4 : Int) (x5 : Int), v = .inl (o, x4, x5) → Go X 50 (wM g ad o) [(0, .ref (ad 0)), (2, .long z2), (4, iv x4), (5, iv x5)] [] := fun o x4 x5 e => kk (o, x4, x5) e
    have k1 : ∀ (o : OO) (x4 : Int), v = .inr ((o, x4)) → Go X 163 (wM g ad o) [(0, .ref (ad 0)), (2, .long z2), (4, iv x4)] [] := fun o x4 e => k1 o x4 (kx _ e).symm
    unfold l_X12_setSteps_50 at h
    refine g_iload E gdX12_setSteps_50 3 rfl ?_
    refine g_bipush E gdX12_setSteps_52 (by decide) ?_
    refine g_icmp_ge E 163 gdX12_setSteps_54 (by decide) h (fun h => ?_) (fun h => ?_)
    ·
      refine g_sub E [0, 1, 2] rfl ?_
      exact k1 o x4 (Option.some.inj h).symm
    ·
      refine g_iconst E gdX12_setSteps_57 ?_
      refine g_istore E [(6, iv 0), (0, .ref (ad 0)), (2, .long z2), (4, iv x4), (5, iv x5)] gdX12_setSteps_58 (by decide) rfl ?_
      refine g_sub E [1, 2, 3, 4, 0] rfl ?_
      exact j60 o z2 x4 x5 0 v h k0 k1
  have j50 : ∀ (o : OO) (z2 : Int64) (x4 : Int) (x5 : Int) (v : (OO × Int) ⊕ ((OO))), e_X12_setSteps_50 o z2 x4 x5 = some v → (∀ (o : OO) (x4 : Int), v = .inl (o, x4) → Go X 39 (wM g ad o) [(0, .ref (ad 0)), (2, .long z2), (4, iv x4)] []) → (∀ (o : OO), v = .inr (o) → Go X 166 (wM g ad o) [] []) → Go X 50 (wM g ad o) [(0, .ref (ad 0)), (2, .long z2), (4, iv x4), (5, iv x5)] [] := by
    intro o z2 x4 x5 v h k0 k1
    unfold e_X12_setSteps_50 at h
    obtain ⟨r, hr, h⟩ := qB_of h
    refine l50 z2 r _ hr ?_
    ·
      intro u0 u1 e
      subst e
      have h : b_X12_setSteps_163 u0 z2 u1 = some v := h
      exact j163 u0 z2 u1 v h k0 k1
  have l39 : ∀ (z2 : Int64) (r : (OO)) (s0 : OO × Int), loopW (fun s => l_X12_setSteps_39 z2 s.1 s.2) s0 = some r → (∀ (o : OO), r = (o) → Go X 166 (wM g ad o) [] []) → Go X 39 (wM g ad s0.1) [(0, .ref (ad 0)), (2, .long z2), (4, iv s0.2)] [] := by
    intro z2 r s0 h k1
    refine loop_rule (Head := fun s0 => Go X 39 (wM g ad s0.1) [(0, .ref (ad 0)), (2, .long z2), (4, iv s0.2)] []) h ?_
    intro s v h kk kx
    obtain ⟨o, x4⟩ := s
    have h : l_X12_setSteps_39 z2 o x4 = some v := h
    have k0 : ∀ (o : OO) (x4 : Int), v = .inl (o, x4) → Go X 39 (wM g ad o) [(0, .ref (ad 0)), (2, .long z2), (4, iv x4)] [] := fun o x4 e => kk (o, x4) e
    have k1 : ∀ (o : OO), v = .inr (o) → Go X 166 (wM g ad o) [] [] := fun o e => k1 o (kx _ e).symm
    unfold l_X12_setSteps_39 at h
    refine g_iload E gdX12_setSteps_39 2 rfl ?_
    refine g_if_eq E 166 gdX12_setSteps_41 (by decide) h (fun h => ?_) (fun h => ?_)
    ·
      refine g_sub E [] rfl ?_
      exact k1 o (Option.some.inj h).symm
    ·
      refine g_iconst E gdX12_setSteps_44 ?_
      refine g_istore E [(4, iv 0), (0, .ref (ad 0)), (2, .long z2)] gdX12_setSteps_45 (by decide) rfl ?_
      refine g_iconst E gdX12_setSteps_47 ?_
      refine g_istore E [(5, iv 0), (4, iv 0), (0, .ref (ad 0)), (2, .long z2)] gdX12_setSteps_48 (by decide) rfl ?_
      refine g_sub E [2, 3, 1, 0] rfl ?_
      exact j50 o z2 0 0 v h k0 k1
  have j39 : ∀ (o : OO) (z2 : Int64) (x4 : Int), e_X12_setSteps_39 o z2 x4 = some v → Go X 39 (wM g ad o) [(0, .ref (ad 0)), (2, .long z2), (4, iv x4)] [] := by
    intro o z2 x4 h
    unfold e_X12_setSteps_39 at h
    obtain ⟨r, hr, h⟩ := qB_of h
    refine l39 z2 r _ hr ?_
    ·
      intro u0 e
      have e := e.symm
      subst e
      have h : b_X12_setSteps_166 u0 = some v := h
      exact j166 u0 h
  have j36 : ∀ (o : OO) (z2 : Int64), b_X12_setSteps_36 o z2 = some v → Go X 36 (wM g ad o) [(0, .ref (ad 0)), (2, .long z2)] [] := by
    intro o z2 h
    unfold b_X12_setSteps_36 at h
    refine g_iconst E gdX12_setSteps_36 ?_
    refine g_istore E [(4, iv 1), (0, .ref (ad 0)), (2, .long z2)] gdX12_setSteps_37 (by decide) rfl ?_
    refine g_sub E [1, 2, 0] rfl ?_
    exact j39 o z2 1 h
  have j29 : ∀ (o : OO) (x1 : Int) (z2 : Int64) (x4 : Int) (y1 : Int) (y2 : Int) (v : (OO × Int) ⊕ ((OO))), b_X12_setSteps_29 o x1 z2 x4 y1 y2 = some v → (∀ (o : OO) (x4 : Int), v = .inl (o, x4) → Go X 3 (wM g ad o) [(0, .ref (ad 0)), (1, iv x1), (2, .long z2), (4, iv x4)] []) → (∀ (o : OO), v = .inr (o) → Go X 36 (wM g ad o) [(0, .ref (ad 0)), (2, .long z2)] []) → Go X 29 (wM g ad o) [(0, .ref (ad 0)), (1, iv x1), (2, .long z2), (4, iv x4)] [iv y2, iv y1, .ref (ad 52)] := by
    intro o x1 z2 x4 y1 y2 v h k0 k1
    unfold b_X12_setSteps_29 at h
    obtain ⟨hi17, h⟩ := qIn_of h
    obtain ⟨o18, e_o18, h⟩ := qNm_of h
    refine g_iast (ws' := wM g ad o18) E 52 (wM_52 g ad o) (by decide) hi17 (by rw [e_o18]; exact wM_s52 g ad o _ _) gdX12_setSteps_29 ?_
    refine g_iinc E [(4, iv (x4 + 1)), (0, .ref (ad 0)), (1, iv x1), (2, .long z2)] gdX12_setSteps_30 3 rfl (by decide) rfl ?_
    refine g_goto E 3 gdX12_setSteps_33 (by decide) ?_
    refine g_sub E [1, 2, 3, 0] rfl ?_
    exact k0 o18 (x4 + 1) (Option.some.inj h).symm
  have l3 : ∀ (x1 : Int) (z2 : Int64) (r : (OO)) (s0 : OO × Int), loopW (fun s => l_X12_setSteps_3 x1 z2 s.1 s.2) s0 = some r → (∀ (o : OO), r = (o) → Go X 36 (wM g ad o) [(0, .ref (ad 0)), (2, .long z2)] []) → Go X 3 (wM g ad s0.1) [(0, .ref (ad 0)), (1, iv x1), (2, .long z2), (4, iv s0.2)] [] := by
    intro x1 z2 r s0 h k1
    refine loop_rule (Head := fun s0 => Go X 3 (wM g ad s0.1) [(0, .ref (ad 0)), (1, iv x1), (2, .long z2), (4, iv s0.2)] []) h ?_
    intro s v h kk kx
    obtain ⟨o, x4⟩ := s
    have h : l_X12_setSteps_3 x1 z2 o x4 = some v := h
    have k0 : ∀ (o : OO) (x4 : Int), v = .inl (o, x4) → Go X 3 (wM g ad o) [(0, .ref (ad 0)), (1, iv x1), (2, .long z2), (4, iv x4)] [] := fun o x4 e => kk (o, x4) e
    have k1 : ∀ (o : OO), v = .inr (o) → Go X 36 (wM g ad o) [(0, .ref (ad 0)), (2, .long z2)] [] := fun o e => k1 o (kx _ e).symm
    unfold l_X12_setSteps_3 at h
    refine g_iload E gdX12_setSteps_3 3 rfl ?_
    refine g_bipush E gdX12_setSteps_5 (by decide) ?_
    refine g_icmp_ge E 36 gdX12_setSteps_7 (by decide) h (fun h => ?_) (fun h => ?_)
    ·
      refine g_sub E [0, 2] rfl ?_
      exact k1 o (Option.some.inj h).symm
    ·
      refine g_aload_n E gdX12_setSteps_10 rfl 0 rfl ?_
      refine g_get (T := TX12) E fw_X12 0 (wM_0 g ad o) rfl 62 (by decide) w_1528 rfl rfl gdX12_setSteps_11 ?_
      refine g_iload E gdX12_setSteps_14 3 rfl ?_
      refine g_iload E gdX12_setSteps_16 3 rfl ?_
      refine g_iload_n E gdX12_setSteps_18 rfl 1 rfl ?_
      refine g_icmp_ne E 26 gdX12_setSteps_19 (by decide) h (fun h => ?_) (fun h => ?_)
      ·
        refine g_ldcw (k := 100000000) E gdX12_setSteps_26 w_1879 (by decide) ?_
        exact j29 o x1 z2 x4 x4 100000000 v h k0 k1
      ·
        refine g_iconst E gdX12_setSteps_22 ?_
        refine g_goto E 29 gdX12_setSteps_23 (by decide) ?_
        exact j29 o x1 z2 x4 x4 0 v h k0 k1
  have j3 : ∀ (o : OO) (x1 : Int) (z2 : Int64) (x4 : Int), e_X12_setSteps_3 o x1 z2 x4 = some v → Go X 3 (wM g ad o) [(0, .ref (ad 0)), (1, iv x1), (2, .long z2), (4, iv x4)] [] := by
    intro o x1 z2 x4 h
    unfold e_X12_setSteps_3 at h
    obtain ⟨r, hr, h⟩ := qB_of h
    refine l3 x1 z2 r _ hr ?_
    ·
      intro u0 e
      have e := e.symm
      subst e
      have h : b_X12_setSteps_36 u0 z2 = some v := h
      exact j36 u0 z2 h
  unfold s_X12_setSteps at h
  refine g_iconst E gdX12_setSteps_0 ?_
  refine g_istore E [(4, iv 0), (0, .ref (ad 0)), (1, iv x1), (2, .long z2)] gdX12_setSteps_1 (by decide) rfl ?_
  refine g_sub E [1, 2, 3, 0] rfl ?_
  exact j3 o x1 z2 0 h
set_option maxHeartbeats 4000000 in
set_option maxRecDepth 100000 in
theorem c_X12_fall (l : Launch) (g : GG) (ad : Nat → Nat) (o : OO) (x1 : Int) (x2 : Int) (v : Int × OO) (h : s_X12_fall o x1 x2 = some v) : CI l g yX12_fall cX12_fall 16 (some .int) 3 71 (wM g ad o) [.ref (ad 0), iv x1, iv x2] v.1 (wM g ad v.2) := by
  refine met_I (by decide) (Nat.le_of_ble_eq_true rfl) ?_
  intro X E hQ
  show Go X 0 (wM g ad o) [(0, .ref (ad 0)), (1, iv x1), (2, iv x2)] []
  have j18 : ∀ (o : OO), b_X12_fall_18 o = some v → Go X 18 (wM g ad o) [] [] := by
    intro o h
    unfold b_X12_fall_18 at h
    refine g_iconst E gdX12_fall_18 ?_
    exact g_iret E hQ (by rw [← Option.some.inj h]) (by rw [← Option.some.inj h]) gdX12_fall_19
  have j399 : ∀ (o : OO) (z7 : Int64) (x10 : Int), b_X12_fall_399 o z7 x10 = some v → Go X 399 (wM g ad o) [(0, .ref (ad 0)), (7, .long z7), (10, iv x10)] [] := by
    intro o z7 x10 h
    unfold b_X12_fall_399 at h
    refine g_aload_n E gdX12_fall_399 rfl 0 rfl ?_
    refine g_lload E gdX12_fall_400 1 rfl ?_
    obtain ⟨o1, e_o1, h⟩ := qNm_of h
    refine g_putl (T := TX12) (ws' := wM g ad o1) E fw_X12 tyX12 tyX12_ok nmX12 0 (wM_0 g ad o) rfl 3 (by decide) w_1469 rfl rfl (by decide +kernel) (Nat.le_of_ble_eq_true rfl) (by rw [e_o1]; exact wM_p0_3 g ad o _) gdX12_fall_402 ?_
    refine g_iload E gdX12_fall_405 2 rfl ?_
    exact g_iret E hQ (by rw [← Option.some.inj h]) (by rw [← Option.some.inj h]) gdX12_fall_407
  have j393 : ∀ (o : OO) (x2 : Int) (z3 : Int64) (z5 : Int64) (z7 : Int64) (x9 : Int) (x10 : Int) (x11 : Int) (v : (OO × Int64 × Int64 × Int × Int) ⊕ ((OO × Int64 × Int))), b_X12_fall_393 o x2 z3 z5 z7 x9 x10 x11 = some v → (∀ (o : OO) (z5 : Int64) (z7 : Int64) (x10 : Int) (x11 : Int), v = .inl (o, z5, z7, x10, x11) → Go X 125 (wM g ad o) [(0, .ref (ad 0)), (2, iv x2), (3, .long z3), (5, .long z5), (7, .long z7), (9, iv x9), (10, iv x10), (11, iv x11)] []) → (∀ (o : OO) (z7 : Int64) (x10 : Int), v = .inr ((o, z7, x10)) → Go X 399 (wM g ad o) [(0, .ref (ad 0)), (7, .long z7), (10, iv x10)] []) → Go X 393 (wM g ad o) [(0, .ref (ad 0)), (2, iv x2), (3, .long z3), (5, .long z5), (7, .long z7), (9, iv x9), (10, iv x10), (11, iv x11)] [] := by
    intro o x2 z3 z5 z7 x9 x10 x11 v h k0 k1
    unfold b_X12_fall_393 at h
    refine g_iinc E [(11, iv (x11 + 1)), (0, .ref (ad 0)), (2, iv x2), (3, .long z3), (5, .long z5), (7, .long z7), (9, iv x9), (10, iv x10)] gdX12_fall_393 7 rfl (by decide) rfl ?_
    refine g_goto E 125 gdX12_fall_396 (by decide) ?_
    refine g_sub E [1, 2, 3, 4, 5, 6, 7, 0] rfl ?_
    exact k0 o z5 z7 x10 (x11 + 1) (Option.some.inj h).symm
  have j387 : ∀ (o : OO) (x2 : Int) (z3 : Int64) (z5 : Int64) (z7 : Int64) (x9 : Int) (x10 : Int) (x11 : Int) (x12 : Int) (v : (Int64 × Int64 × Int × Int) ⊕ ((Int64 × Int64 × Int))), b_X12_fall_387 o x2 z3 z5 z7 x9 x10 x11 x12 = some v → (∀ (z5 : Int64) (z7 : Int64) (x10 : Int) (x12 : Int), v = .inl (z5, z7, x10, x12) → Go X 331 (wM g ad o) [(0, .ref (ad 0)), (2, iv x2), (3, .long z3), (5, .long z5), (7, .long z7), (9, iv x9), (10, iv x10), (11, iv x11), (12, iv x12)] []) → (∀ (z5 : Int64) (z7 : Int64) (x10 : Int), v = .inr ((z5, z7, x10)) → Go X 393 (wM g ad o) [(0, .ref (ad 0)), (2, iv x2), (3, .long z3), (5, .long z5), (7, .long z7), (9, iv x9), (10, iv x10), (11, iv x11)] []) → Go X 387 (wM g ad o) [(0, .ref (ad 0)), (2, iv x2), (3, .long z3), (5, .long z5), (7, .long z7), (9, iv x9), (10, iv x10), (11, iv x11), (12, iv x12)] [] := by
    intro o x2 z3 z5 z7 x9 x10 x11 x12 v h k0 k1
    unfold b_X12_fall_387 at h
    refine g_iinc E [(12, iv (x12 + 1)), (0, .ref (ad 0)), (2, iv x2), (3, .long z3), (5, .long z5), (7, .long z7), (9, iv x9), (10, iv x10), (11, iv x11)] gdX12_fall_387 8 rfl (by decide) rfl ?_
    refine g_goto E 331 gdX12_fall_390 (by decide) ?_
    refine g_sub E [1, 2, 3, 4, 5, 6, 7, 8, 0] rfl ?_
    exact k0 z5 z7 x10 (x12 + 1) (Option.some.inj h).symm
  have l331 : ∀ (o : OO) (x2 : Int) (z3 : Int64) (x9 : Int) (x11 : Int) (r : (Int64 × Int64 × Int)) (s0 : Int64 × Int64 × Int × Int), loopW (fun s => l_X12_fall_331 o x2 z3 x9 x11 s.1 s.2.1 s.2.2.1 s.2.2.2) s0 = some r → (∀ (z5 : Int64) (z7 : Int64) (x10 : Int), r = ((z5, z7, x10)) → Go X 393 (wM g ad o) [(0, .ref (ad 0)), (2, iv x2), (3, .long z3), (5, .long z5), (7, .long z7), (9, iv x9), (10, iv x10), (11, iv x11)] []) → Go X 331 (wM g ad o) [(0, .ref (ad 0)), (2, iv x2), (3, .long z3), (5, .long s0.1), (7, .long s0.2.1), (9, iv x9), (10, iv s0.2.2.1), (11, iv x11), (12, iv s0.2.2.2)] [] := by
    intro o x2 z3 x9 x11 r s0 h k1
    refine loop_rule (Head := fun s0 => Go X 331 (wM g ad o) [(0, .ref (ad 0)), (2, iv x2), (3, .long z3), (5, .long s0.1), (7, .long s0.2.1), (9, iv x9), (10, iv s0.2.2.1), (11, iv x11), (12, iv s0.2.2.2)] []) h ?_
    intro s v h kk kx
    obtain ⟨z5, z7, x10, x12⟩ := s
    have h : l_X12_fall_331 o x2 z3 x9 x11 z5 z7 x10 x12 = some v := h
    have k0 : ∀ (z5 : Int64) (z7 : Int64) (x10 : Int) (x12 : Int), v = .inl (z5, z7, x10, x12) → Go X 331 (wM g ad o) [(0, .ref (ad 0)), (2, iv x2), (3, .long z3), (5, .long z5), (7, .long z7), (9, iv x9), (10, iv x10), (11, iv x11), (12, iv x12)] [] := fun z5 z7 x10 x12 e => kk (z5, z7, x10, x12) e
    have k1 : ∀ (z5 : Int64) (z7 : Int64) (x10 : Int), v = .inr ((z5, z7, x10)) → Go X 393 (wM g ad o) [(0, .ref (ad 0)), (2, iv x2), (3, .long z3), (5, .long z5), (7, .long z7), (9, iv x9), (10, iv x10), (11, iv x11)] [] := fun z5 z7 x10 e => k1 z5 z7 x10 (kx _ e).symm
    unfold l_X12_fall_331 at h
    refine g_iload E gdX12_fall_331 8 rfl ?_
    refine g_aload_n E gdX12_fall_333 rfl 0 rfl ?_
    refine g_get (T := TX12) E fw_X12 0 (wM_0 g ad o) rfl 17 (by decide) w_1483 rfl rfl gdX12_fall_334 ?_
    refine g_icmp_ge E 393 gdX12_fall_337 (by decide) h (fun h => ?_) (fun h => ?_)
    ·
      refine g_sub E [0, 1, 2, 3, 4, 5, 6, 7] rfl ?_
      exact k1 z5 z7 x10 (Option.some.inj h).symm
    ·
      refine g_lload E gdX12_fall_340 3 rfl ?_
      refine g_iload E gdX12_fall_342 8 rfl ?_
      obtain ⟨r2, hc3, h⟩ := qB_of h
      refine g_Si (r := r2) (As := [.long z5, iv x12]) (rest := []) (w := wM g ad o) E (c_X12_has l g (wM g ad o) z5 x12 r2 hc3) okm_X12_has w_1919 w_1918 rfl rfl (Nat.le_of_ble_eq_true rfl) ⟨Nat.le_of_ble_eq_true rfl, Nat.le_of_ble_eq_true rfl⟩ gdX12_fall_344 ?_
      refine g_if_eq E 387 gdX12_fall_347 (by decide) h (fun h => ?_) (fun h => ?_)
      ·
        exact j387 o x2 z3 z5 z7 x9 x10 x11 x12 v h k0 k1
      ·
        refine g_aload_n E gdX12_fall_350 rfl 0 rfl ?_
        refine g_get (T := TX12) E fw_X12 0 (wM_0 g ad o) rfl 63 (by decide) w_1529 rfl rfl gdX12_fall_351 ?_
        refine g_iload E gdX12_fall_354 8 rfl ?_
        obtain ⟨hi4, h⟩ := qIn_of h
        refine g_iald E 53 (wM_53 g ad o) (by decide) hi4 gdX12_fall_356 ?_
        obtain ⟨n5, e_n5, h⟩ := qNm_of h
        refine g_nmi e_n5 ?_
        refine g_iload E gdX12_fall_357 5 rfl ?_
        refine g_icmp_ge E 387 gdX12_fall_359 (by decide) h (fun h => ?_) (fun h => ?_)
        ·
          exact j387 o x2 z3 z5 z7 x9 x10 x11 x12 v h k0 k1
        ·
          refine g_lload E gdX12_fall_362 3 rfl ?_
          refine g_lconst (v := 1) E gdX12_fall_364 (by decide) ?_
          refine g_iload E gdX12_fall_365 8 rfl ?_
          refine g_lshl E gdX12_fall_367 ?_
          refine g_ldc2 E gdX12_fall_368 w_2029 ?_
          refine g_lxor E gdX12_fall_371 ?_
          refine g_land E gdX12_fall_372 ?_
          obtain ⟨m6, e_m6, h⟩ := qNm_of h
          refine g_nml e_m6 ?_
          refine g_lstore E [(5, .long m6), (0, .ref (ad 0)), (2, iv x2), (3, .long z3), (7, .long z7), (9, iv x9), (10, iv x10), (11, iv x11), (12, iv x12)] gdX12_fall_373 (by decide) rfl ?_
          refine g_lload E gdX12_fall_375 4 rfl ?_
          refine g_lconst (v := 1) E gdX12_fall_377 (by decide) ?_
          refine g_iload E gdX12_fall_378 8 rfl ?_
          refine g_lshl E gdX12_fall_380 ?_
          refine g_lor E gdX12_fall_381 ?_
          obtain ⟨m7, e_m7, h⟩ := qNm_of h
          refine g_nml e_m7 ?_
          refine g_lstore E [(7, .long m7), (5, .long m6), (0, .ref (ad 0)), (2, iv x2), (3, .long z3), (9, iv x9), (10, iv x10), (11, iv x11), (12, iv x12)] gdX12_fall_382 (by decide) rfl ?_
          refine g_iinc E [(10, iv (x10 + 1)), (7, .long m7), (5, .long m6), (0, .ref (ad 0)), (2, iv x2), (3, .long z3), (9, iv x9), (11, iv x11), (12, iv x12)] gdX12_fall_384 6 rfl (by decide) rfl ?_
          refine g_sub E [3, 4, 5, 2, 1, 6, 0, 7, 8] rfl ?_
          exact j387 o x2 z3 m6 m7 x9 (x10 + 1) x11 x12 v h k0 k1
  have j331 : ∀ (o : OO) (x2 : Int) (z3 : Int64) (z5 : Int64) (z7 : Int64) (x9 : Int) (x10 : Int) (x11 : Int) (x12 : Int) (v : (OO × Int64 × Int64 × Int × Int) ⊕ ((OO × Int64 × Int))), e_X12_fall_331 o x2 z3 z5 z7 x9 x10 x11 x12 = some v → (∀ (o : OO) (z5 : Int64) (z7 : Int64) (x10 : Int) (x11 : Int), v = .inl (o, z5, z7, x10, x11) → Go X 125 (wM g ad o) [(0, .ref (ad 0)), (2, iv x2), (3, .long z3), (5, .long z5), (7, .long z7), (9, iv x9), (10, iv x10), (11, iv x11)] []) → (∀ (o : OO) (z7 : Int64) (x10 : Int), v = .inr ((o, z7, x10)) → Go X 399 (wM g ad o) [(0, .ref (ad 0)), (7, .long z7), (10, iv x10)] []) → Go X 331 (wM g ad o) [(0, .ref (ad 0)), (2, iv x2), (3, .long z3), (5, .long z5), (7, .long z7), (9, iv x9), (10, iv x10), (11, iv x11), (12, iv x12)] [] := by
    intro o x2 z3 z5 z7 x9 x10 x11 x12 v h k0 k1
    unfold e_X12_fall_331 at h
    obtain ⟨r, hr, h⟩ := qB_of h
    refine l331 o x2 z3 x9 x11 r _ hr ?_
    ·
      intro u0 u1 u2 e
      subst e
      have h : b_X12_fall_393 o x2 z3 u0 u1 x9 u2 x11 = some v := h
      exact j393 o x2 z3 u0 u1 x9 u2 x11 v h k0 k1
  have j328 : ∀ (o : OO) (x2 : Int) (z3 : Int64) (z5 : Int64) (z7 : Int64) (x9 : Int) (x10 : Int) (x11 : Int) (v : (OO × Int64 × Int64 × Int × Int) ⊕ ((OO × Int64 × Int))), b_X12_fall_328 o x2 z3 z5 z7 x9 x10 x11 = some v → (∀ (o : OO) (z5 : Int64) (z7 : Int64) (x10 : Int) (x11 : Int), v = .inl (o, z5, z7, x10, x11) → Go X 125 (wM g ad o) [(0, .ref (ad 0)), (2, iv x2), (3, .long z3), (5, .long z5), (7, .long z7), (9, iv x9), (10, iv x10), (11, iv x11)] []) → (∀ (o : OO) (z7 : Int64) (x10 : Int), v = .inr ((o, z7, x10)) → Go X 399 (wM g ad o) [(0, .ref (ad 0)), (7, .long z7), (10, iv x10)] []) → Go X 328 (wM g ad o) [(0, .ref (ad 0)), (2, iv x2), (3, .long z3), (5, .long z5), (7, .long z7), (9, iv x9), (10, iv x10), (11, iv x11)] [] := by
    intro o x2 z3 z5 z7 x9 x10 x11 v h k0 k1
    unfold b_X12_fall_328 at h
    refine g_iconst E gdX12_fall_328 ?_
    refine g_istore E [(12, iv 0), (0, .ref (ad 0)), (2, iv x2), (3, .long z3), (5, .long z5), (7, .long z7), (9, iv x9), (10, iv x10), (11, iv x11)] gdX12_fall_329 (by decide) rfl ?_
    refine g_sub E [1, 2, 3, 4, 5, 6, 7, 8, 0] rfl ?_
    exact j331 o x2 z3 z5 z7 x9 x10 x11 0 v h k0 k1
  have j322 : ∀ (o : OO) (x2 : Int) (z3 : Int64) (z5 : Int64) (z7 : Int64) (x9 : Int) (x10 : Int) (x11 : Int) (x12 : Int) (v : (OO × Int) ⊕ ((OO))), b_X12_fall_322 o x2 z3 z5 z7 x9 x10 x11 x12 = some v → (∀ (o : OO) (x12 : Int), v = .inl (o, x12) → Go X 160 (wM g ad o) [(0, .ref (ad 0)), (2, iv x2), (3, .long z3), (5, .long z5), (7, .long z7), (9, iv x9), (10, iv x10), (11, iv x11), (12, iv x12)] []) → (∀ (o : OO), v = .inr (o) → Go X 328 (wM g ad o) [(0, .ref (ad 0)), (2, iv x2), (3, .long z3), (5, .long z5), (7, .long z7), (9, iv x9), (10, iv x10), (11, iv x11)] []) → Go X 322 (wM g ad o) [(0, .ref (ad 0)), (2, iv x2), (3, .long z3), (5, .long z5), (7, .long z7), (9, iv x9), (10, iv x10), (11, iv x11), (12, iv x12)] [] := by
    intro o x2 z3 z5 z7 x9 x10 x11 x12 v h k0 k1
    unfold b_X12_fall_322 at h
    refine g_iinc E [(12, iv (x12 + 1)), (0, .ref (ad 0)), (2, iv x2), (3, .long z3), (5, .long z5), (7, .long z7), (9, iv x9), (10, iv x10), (11, iv x11)] gdX12_fall_322 8 rfl (by decide) rfl ?_
    refine g_goto E 160 gdX12_fall_325 (by decide) ?_
    refine g_sub E [1, 2, 3, 4, 5, 6, 7, 8, 0] rfl ?_
    exact k0 o (x12 + 1) (Option.some.inj h).symm
  have j306 : ∀ (o : OO) (x2 : Int) (z3 : Int64) (z5 : Int64) (z7 : Int64) (x9 : Int) (x10 : Int) (x11 : Int) (x12 : Int) (x13 : Int) (v : (OO × Int) ⊕ ((OO))), b_X12_fall_306 o x2 z3 z5 z7 x9 x10 x11 x12 x13 = some v → (∀ (o : OO) (x12 : Int), v = .inl (o, x12) → Go X 160 (wM g ad o) [(0, .ref (ad 0)), (2, iv x2), (3, .long z3), (5, .long z5), (7, .long z7), (9, iv x9), (10, iv x10), (11, iv x11), (12, iv x12)] []) → (∀ (o : OO), v = .inr (o) → Go X 328 (wM g ad o) [(0, .ref (ad 0)), (2, iv x2), (3, .long z3), (5, .long z5), (7, .long z7), (9, iv x9), (10, iv x10), (11, iv x11)] []) → Go X 306 (wM g ad o) [(0, .ref (ad 0)), (2, iv x2), (3, .long z3), (5, .long z5), (7, .long z7), (9, iv x9), (10, iv x10), (11, iv x11), (12, iv x12), (13, iv x13)] [] := by
    intro o x2 z3 z5 z7 x9 x10 x11 x12 x13 v h k0 k1
    unfold b_X12_fall_306 at h
    refine g_iload E gdX12_fall_306 9 rfl ?_
    refine g_if_lt E 322 gdX12_fall_308 (by decide) h (fun h => ?_) (fun h => ?_)
    ·
      refine g_sub E [0, 1, 2, 3, 4, 5, 6, 7, 8] rfl ?_
      exact j322 o x2 z3 z5 z7 x9 x10 x11 x12 v h k0 k1
    ·
      refine g_aload_n E gdX12_fall_311 rfl 0 rfl ?_
      refine g_get (T := TX12) E fw_X12 0 (wM_0 g ad o) rfl 63 (by decide) w_1529 rfl rfl gdX12_fall_312 ?_
      refine g_iload E gdX12_fall_315 9 rfl ?_
      refine g_dup2 E gdX12_fall_317 rfl rfl ?_
      obtain ⟨hi8, h⟩ := qIn_of h
      refine g_iald E 53 (wM_53 g ad o) (by decide) hi8 gdX12_fall_318 ?_
      obtain ⟨n9, e_n9, h⟩ := qNm_of h
      refine g_nmi e_n9 ?_
      refine g_iconst E gdX12_fall_319 ?_
      refine g_iadd E gdX12_fall_320 ?_
      obtain ⟨hi10, h⟩ := qIn_of h
      obtain ⟨o11, e_o11, h⟩ := qNm_of h
      refine g_iast (ws' := wM g ad o11) E 53 (wM_53 g ad o) (by decide) hi10 (by rw [e_o11]; exact wM_s53 g ad o _ _) gdX12_fall_321 ?_
      refine g_sub E [0, 1, 2, 3, 4, 5, 6, 7, 8] rfl ?_
      exact j322 o11 x2 z3 z5 z7 x9 x10 x11 x12 v h k0 k1
  have j298 : ∀ (o : OO) (x2 : Int) (z3 : Int64) (z5 : Int64) (z7 : Int64) (x9 : Int) (x10 : Int) (x11 : Int) (x12 : Int) (x14 : Int) (y0 : Int) (v : (Int × Int) ⊕ ((Int))), b_X12_fall_298 o x2 z3 z5 z7 x9 x10 x11 x12 x14 y0 = some v → (∀ (x13 : Int) (x14 : Int), v = .inl (x13, x14) → Go X 222 (wM g ad o) [(0, .ref (ad 0)), (2, iv x2), (3, .long z3), (5, .long z5), (7, .long z7), (9, iv x9), (10, iv x10), (11, iv x11), (12, iv x12), (13, iv x13), (14, iv x14)] []) → (∀ (x13 : Int), v = .inr (x13) → Go X 306 (wM g ad o) [(0, .ref (ad 0)), (2, iv x2), (3, .long z3), (5, .long z5), (7, .long z7), (9, iv x9), (10, iv x10), (11, iv x11), (12, iv x12), (13, iv x13)] []) → Go X 298 (wM g ad o) [(0, .ref (ad 0)), (2, iv x2), (3, .long z3), (5, .long z5), (7, .long z7), (9, iv x9), (10, iv x10), (11, iv x11), (12, iv x12), (14, iv x14)] [iv y0] := by
    intro o x2 z3 z5 z7 x9 x10 x11 x12 x14 y0 v h k0 k1
    unfold b_X12_fall_298 at h
    refine g_istore E [(13, iv y0), (0, .ref (ad 0)), (2, iv x2), (3, .long z3), (5, .long z5), (7, .long z7), (9, iv x9), (10, iv x10), (11, iv x11), (12, iv x12), (14, iv x14)] gdX12_fall_298 (by decide) rfl ?_
    refine g_iinc E [(14, iv (x14 + 1)), (13, iv y0), (0, .ref (ad 0)), (2, iv x2), (3, .long z3), (5, .long z5), (7, .long z7), (9, iv x9), (10, iv x10), (11, iv x11), (12, iv x12)] gdX12_fall_300 10 rfl (by decide) rfl ?_
    refine g_goto E 222 gdX12_fall_303 (by decide) ?_
    refine g_sub E [2, 3, 4, 5, 6, 7, 8, 9, 10, 1, 0] rfl ?_
    exact k0 y0 (x14 + 1) (Option.some.inj h).symm
  have j291 : ∀ (o : OO) (x2 : Int) (z3 : Int64) (z5 : Int64) (z7 : Int64) (x9 : Int) (x10 : Int) (x11 : Int) (x12 : Int) (x14 : Int) (v : (Int × Int) ⊕ ((Int))), b_X12_fall_291 o x2 z3 z5 z7 x9 x10 x11 x12 x14 = some v → (∀ (x13 : Int) (x14 : Int), v = .inl (x13, x14) → Go X 222 (wM g ad o) [(0, .ref (ad 0)), (2, iv x2), (3, .long z3), (5, .long z5), (7, .long z7), (9, iv x9), (10, iv x10), (11, iv x11), (12, iv x12), (13, iv x13), (14, iv x14)] []) → (∀ (x13 : Int), v = .inr (x13) → Go X 306 (wM g ad o) [(0, .ref (ad 0)), (2, iv x2), (3, .long z3), (5, .long z5), (7, .long z7), (9, iv x9), (10, iv x10), (11, iv x11), (12, iv x12), (13, iv x13)] []) → Go X 291 (wM g ad o) [(0, .ref (ad 0)), (2, iv x2), (3, .long z3), (5, .long z5), (7, .long z7), (9, iv x9), (10, iv x10), (11, iv x11), (12, iv x12), (14, iv x14)] [] := by
    intro o x2 z3 z5 z7 x9 x10 x11 x12 x14 v h k0 k1
    unfold b_X12_fall_291 at h
    refine g_iload E gdX12_fall_291 9 rfl ?_
    refine g_goto E 298 gdX12_fall_293 (by decide) ?_
    exact j298 o x2 z3 z5 z7 x9 x10 x11 x12 x14 x14 v h k0 k1
  have j296 : ∀ (o : OO) (x2 : Int) (z3 : Int64) (z5 : Int64) (z7 : Int64) (x9 : Int) (x10 : Int) (x11 : Int) (x12 : Int) (x13 : Int) (x14 : Int) (v : (Int × Int) ⊕ ((Int))), b_X12_fall_296 o x2 z3 z5 z7 x9 x10 x11 x12 x13 x14 = some v → (∀ (x13 : Int) (x14 : Int), v = .inl (x13, x14) → Go X 222 (wM g ad o) [(0, .ref (ad 0)), (2, iv x2), (3, .long z3), (5, .long z5), (7, .long z7), (9, iv x9), (10, iv x10), (11, iv x11), (12, iv x12), (13, iv x13), (14, iv x14)] []) → (∀ (x13 : Int), v = .inr (x13) → Go X 306 (wM g ad o) [(0, .ref (ad 0)), (2, iv x2), (3, .long z3), (5, .long z5), (7, .long z7), (9, iv x9), (10, iv x10), (11, iv x11), (12, iv x12), (13, iv x13)] []) → Go X 296 (wM g ad o) [(0, .ref (ad 0)), (2, iv x2), (3, .long z3), (5, .long z5), (7, .long z7), (9, iv x9), (10, iv x10), (11, iv x11), (12, iv x12), (13, iv x13), (14, iv x14)] [] := by
    intro o x2 z3 z5 z7 x9 x10 x11 x12 x13 x14 v h k0 k1
    unfold b_X12_fall_296 at h
    refine g_iload E gdX12_fall_296 9 rfl ?_
    refine g_sub E [0, 1, 2, 3, 4, 5, 6, 7, 8, 10] rfl ?_
    exact j298 o x2 z3 z5 z7 x9 x10 x11 x12 x14 x13 v h k0 k1
  have j259 : ∀ (o : OO) (x2 : Int) (z3 : Int64) (z5 : Int64) (z7 : Int64) (x9 : Int) (x10 : Int) (x11 : Int) (x12 : Int) (x13 : Int) (x14 : Int) (y0 : Int) (v : (Int × Int) ⊕ ((Int))), b_X12_fall_259 o x2 z3 z5 z7 x9 x10 x11 x12 x13 x14 y0 = some v → (∀ (x13 : Int) (x14 : Int), v = .inl (x13, x14) → Go X 222 (wM g ad o) [(0, .ref (ad 0)), (2, iv x2), (3, .long z3), (5, .long z5), (7, .long z7), (9, iv x9), (10, iv x10), (11, iv x11), (12, iv x12), (13, iv x13), (14, iv x14)] []) → (∀ (x13 : Int), v = .inr (x13) → Go X 306 (wM g ad o) [(0, .ref (ad 0)), (2, iv x2), (3, .long z3), (5, .long z5), (7, .long z7), (9, iv x9), (10, iv x10), (11, iv x11), (12, iv x12), (13, iv x13)] []) → Go X 259 (wM g ad o) [(0, .ref (ad 0)), (2, iv x2), (3, .long z3), (5, .long z5), (7, .long z7), (9, iv x9), (10, iv x10), (11, iv x11), (12, iv x12), (13, iv x13), (14, iv x14)] [iv y0] := by
    intro o x2 z3 z5 z7 x9 x10 x11 x12 x13 x14 y0 v h k0 k1
    unfold b_X12_fall_259 at h
    refine g_istore E [(15, iv y0), (0, .ref (ad 0)), (2, iv x2), (3, .long z3), (5, .long z5), (7, .long z7), (9, iv x9), (10, iv x10), (11, iv x11), (12, iv x12), (13, iv x13), (14, iv x14)] gdX12_fall_259 (by decide) rfl ?_
    refine g_iload E gdX12_fall_261 0 rfl ?_
    refine g_ldcw (k := 100000000) E gdX12_fall_263 w_1879 (by decide) ?_
    refine g_icmp_ge E 296 gdX12_fall_266 (by decide) h (fun h => ?_) (fun h => ?_)
    ·
      refine g_sub E [1, 2, 3, 4, 5, 6, 7, 8, 9, 10, 11] rfl ?_
      exact j296 o x2 z3 z5 z7 x9 x10 x11 x12 x13 x14 v h k0 k1
    ·
      refine g_iload E gdX12_fall_269 10 rfl ?_
      refine g_if_lt E 291 gdX12_fall_271 (by decide) h (fun h => ?_) (fun h => ?_)
      ·
        refine g_sub E [1, 2, 3, 4, 5, 6, 7, 8, 9, 11] rfl ?_
        exact j291 o x2 z3 z5 z7 x9 x10 x11 x12 x14 v h k0 k1
      ·
        refine g_iload E gdX12_fall_274 0 rfl ?_
        refine g_aload_n E gdX12_fall_276 rfl 1 rfl ?_
        refine g_get (T := TX12) E fw_X12 0 (wM_0 g ad o) rfl 62 (by decide) w_1528 rfl rfl gdX12_fall_277 ?_
        refine g_aload_n E gdX12_fall_280 rfl 1 rfl ?_
        refine g_get (T := TX12) E fw_X12 0 (wM_0 g ad o) rfl 18 (by decide) w_1484 rfl rfl gdX12_fall_281 ?_
        refine g_iload E gdX12_fall_284 10 rfl ?_
        obtain ⟨hi12, h⟩ := qIn_of h
        refine g_iald E 13 (wM_13 g ad o) (by decide) hi12 gdX12_fall_286 ?_
        obtain ⟨n13, e_n13, h⟩ := qNm_of h
        refine g_nmi e_n13 ?_
        obtain ⟨hi14, h⟩ := qIn_of h
        refine g_iald E 52 (wM_52 g ad o) (by decide) hi14 gdX12_fall_287 ?_
        obtain ⟨n15, e_n15, h⟩ := qNm_of h
        refine g_nmi e_n15 ?_
        refine g_icmp_ge E 296 gdX12_fall_288 (by decide) h (fun h => ?_) (fun h => ?_)
        ·
          refine g_sub E [1, 2, 3, 4, 5, 6, 7, 8, 9, 10, 11] rfl ?_
          exact j296 o x2 z3 z5 z7 x9 x10 x11 x12 x13 x14 v h k0 k1
        ·
          refine g_sub E [1, 2, 3, 4, 5, 6, 7, 8, 9, 11] rfl ?_
          exact j291 o x2 z3 z5 z7 x9 x10 x11 x12 x14 v h k0 k1
  have l222 : ∀ (o : OO) (x2 : Int) (z3 : Int64) (z5 : Int64) (z7 : Int64) (x9 : Int) (x10 : Int) (x11 : Int) (x12 : Int) (r : (Int)) (s0 : Int × Int), loopW (fun s => l_X12_fall_222 o x2 z3 z5 z7 x9 x10 x11 x12 s.1 s.2) s0 = some r → (∀ (x13 : Int), r = (x13) → Go X 306 (wM g ad o) [(0, .ref (ad 0)), (2, iv x2), (3, .long z3), (5, .long z5), (7, .long z7), (9, iv x9), (10, iv x10), (11, iv x11), (12, iv x12), (13, iv x13)] []) → Go X 222 (wM g ad o) [(0, .ref (ad 0)), (2, iv x2), (3, .long z3), (5, .long z5), (7, .long z7), (9, iv x9), (10, iv x10), (11, iv x11), (12, iv x12), (13, iv s0.1), (14, iv s0.2)] [] := by
    intro o x2 z3 z5 z7 x9 x10 x11 x12 r s0 h k1
    refine loop_rule (Head := fun s0 => Go X 222 (wM g ad o) [(0, .ref (ad 0)), (2, iv x2), (3, .long z3), (5, .long z5), (7, .long z7), (9, iv x9), (10, iv x10), (11, iv x11), (12, iv x12), (13, iv s0.1), (14, iv s0.2)] []) h ?_
    intro s v h kk kx
    obtain ⟨x13, x14⟩ := s
    have h : l_X12_fall_222 o x2 z3 z5 z7 x9 x10 x11 x12 x13 x14 = some v := h
    have k0 : ∀ (x13 : Int) (x14 : Int), v = .inl (x13, x14) → Go X 222 (wM g ad o) [(0, .ref (ad 0)), (2, iv x2), (3, .long z3), (5, .long z5), (7, .long z7), (9, iv x9), (10, iv x10), (11, iv x11), (12, iv x12), (13, iv x13), (14, iv x14)] [] := fun x13 x14 e => kk (x13, x14) e
    have k1 : ∀ (x13 : Int), v = .inr (x13) → Go X 306 (wM g ad o) [(0, .ref (ad 0)), (2, iv x2), (3, .long z3), (5, .long z5), (7, .long z7), (9, iv x9), (10, iv x10), (11, iv x11), (12, iv x12), (13, iv x13)] [] := fun x13 e => k1 x13 (kx _ e).symm
    unfold l_X12_fall_222 at h
    refine g_iload E gdX12_fall_222 10 rfl ?_
    refine g_aload_n E gdX12_fall_224 rfl 0 rfl ?_
    refine g_get (T := TX12) E fw_X12 0 (wM_0 g ad o) rfl 17 (by decide) w_1483 rfl rfl gdX12_fall_225 ?_
    refine g_icmp_ge E 306 gdX12_fall_228 (by decide) h (fun h => ?_) (fun h => ?_)
    ·
      refine g_sub E [0, 1, 2, 3, 4, 5, 6, 7, 8, 9] rfl ?_
      exact k1 x13 (Option.some.inj h).symm
    ·
      refine g_lload E gdX12_fall_231 3 rfl ?_
      refine g_iload E gdX12_fall_233 10 rfl ?_
      obtain ⟨r16, hc17, h⟩ := qB_of h
      refine g_Si (r := r16) (As := [.long z5, iv x14]) (rest := []) (w := wM g ad o) E (c_X12_has l g (wM g ad o) z5 x14 r16 hc17) okm_X12_has w_1919 w_1918 rfl rfl (Nat.le_of_ble_eq_true rfl) ⟨Nat.le_of_ble_eq_true rfl, Nat.le_of_ble_eq_true rfl⟩ gdX12_fall_235 ?_
      refine g_if_eq E 256 gdX12_fall_238 (by decide) h (fun h => ?_) (fun h => ?_)
      ·
        refine g_ldcw (k := 100000000) E gdX12_fall_256 w_1879 (by decide) ?_
        exact j259 o x2 z3 z5 z7 x9 x10 x11 x12 x13 x14 100000000 v h k0 k1
      ·
        refine g_aload_n E gdX12_fall_241 rfl 0 rfl ?_
        refine g_get (T := TX12) E fw_X12 0 (wM_0 g ad o) rfl 62 (by decide) w_1528 rfl rfl gdX12_fall_242 ?_
        refine g_aload_n E gdX12_fall_245 rfl 0 rfl ?_
        refine g_get (T := TX12) E fw_X12 0 (wM_0 g ad o) rfl 18 (by decide) w_1484 rfl rfl gdX12_fall_246 ?_
        refine g_iload E gdX12_fall_249 10 rfl ?_
        obtain ⟨hi18, h⟩ := qIn_of h
        refine g_iald E 13 (wM_13 g ad o) (by decide) hi18 gdX12_fall_251 ?_
        obtain ⟨n19, e_n19, h⟩ := qNm_of h
        refine g_nmi e_n19 ?_
        obtain ⟨hi20, h⟩ := qIn_of h
        refine g_iald E 52 (wM_52 g ad o) (by decide) hi20 gdX12_fall_252 ?_
        obtain ⟨n21, e_n21, h⟩ := qNm_of h
        refine g_nmi e_n21 ?_
        refine g_goto E 259 gdX12_fall_253 (by decide) ?_
        exact j259 o x2 z3 z5 z7 x9 x10 x11 x12 x13 x14 n21 v h k0 k1
  have j222 : ∀ (o : OO) (x2 : Int) (z3 : Int64) (z5 : Int64) (z7 : Int64) (x9 : Int) (x10 : Int) (x11 : Int) (x12 : Int) (x13 : Int) (x14 : Int) (v : (OO × Int) ⊕ ((OO))), e_X12_fall_222 o x2 z3 z5 z7 x9 x10 x11 x12 x13 x14 = some v → (∀ (o : OO) (x12 : Int), v = .inl (o, x12) → Go X 160 (wM g ad o) [(0, .ref (ad 0)), (2, iv x2), (3, .long z3), (5, .long z5), (7, .long z7), (9, iv x9), (10, iv x10), (11, iv x11), (12, iv x12)] []) → (∀ (o : OO), v = .inr (o) → Go X 328 (wM g ad o) [(0, .ref (ad 0)), (2, iv x2), (3, .long z3), (5, .long z5), (7, .long z7), (9, iv x9), (10, iv x10), (11, iv x11)] []) → Go X 222 (wM g ad o) [(0, .ref (ad 0)), (2, iv x2), (3, .long z3), (5, .long z5), (7, .long z7), (9, iv x9), (10, iv x10), (11, iv x11), (12, iv x12), (13, iv x13), (14, iv x14)] [] := by
    intro o x2 z3 z5 z7 x9 x10 x11 x12 x13 x14 v h k0 k1
    unfold e_X12_fall_222 at h
    obtain ⟨r, hr, h⟩ := qB_of h
    refine l222 o x2 z3 z5 z7 x9 x10 x11 x12 r _ hr ?_
    ·
      intro u0 e
      have e := e.symm
      subst e
      have h : b_X12_fall_306 o x2 z3 z5 z7 x9 x10 x11 x12 u0 = some v := h
      exact j306 o x2 z3 z5 z7 x9 x10 x11 x12 u0 v h k0 k1
  have l160 : ∀ (x2 : Int) (z3 : Int64) (z5 : Int64) (z7 : Int64) (x9 : Int) (x10 : Int) (x11 : Int) (r : (OO)) (s0 : OO × Int), loopW (fun s => l_X12_fall_160 x2 z3 z5 z7 x9 x10 x11 s.1 s.2) s0 = some r → (∀ (o : OO), r = (o) → Go X 328 (wM g ad o) [(0, .ref (ad 0)), (2, iv x2), (3, .long z3), (5, .long z5), (7, .long z7), (9, iv x9), (10, iv x10), (11, iv x11)] []) → Go X 160 (wM g ad s0.1) [(0, .ref (ad 0)), (2, iv x2), (3, .long z3), (5, .long z5), (7, .long z7), (9, iv x9), (10, iv x10), (11, iv x11), (12, iv s0.2)] [] := by
    intro x2 z3 z5 z7 x9 x10 x11 r s0 h k1
    refine loop_rule (Head := fun s0 => Go X 160 (wM g ad s0.1) [(0, .ref (ad 0)), (2, iv x2), (3, .long z3), (5, .long z5), (7, .long z7), (9, iv x9), (10, iv x10), (11, iv x11), (12, iv s0.2)] []) h ?_
    intro s v h kk kx
    obtain ⟨o, x12⟩ := s
    have h : l_X12_fall_160 x2 z3 z5 z7 x9 x10 x11 o x12 = some v := h
    have k0 : ∀ (o : OO) (x12 : Int), v = .inl (o, x12) → Go X 160 (wM g ad o) [(0, .ref (ad 0)), (2, iv x2), (3, .long z3), (5, .long z5), (7, .long z7), (9, iv x9), (10, iv x10), (11, iv x11), (12, iv x12)] [] := fun o x12 e => kk (o, x12) e
    have k1 : ∀ (o : OO), v = .inr (o) → Go X 328 (wM g ad o) [(0, .ref (ad 0)), (2, iv x2), (3, .long z3), (5, .long z5), (7, .long z7), (9, iv x9), (10, iv x10), (11, iv x11)] [] := fun o e => k1 o (kx _ e).symm
    unfold l_X12_fall_160 at h
    refine g_iload E gdX12_fall_160 8 rfl ?_
    refine g_aload_n E gdX12_fall_162 rfl 0 rfl ?_
    refine g_get (T := TX12) E fw_X12 0 (wM_0 g ad o) rfl 27 (by decide) w_1493 rfl rfl gdX12_fall_163 ?_
    refine g_icmp_ge E 328 gdX12_fall_166 (by decide) h (fun h => ?_) (fun h => ?_)
    ·
      refine g_sub E [0, 1, 2, 3, 4, 5, 6, 7] rfl ?_
      exact k1 o (Option.some.inj h).symm
    ·
      refine g_aload_n E gdX12_fall_169 rfl 0 rfl ?_
      refine g_get (T := TX12) E fw_X12 0 (wM_0 g ad o) rfl 28 (by decide) w_1494 rfl rfl gdX12_fall_170 ?_
      refine g_iload E gdX12_fall_173 8 rfl ?_
      obtain ⟨hi22, h⟩ := qIn_of h
      refine g_iald E 21 (wM_21 g ad o) (by decide) hi22 gdX12_fall_175 ?_
      obtain ⟨n23, e_n23, h⟩ := qNm_of h
      refine g_nmi e_n23 ?_
      refine g_if_lt E 322 gdX12_fall_176 (by decide) h (fun h => ?_) (fun h => ?_)
      ·
        exact j322 o x2 z3 z5 z7 x9 x10 x11 x12 v h k0 k1
      ·
        refine g_lload_n E gdX12_fall_179 rfl 2 rfl ?_
        refine g_aload_n E gdX12_fall_180 rfl 0 rfl ?_
        refine g_get (T := TX12) E fw_X12 0 (wM_0 g ad o) rfl 18 (by decide) w_1484 rfl rfl gdX12_fall_181 ?_
        refine g_aload_n E gdX12_fall_184 rfl 0 rfl ?_
        refine g_get (T := TX12) E fw_X12 0 (wM_0 g ad o) rfl 28 (by decide) w_1494 rfl rfl gdX12_fall_185 ?_
        refine g_iload E gdX12_fall_188 8 rfl ?_
        obtain ⟨hi24, h⟩ := qIn_of h
        refine g_iald E 21 (wM_21 g ad o) (by decide) hi24 gdX12_fall_190 ?_
        obtain ⟨n25, e_n25, h⟩ := qNm_of h
        refine g_nmi e_n25 ?_
        obtain ⟨hi26, h⟩ := qIn_of h
        refine g_iald E 13 (wM_13 g ad o) (by decide) hi26 gdX12_fall_191 ?_
        obtain ⟨n27, e_n27, h⟩ := qNm_of h
        refine g_nmi e_n27 ?_
        obtain ⟨r28, hc29, h⟩ := qB_of h
        refine g_Si (r := r28) (As := [.long z3, iv n27]) (rest := []) (w := wM g ad o) E (c_X12_has l g (wM g ad o) z3 n27 r28 hc29) okm_X12_has w_1919 w_1918 rfl rfl (Nat.le_of_ble_eq_true rfl) ⟨Nat.le_of_ble_eq_true rfl, Nat.le_of_ble_eq_true rfl⟩ gdX12_fall_192 ?_
        refine g_if_ne E 322 gdX12_fall_195 (by decide) h (fun h => ?_) (fun h => ?_)
        ·
          exact j322 o x2 z3 z5 z7 x9 x10 x11 x12 v h k0 k1
        ·
          refine g_aload_n E gdX12_fall_198 rfl 0 rfl ?_
          refine g_aload_n E gdX12_fall_199 rfl 0 rfl ?_
          refine g_get (T := TX12) E fw_X12 0 (wM_0 g ad o) rfl 18 (by decide) w_1484 rfl rfl gdX12_fall_200 ?_
          refine g_aload_n E gdX12_fall_203 rfl 0 rfl ?_
          refine g_get (T := TX12) E fw_X12 0 (wM_0 g ad o) rfl 28 (by decide) w_1494 rfl rfl gdX12_fall_204 ?_
          refine g_iload E gdX12_fall_207 8 rfl ?_
          obtain ⟨hi30, h⟩ := qIn_of h
          refine g_iald E 21 (wM_21 g ad o) (by decide) hi30 gdX12_fall_209 ?_
          obtain ⟨n31, e_n31, h⟩ := qNm_of h
          refine g_nmi e_n31 ?_
          obtain ⟨hi32, h⟩ := qIn_of h
          refine g_iald E 13 (wM_13 g ad o) (by decide) hi32 gdX12_fall_210 ?_
          obtain ⟨n33, e_n33, h⟩ := qNm_of h
          refine g_nmi e_n33 ?_
          refine g_lload_n E gdX12_fall_211 rfl 2 rfl ?_
          obtain ⟨o36, hc35, h⟩ := qB_of h
          refine g_Vv (As := [iv n33, .long z3]) (rest := []) (w := wM g ad o36) E (c_X12_setSteps l g ad o n33 z3 o36 hc35) okm_X12_setSteps okw_X12_setSteps w_2025 rfl (wM_0 g ad o) rfl rfl (Nat.le_of_ble_eq_true rfl) ⟨Nat.le_of_ble_eq_true rfl, Nat.le_of_ble_eq_true rfl⟩ gdX12_fall_212 ?_
          refine g_bipush E gdX12_fall_215 (by decide) ?_
          refine g_istore E [(13, iv (-9)), (0, .ref (ad 0)), (2, iv x2), (3, .long z3), (5, .long z5), (7, .long z7), (9, iv x9), (10, iv x10), (11, iv x11), (12, iv x12)] gdX12_fall_217 (by decide) rfl ?_
          refine g_iconst E gdX12_fall_219 ?_
          refine g_istore E [(14, iv 0), (13, iv (-9)), (0, .ref (ad 0)), (2, iv x2), (3, .long z3), (5, .long z5), (7, .long z7), (9, iv x9), (10, iv x10), (11, iv x11), (12, iv x12)] gdX12_fall_220 (by decide) rfl ?_
          refine g_sub E [2, 3, 4, 5, 6, 7, 8, 9, 10, 1, 0] rfl ?_
          exact j222 o36 x2 z3 z5 z7 x9 x10 x11 x12 (-9) 0 v h k0 k1
  have j160 : ∀ (o : OO) (x2 : Int) (z3 : Int64) (z5 : Int64) (z7 : Int64) (x9 : Int) (x10 : Int) (x11 : Int) (x12 : Int) (v : (OO × Int64 × Int64 × Int × Int) ⊕ ((OO × Int64 × Int))), e_X12_fall_160 o x2 z3 z5 z7 x9 x10 x11 x12 = some v → (∀ (o : OO) (z5 : Int64) (z7 : Int64) (x10 : Int) (x11 : Int), v = .inl (o, z5, z7, x10, x11) → Go X 125 (wM g ad o) [(0, .ref (ad 0)), (2, iv x2), (3, .long z3), (5, .long z5), (7, .long z7), (9, iv x9), (10, iv x10), (11, iv x11)] []) → (∀ (o : OO) (z7 : Int64) (x10 : Int), v = .inr ((o, z7, x10)) → Go X 399 (wM g ad o) [(0, .ref (ad 0)), (7, .long z7), (10, iv x10)] []) → Go X 160 (wM g ad o) [(0, .ref (ad 0)), (2, iv x2), (3, .long z3), (5, .long z5), (7, .long z7), (9, iv x9), (10, iv x10), (11, iv x11), (12, iv x12)] [] := by
    intro o x2 z3 z5 z7 x9 x10 x11 x12 v h k0 k1
    unfold e_X12_fall_160 at h
    obtain ⟨r, hr, h⟩ := qB_of h
    refine l160 x2 z3 z5 z7 x9 x10 x11 r _ hr ?_
    ·
      intro u0 e
      have e := e.symm
      subst e
      have h : b_X12_fall_328 u0 x2 z3 z5 z7 x9 x10 x11 = some v := h
      exact j328 u0 x2 z3 z5 z7 x9 x10 x11 v h k0 k1
  have j157 : ∀ (o : OO) (x2 : Int) (z3 : Int64) (z5 : Int64) (z7 : Int64) (x9 : Int) (x10 : Int) (x11 : Int) (v : (OO × Int64 × Int64 × Int × Int) ⊕ ((OO × Int64 × Int))), b_X12_fall_157 o x2 z3 z5 z7 x9 x10 x11 = some v → (∀ (o : OO) (z5 : Int64) (z7 : Int64) (x10 : Int) (x11 : Int), v = .inl (o, z5, z7, x10, x11) → Go X 125 (wM g ad o) [(0, .ref (ad 0)), (2, iv x2), (3, .long z3), (5, .long z5), (7, .long z7), (9, iv x9), (10, iv x10), (11, iv x11)] []) → (∀ (o : OO) (z7 : Int64) (x10 : Int), v = .inr ((o, z7, x10)) → Go X 399 (wM g ad o) [(0, .ref (ad 0)), (7, .long z7), (10, iv x10)] []) → Go X 157 (wM g ad o) [(0, .ref (ad 0)), (2, iv x2), (3, .long z3), (5, .long z5), (7, .long z7), (9, iv x9), (10, iv x10), (11, iv x11)] [] := by
    intro o x2 z3 z5 z7 x9 x10 x11 v h k0 k1
    unfold b_X12_fall_157 at h
    refine g_iconst E gdX12_fall_157 ?_
    refine g_istore E [(12, iv 0), (0, .ref (ad 0)), (2, iv x2), (3, .long z3), (5, .long z5), (7, .long z7), (9, iv x9), (10, iv x10), (11, iv x11)] gdX12_fall_158 (by decide) rfl ?_
    refine g_sub E [1, 2, 3, 4, 5, 6, 7, 8, 0] rfl ?_
    exact j160 o x2 z3 z5 z7 x9 x10 x11 0 v h k0 k1
  have l134 : ∀ (x2 : Int) (z3 : Int64) (z5 : Int64) (z7 : Int64) (x9 : Int) (x10 : Int) (x11 : Int) (r : (OO)) (s0 : OO × Int), loopW (fun s => l_X12_fall_134 x2 z3 z5 z7 x9 x10 x11 s.1 s.2) s0 = some r → (∀ (o : OO), r = (o) → Go X 157 (wM g ad o) [(0, .ref (ad 0)), (2, iv x2), (3, .long z3), (5, .long z5), (7, .long z7), (9, iv x9), (10, iv x10), (11, iv x11)] []) → Go X 134 (wM g ad s0.1) [(0, .ref (ad 0)), (2, iv x2), (3, .long z3), (5, .long z5), (7, .long z7), (9, iv x9), (10, iv x10), (11, iv x11), (12, iv s0.2)] [] := by
    intro x2 z3 z5 z7 x9 x10 x11 r s0 h k1
    refine loop_rule (Head := fun s0 => Go X 134 (wM g ad s0.1) [(0, .ref (ad 0)), (2, iv x2), (3, .long z3), (5, .long z5), (7, .long z7), (9, iv x9), (10, iv x10), (11, iv x11), (12, iv s0.2)] []) h ?_
    intro s v h kk kx
    obtain ⟨o, x12⟩ := s
    have h : l_X12_fall_134 x2 z3 z5 z7 x9 x10 x11 o x12 = some v := h
    have k0 : ∀ (o : OO) (x12 : Int), v = .inl (o, x12) → Go X 134 (wM g ad o) [(0, .ref (ad 0)), (2, iv x2), (3, .long z3), (5, .long z5), (7, .long z7), (9, iv x9), (10, iv x10), (11, iv x11), (12, iv x12)] [] := fun o x12 e => kk (o, x12) e
    have k1 : ∀ (o : OO), v = .inr (o) → Go X 157 (wM g ad o) [(0, .ref (ad 0)), (2, iv x2), (3, .long z3), (5, .long z5), (7, .long z7), (9, iv x9), (10, iv x10), (11, iv x11)] [] := fun o e => k1 o (kx _ e).symm
    unfold l_X12_fall_134 at h
    refine g_iload E gdX12_fall_134 8 rfl ?_
    refine g_aload_n E gdX12_fall_136 rfl 0 rfl ?_
    refine g_get (T := TX12) E fw_X12 0 (wM_0 g ad o) rfl 17 (by decide) w_1483 rfl rfl gdX12_fall_137 ?_
    refine g_icmp_ge E 157 gdX12_fall_140 (by decide) h (fun h => ?_) (fun h => ?_)
    ·
      refine g_sub E [0, 1, 2, 3, 4, 5, 6, 7] rfl ?_
      exact k1 o (Option.some.inj h).symm
    ·
      refine g_aload_n E gdX12_fall_143 rfl 0 rfl ?_
      refine g_get (T := TX12) E fw_X12 0 (wM_0 g ad o) rfl 63 (by decide) w_1529 rfl rfl gdX12_fall_144 ?_
      refine g_iload E gdX12_fall_147 8 rfl ?_
      refine g_iconst E gdX12_fall_149 ?_
      obtain ⟨hi37, h⟩ := qIn_of h
      obtain ⟨o38, e_o38, h⟩ := qNm_of h
      refine g_iast (ws' := wM g ad o38) E 53 (wM_53 g ad o) (by decide) hi37 (by rw [e_o38]; exact wM_s53 g ad o _ _) gdX12_fall_150 ?_
      refine g_iinc E [(12, iv (x12 + 1)), (0, .ref (ad 0)), (2, iv x2), (3, .long z3), (5, .long z5), (7, .long z7), (9, iv x9), (10, iv x10), (11, iv x11)] gdX12_fall_151 8 rfl (by decide) rfl ?_
      refine g_goto E 134 gdX12_fall_154 (by decide) ?_
      refine g_sub E [1, 2, 3, 4, 5, 6, 7, 8, 0] rfl ?_
      exact k0 o38 (x12 + 1) (Option.some.inj h).symm
  have j134 : ∀ (o : OO) (x2 : Int) (z3 : Int64) (z5 : Int64) (z7 : Int64) (x9 : Int) (x10 : Int) (x11 : Int) (x12 : Int) (v : (OO × Int64 × Int64 × Int × Int) ⊕ ((OO × Int64 × Int))), e_X12_fall_134 o x2 z3 z5 z7 x9 x10 x11 x12 = some v → (∀ (o : OO) (z5 : Int64) (z7 : Int64) (x10 : Int) (x11 : Int), v = .inl (o, z5, z7, x10, x11) → Go X 125 (wM g ad o) [(0, .ref (ad 0)), (2, iv x2), (3, .long z3), (5, .long z5), (7, .long z7), (9, iv x9), (10, iv x10), (11, iv x11)] []) → (∀ (o : OO) (z7 : Int64) (x10 : Int), v = .inr ((o, z7, x10)) → Go X 399 (wM g ad o) [(0, .ref (ad 0)), (7, .long z7), (10, iv x10)] []) → Go X 134 (wM g ad o) [(0, .ref (ad 0)), (2, iv x2), (3, .long z3), (5, .long z5), (7, .long z7), (9, iv x9), (10, iv x10), (11, iv x11), (12, iv x12)] [] := by
    intro o x2 z3 z5 z7 x9 x10 x11 x12 v h k0 k1
    unfold e_X12_fall_134 at h
    obtain ⟨r, hr, h⟩ := qB_of h
    refine l134 x2 z3 z5 z7 x9 x10 x11 r _ hr ?_
    ·
      intro u0 e
      have e := e.symm
      subst e
      have h : b_X12_fall_157 u0 x2 z3 z5 z7 x9 x10 x11 = some v := h
      exact j157 u0 x2 z3 z5 z7 x9 x10 x11 v h k0 k1
  have l125 : ∀ (x2 : Int) (z3 : Int64) (x9 : Int) (r : (OO × Int64 × Int)) (s0 : OO × Int64 × Int64 × Int × Int), loopW (fun s => l_X12_fall_125 x2 z3 x9 s.1 s.2.1 s.2.2.1 s.2.2.2.1 s.2.2.2.2) s0 = some r → (∀ (o : OO) (z7 : Int64) (x10 : Int), r = ((o, z7, x10)) → Go X 399 (wM g ad o) [(0, .ref (ad 0)), (7, .long z7), (10, iv x10)] []) → Go X 125 (wM g ad s0.1) [(0, .ref (ad 0)), (2, iv x2), (3, .long z3), (5, .long s0.2.1), (7, .long s0.2.2.1), (9, iv x9), (10, iv s0.2.2.2.1), (11, iv s0.2.2.2.2)] [] := by
    intro x2 z3 x9 r s0 h k1
    refine loop_rule (Head := fun s0 => Go X 125 (wM g ad s0.1) [(0, .ref (ad 0)), (2, iv x2), (3, .long z3), (5, .long s0.2.1), (7, .long s0.2.2.1), (9, iv x9), (10, iv s0.2.2.2.1), (11, iv s0.2.2.2.2)] []) h ?_
    intro s v h kk kx
    obtain ⟨o, z5, z7, x10, x11⟩ := s
    have h : l_X12_fall_125 x2 z3 x9 o z5 z7 x10 x11 = some v := h
    have k0 : ∀ (o : OO) (z5 : Int64) (z7 : Int64) (x10 : Int) (x11 : Int), v = .inl (o, z5, z7, x10, x11) → Go X 125 (wM g ad o) [(0, .ref (ad 0)), (2, iv x2), (3, .long z3), (5, .long z5), (7, .long z7), (9, iv x9), (10, iv x10), (11, iv x11)] [] := fun o z5 z7 x10 x11 e => kk (o, z5, z7, x10, x11) e
    have k1 : ∀ (o : OO) (z7 : Int64) (x10 : Int), v = .inr ((o, z7, x10)) → Go X 399 (wM g ad o) [(0, .ref (ad 0)), (7, .long z7), (10, iv x10)] [] := fun o z7 x10 e => k1 o z7 x10 (kx _ e).symm
    unfold l_X12_fall_125 at h
    refine g_iload E gdX12_fall_125 7 rfl ?_
    refine g_iload_n E gdX12_fall_127 rfl 1 rfl ?_
    refine g_icmp_ge E 399 gdX12_fall_128 (by decide) h (fun h => ?_) (fun h => ?_)
    ·
      refine g_sub E [0, 4, 6] rfl ?_
      exact k1 o z7 x10 (Option.some.inj h).symm
    ·
      refine g_iconst E gdX12_fall_131 ?_
      refine g_istore E [(12, iv 0), (0, .ref (ad 0)), (2, iv x2), (3, .long z3), (5, .long z5), (7, .long z7), (9, iv x9), (10, iv x10), (11, iv x11)] gdX12_fall_132 (by decide) rfl ?_
      refine g_sub E [1, 2, 3, 4, 5, 6, 7, 8, 0] rfl ?_
      exact j134 o x2 z3 z5 z7 x9 x10 x11 0 v h k0 k1
  have j125 : ∀ (o : OO) (x2 : Int) (z3 : Int64) (z5 : Int64) (z7 : Int64) (x9 : Int) (x10 : Int) (x11 : Int), e_X12_fall_125 o x2 z3 z5 z7 x9 x10 x11 = some v → Go X 125 (wM g ad o) [(0, .ref (ad 0)), (2, iv x2), (3, .long z3), (5, .long z5), (7, .long z7), (9, iv x9), (10, iv x10), (11, iv x11)] [] := by
    intro o x2 z3 z5 z7 x9 x10 x11 h
    unfold e_X12_fall_125 at h
    obtain ⟨r, hr, h⟩ := qB_of h
    refine l125 x2 z3 x9 r _ hr ?_
    ·
      intro u0 u1 u2 e
      subst e
      have h : b_X12_fall_399 u0 u1 u2 = some v := h
      exact j399 u0 u1 u2 h
  have j112 : ∀ (o : OO) (x2 : Int) (z3 : Int64) (z5 : Int64) (z7 : Int64), b_X12_fall_112 o x2 z3 z5 z7 = some v → Go X 112 (wM g ad o) [(0, .ref (ad 0)), (2, iv x2), (3, .long z3), (5, .long z5), (7, .long z7)] [] := by
    intro o x2 z3 z5 z7 h
    unfold b_X12_fall_112 at h
    refine g_aload_n E gdX12_fall_112 rfl 0 rfl ?_
    refine g_iconst E gdX12_fall_113 ?_
    obtain ⟨r39, hc40, h⟩ := qB_of h
    refine g_Vi (r := r39) (As := [iv 4]) (rest := []) (w := wM g ad o) E (c_X12_nowInForce l g ad o 4 r39 hc40) okm_X12_nowInForce okw_X12_nowInForce w_1871 rfl (wM_0 g ad o) rfl rfl (Nat.le_of_ble_eq_true rfl) ⟨Nat.le_of_ble_eq_true rfl, Nat.le_of_ble_eq_true rfl⟩ gdX12_fall_114 ?_
    refine g_istore E [(9, iv r39), (0, .ref (ad 0)), (2, iv x2), (3, .long z3), (5, .long z5), (7, .long z7)] gdX12_fall_117 (by decide) rfl ?_
    refine g_iconst E gdX12_fall_119 ?_
    refine g_istore E [(10, iv 0), (9, iv r39), (0, .ref (ad 0)), (2, iv x2), (3, .long z3), (5, .long z5), (7, .long z7)] gdX12_fall_120 (by decide) rfl ?_
    refine g_iconst E gdX12_fall_122 ?_
    refine g_istore E [(11, iv 0), (10, iv 0), (9, iv r39), (0, .ref (ad 0)), (2, iv x2), (3, .long z3), (5, .long z5), (7, .long z7)] gdX12_fall_123 (by decide) rfl ?_
    refine g_sub E [3, 4, 5, 6, 7, 2, 1, 0] rfl ?_
    exact j125 o x2 z3 z5 z7 r39 0 0 h
  have j103 : ∀ (o : OO) (x2 : Int) (z3 : Int64) (z7 : Int64) (x9 : Int) (y0 : Int64) (y1 : Int64) (v : (Int64 × Int) ⊕ ((Int64))), b_X12_fall_103 o x2 z3 z7 x9 y0 y1 = some v → (∀ (z5 : Int64) (x9 : Int), v = .inl (z5, x9) → Go X 49 (wM g ad o) [(0, .ref (ad 0)), (2, iv x2), (3, .long z3), (5, .long z5), (7, .long z7), (9, iv x9)] []) → (∀ (z5 : Int64), v = .inr (z5) → Go X 112 (wM g ad o) [(0, .ref (ad 0)), (2, iv x2), (3, .long z3), (5, .long z5), (7, .long z7)] []) → Go X 103 (wM g ad o) [(0, .ref (ad 0)), (2, iv x2), (3, .long z3), (7, .long z7), (9, iv x9)] [.long y1, .long y0] := by
    intro o x2 z3 z7 x9 y0 y1 v h k0 k1
    unfold b_X12_fall_103 at h
    refine g_lor E gdX12_fall_103 ?_
    obtain ⟨m41, e_m41, h⟩ := qNm_of h
    refine g_nml e_m41 ?_
    refine g_lstore E [(5, .long m41), (0, .ref (ad 0)), (2, iv x2), (3, .long z3), (7, .long z7), (9, iv x9)] gdX12_fall_104 (by decide) rfl ?_
    refine g_iinc E [(9, iv (x9 + 1)), (5, .long m41), (0, .ref (ad 0)), (2, iv x2), (3, .long z3), (7, .long z7)] gdX12_fall_106 5 rfl (by decide) rfl ?_
    refine g_goto E 49 gdX12_fall_109 (by decide) ?_
    refine g_sub E [2, 3, 4, 1, 5, 0] rfl ?_
    exact k0 m41 (x9 + 1) (Option.some.inj h).symm
  have j102 : ∀ (o : OO) (x2 : Int) (z3 : Int64) (z7 : Int64) (x9 : Int) (y0 : Int64) (v : (Int64 × Int) ⊕ ((Int64))), b_X12_fall_102 o x2 z3 z7 x9 y0 = some v → (∀ (z5 : Int64) (x9 : Int), v = .inl (z5, x9) → Go X 49 (wM g ad o) [(0, .ref (ad 0)), (2, iv x2), (3, .long z3), (5, .long z5), (7, .long z7), (9, iv x9)] []) → (∀ (z5 : Int64), v = .inr (z5) → Go X 112 (wM g ad o) [(0, .ref (ad 0)), (2, iv x2), (3, .long z3), (5, .long z5), (7, .long z7)] []) → Go X 102 (wM g ad o) [(0, .ref (ad 0)), (2, iv x2), (3, .long z3), (7, .long z7), (9, iv x9)] [.long y0] := by
    intro o x2 z3 z7 x9 y0 v h k0 k1
    unfold b_X12_fall_102 at h
    refine g_lconst (v := 0) E gdX12_fall_102 (by decide) ?_
    exact j103 o x2 z3 z7 x9 y0 (0 : Int64) v h k0 k1
  have l49 : ∀ (o : OO) (x2 : Int) (z3 : Int64) (z7 : Int64) (r : (Int64)) (s0 : Int64 × Int), loopW (fun s => l_X12_fall_49 o x2 z3 z7 s.1 s.2) s0 = some r → (∀ (z5 : Int64), r = (z5) → Go X 112 (wM g ad o) [(0, .ref (ad 0)), (2, iv x2), (3, .long z3), (5, .long z5), (7, .long z7)] []) → Go X 49 (wM g ad o) [(0, .ref (ad 0)), (2, iv x2), (3, .long z3), (5, .long s0.1), (7, .long z7), (9, iv s0.2)] [] := by
    intro o x2 z3 z7 r s0 h k1
    refine loop_rule (Head := fun s0 => Go X 49 (wM g ad o) [(0, .ref (ad 0)), (2, iv x2), (3, .long z3), (5, .long s0.1), (7, .long z7), (9, iv s0.2)] []) h ?_
    intro s v h kk kx
    obtain ⟨z5, x9⟩ := s
    have h : l_X12_fall_49 o x2 z3 z7 z5 x9 = some v := h
    have k0 : ∀ (z5 : Int64) (x9 : Int), v = .inl (z5, x9) → Go X 49 (wM g ad o) [(0, .ref (ad 0)), (2, iv x2), (3, .long z3), (5, .long z5), (7, .long z7), (9, iv x9)] [] := fun z5 x9 e => kk (z5, x9) e
    have k1 : ∀ (z5 : Int64), v = .inr (z5) → Go X 112 (wM g ad o) [(0, .ref (ad 0)), (2, iv x2), (3, .long z3), (5, .long z5), (7, .long z7)] [] := fun z5 e => k1 z5 (kx _ e).symm
    unfold l_X12_fall_49 at h
    refine g_iload E gdX12_fall_49 5 rfl ?_
    refine g_aload_n E gdX12_fall_51 rfl 0 rfl ?_
    refine g_get (T := TX12) E fw_X12 0 (wM_0 g ad o) rfl 17 (by decide) w_1483 rfl rfl gdX12_fall_52 ?_
    refine g_icmp_ge E 112 gdX12_fall_55 (by decide) h (fun h => ?_) (fun h => ?_)
    ·
      refine g_sub E [0, 1, 2, 3, 4] rfl ?_
      exact k1 z5 (Option.some.inj h).symm
    ·
      refine g_lload E gdX12_fall_58 3 rfl ?_
      refine g_aload_n E gdX12_fall_60 rfl 0 rfl ?_
      refine g_get (T := TX12) E fw_X12 0 (wM_0 g ad o) rfl 19 (by decide) w_1485 rfl rfl gdX12_fall_61 ?_
      refine g_iload E gdX12_fall_64 5 rfl ?_
      obtain ⟨hi42, h⟩ := qIn_of h
      refine g_iald E 14 (wM_14 g ad o) (by decide) hi42 gdX12_fall_66 ?_
      obtain ⟨n43, e_n43, h⟩ := qNm_of h
      refine g_nmi e_n43 ?_
      refine g_iconst E gdX12_fall_67 ?_
      refine g_icmp_ne E 102 gdX12_fall_68 (by decide) h (fun h => ?_) (fun h => ?_)
      ·
        refine g_sub E [0, 1, 2, 4, 5] rfl ?_
        exact j102 o x2 z3 z7 x9 z5 v h k0 k1
      ·
        refine g_aload_n E gdX12_fall_71 rfl 0 rfl ?_
        refine g_get (T := TX12) E fw_X12 0 (wM_0 g ad o) rfl 21 (by decide) w_1487 rfl rfl gdX12_fall_72 ?_
        refine g_iload E gdX12_fall_75 5 rfl ?_
        obtain ⟨hi44, h⟩ := qIn_of h
        refine g_zald E 16 (wM_16 g ad o) (by decide) hi44 gdX12_fall_77 ?_
        obtain ⟨n45, e_n45, h⟩ := qNm_of h
        refine g_nmi e_n45 ?_
        refine g_if_ne E 102 gdX12_fall_78 (by decide) h (fun h => ?_) (fun h => ?_)
        ·
          refine g_sub E [0, 1, 2, 4, 5] rfl ?_
          exact j102 o x2 z3 z7 x9 z5 v h k0 k1
        ·
          refine g_lload_n E gdX12_fall_81 rfl 2 rfl ?_
          refine g_aload_n E gdX12_fall_82 rfl 0 rfl ?_
          refine g_get (T := TX12) E fw_X12 0 (wM_0 g ad o) rfl 18 (by decide) w_1484 rfl rfl gdX12_fall_83 ?_
          refine g_iload E gdX12_fall_86 5 rfl ?_
          obtain ⟨hi46, h⟩ := qIn_of h
          refine g_iald E 13 (wM_13 g ad o) (by decide) hi46 gdX12_fall_88 ?_
          obtain ⟨n47, e_n47, h⟩ := qNm_of h
          refine g_nmi e_n47 ?_
          obtain ⟨r48, hc49, h⟩ := qB_of h
          refine g_Si (r := r48) (As := [.long z3, iv n47]) (rest := [.long z5]) (w := wM g ad o) E (c_X12_has l g (wM g ad o) z3 n47 r48 hc49) okm_X12_has w_1919 w_1918 rfl rfl (Nat.le_of_ble_eq_true rfl) ⟨Nat.le_of_ble_eq_true rfl, Nat.le_of_ble_eq_true rfl⟩ gdX12_fall_89 ?_
          refine g_if_ne E 102 gdX12_fall_92 (by decide) h (fun h => ?_) (fun h => ?_)
          ·
            refine g_sub E [0, 1, 2, 4, 5] rfl ?_
            exact j102 o x2 z3 z7 x9 z5 v h k0 k1
          ·
            refine g_lconst (v := 1) E gdX12_fall_95 (by decide) ?_
            refine g_iload E gdX12_fall_96 5 rfl ?_
            refine g_lshl E gdX12_fall_98 ?_
            refine g_goto E 103 gdX12_fall_99 (by decide) ?_
            refine g_sub E [0, 1, 2, 4, 5] rfl ?_
            exact j103 o x2 z3 z7 x9 z5 (jshl (1 : Int64) (Int32.ofInt x9)) v h k0 k1
  have j49 : ∀ (o : OO) (x2 : Int) (z3 : Int64) (z5 : Int64) (z7 : Int64) (x9 : Int), e_X12_fall_49 o x2 z3 z5 z7 x9 = some v → Go X 49 (wM g ad o) [(0, .ref (ad 0)), (2, iv x2), (3, .long z3), (5, .long z5), (7, .long z7), (9, iv x9)] [] := by
    intro o x2 z3 z5 z7 x9 h
    unfold e_X12_fall_49 at h
    obtain ⟨r, hr, h⟩ := qB_of h
    refine l49 o x2 z3 z7 r _ hr ?_
    ·
      intro u0 e
      have e := e.symm
      subst e
      have h : b_X12_fall_112 o x2 z3 u0 z7 = some v := h
      exact j112 o x2 z3 u0 z7 h
  unfold s_X12_fall at h
  refine g_aload_n E gdX12_fall_0 rfl 0 rfl ?_
  refine g_iload_n E gdX12_fall_1 rfl 1 rfl ?_
  obtain ⟨r50, hc51, h⟩ := qB_of h
  refine g_Vi (r := r50) (As := [iv x1]) (rest := []) (w := wM g ad o) E (c_X12_isMark l g ad o x1 r50 hc51) okm_X12_isMark okw_X12_isMark w_1903 rfl (wM_0 g ad o) rfl rfl (Nat.le_of_ble_eq_true rfl) ⟨Nat.le_of_ble_eq_true rfl, Nat.le_of_ble_eq_true rfl⟩ gdX12_fall_2 ?_
  refine g_if_eq E 18 gdX12_fall_5 (by decide) h (fun h => ?_) (fun h => ?_)
  ·
    refine g_sub E [] rfl ?_
    exact j18 o h
  ·
    refine g_iload_n E gdX12_fall_8 rfl 2 rfl ?_
    refine g_iconst E gdX12_fall_9 ?_
    refine g_bipush E gdX12_fall_10 (by decide) ?_
    obtain ⟨r52, hc53, h⟩ := qB_of h
    refine g_Si (r := r52) (As := [iv x2, iv 0, iv 20]) (rest := []) (w := wM g ad o) E (c_X12_in l g (wM g ad o) x2 0 20 r52 hc53) okm_X12_in w_1706 w_1705 rfl rfl (Nat.le_of_ble_eq_true rfl) ⟨Nat.le_of_ble_eq_true rfl, Nat.le_of_ble_eq_true rfl⟩ gdX12_fall_12 ?_
    refine g_if_ne E 20 gdX12_fall_15 (by decide) h (fun h => ?_) (fun h => ?_)
    ·
      refine g_aload_n E gdX12_fall_20 rfl 0 rfl ?_
      refine g_iload_n E gdX12_fall_21 rfl 1 rfl ?_
      obtain ⟨r54, hc55, h⟩ := qB_of h
      refine g_Vi (r := r54) (As := [iv x1]) (rest := []) (w := wM g ad o) E (c_X12_isLine l g ad o x1 r54 hc55) okm_X12_isLine okw_X12_isLine w_1907 rfl (wM_0 g ad o) rfl rfl (Nat.le_of_ble_eq_true rfl) ⟨Nat.le_of_ble_eq_true rfl, Nat.le_of_ble_eq_true rfl⟩ gdX12_fall_22 ?_
      refine g_if_ne E 34 gdX12_fall_25 (by decide) h (fun h => ?_) (fun h => ?_)
      ·
        refine g_aload_n E gdX12_fall_34 rfl 0 rfl ?_
        refine g_iload_n E gdX12_fall_35 rfl 1 rfl ?_
        obtain ⟨p56, hc57, h⟩ := qB_of h
        refine g_Vl (r := p56) (As := [iv x1]) (rest := []) (w := wM g ad o) E (c_X12_cellsOf l g ad o x1 p56 hc57) okm_X12_cellsOf okw_X12_cellsOf w_1914 rfl (wM_0 g ad o) rfl rfl (Nat.le_of_ble_eq_true rfl) ⟨Nat.le_of_ble_eq_true rfl, Nat.le_of_ble_eq_true rfl⟩ gdX12_fall_36 ?_
        refine g_lstore_n E [(3, .long p56), (0, .ref (ad 0)), (1, iv x1), (2, iv x2)] gdX12_fall_39 rfl (by decide) rfl ?_
        refine g_lconst (v := 0) E gdX12_fall_40 (by decide) ?_
        obtain ⟨m58, e_m58, h⟩ := qNm_of h
        refine g_nml e_m58 ?_
        refine g_lstore E [(5, .long m58), (3, .long p56), (0, .ref (ad 0)), (1, iv x1), (2, iv x2)] gdX12_fall_41 (by decide) rfl ?_
        refine g_lconst (v := 0) E gdX12_fall_43 (by decide) ?_
        obtain ⟨m59, e_m59, h⟩ := qNm_of h
        refine g_nml e_m59 ?_
        refine g_lstore E [(7, .long m59), (5, .long m58), (3, .long p56), (0, .ref (ad 0)), (1, iv x1), (2, iv x2)] gdX12_fall_44 (by decide) rfl ?_
        refine g_iconst E gdX12_fall_46 ?_
        refine g_istore E [(9, iv 0), (7, .long m59), (5, .long m58), (3, .long p56), (0, .ref (ad 0)), (1, iv x1), (2, iv x2)] gdX12_fall_47 (by decide) rfl ?_
        refine g_sub E [4, 6, 3, 2, 1, 0] rfl ?_
        exact j49 o x2 p56 m58 m59 0 h
      ·
        refine g_aload_n E gdX12_fall_28 rfl 0 rfl ?_
        refine g_iconst E gdX12_fall_29 ?_
        obtain ⟨r60, o62, hc61, h⟩ := qB2_of h
        refine g_Vi (r := r60) (As := [iv 3]) (rest := []) (w := wM g ad o62) E (c_X12_meets l g ad o 3 (r60, o62) hc61) okm_X12_meets okw_X12_meets w_1708 rfl (wM_0 g ad o) rfl rfl (Nat.le_of_ble_eq_true rfl) ⟨Nat.le_of_ble_eq_true rfl, Nat.le_of_ble_eq_true rfl⟩ gdX12_fall_30 ?_
        exact g_iret E hQ (by rw [← Option.some.inj h]) (by rw [← Option.some.inj h]) gdX12_fall_33
    ·
      refine g_sub E [] rfl ?_
      exact j18 o h
set_option maxHeartbeats 4000000 in
set_option maxRecDepth 100000 in
theorem c_X12_isText (l : Launch) (g : GG) (ws : va_W) (x0 : Int) (v : Int) (h : s_X12_isText x0 = some v) : CI l g yX12_isText cX12_isText 1 (some .boolean) 1 22 ws [iv x0] v ws := by
  refine met_I (by decide) (Nat.le_of_ble_eq_true rfl) ?_
  intro X E hQ
  show Go X 0 ws [(0, iv x0)] []
  unfold s_X12_isText at h
  refine g_iload_n E gdX12_isText_0 rfl 0 rfl ?_
  refine g_iconst E gdX12_isText_1 ?_
  refine g_iconst E gdX12_isText_2 ?_
  obtain ⟨r1, hc2, h⟩ := qB_of h
  refine g_Si (r := r1) (As := [iv x0, iv 0, iv 3]) (rest := []) (w := ws) E (c_X12_in l g ws x0 0 3 r1 hc2) okm_X12_in w_1706 w_1705 rfl rfl (Nat.le_of_ble_eq_true rfl) ⟨Nat.le_of_ble_eq_true rfl, Nat.le_of_ble_eq_true rfl⟩ gdX12_isText_3 ?_
  obtain ⟨hz, h⟩ := qZ_of h
  exact g_zret E hQ hz (Option.some.inj h) rfl gdX12_isText_6
set_option maxHeartbeats 4000000 in
set_option maxRecDepth 100000 in
theorem c_X12_askedText (l : Launch) (g : GG) (ad : Nat → Nat) (o : OO) (x1 : Int) (v : Int × OO) (h : s_X12_askedText o x1 = some v) : CI l g yX12_askedText cX12_askedText 2 (some .int) 2 42 (wM g ad o) [.ref (ad 0), iv x1] v.1 (wM g ad v.2) := by
  refine met_I (by decide) (Nat.le_of_ble_eq_true rfl) ?_
  intro X E hQ
  show Go X 0 (wM g ad o) [(0, .ref (ad 0)), (1, iv x1)] []
  have j29 : ∀ (o : OO) (y0 : Int), b_X12_askedText_29 o y0 = some v → Go X 29 (wM g ad o) [] [iv y0] := by
    intro o y0 h
    unfold b_X12_askedText_29 at h
    exact g_iret E hQ (by rw [← Option.some.inj h]) (by rw [← Option.some.inj h]) gdX12_askedText_29
  unfold s_X12_askedText at h
  refine g_iload_n E gdX12_askedText_0 rfl 1 rfl ?_
  obtain ⟨r1, hc2, h⟩ := qB_of h
  refine g_Si (r := r1) (As := [iv x1]) (rest := []) (w := wM g ad o) E (c_X12_isText l g (wM g ad o) x1 r1 hc2) okm_X12_isText w_1733 w_1732 rfl rfl (Nat.le_of_ble_eq_true rfl) ⟨Nat.le_of_ble_eq_true rfl, Nat.le_of_ble_eq_true rfl⟩ gdX12_askedText_1 ?_
  refine g_if_ne E 11 gdX12_askedText_4 (by decide) h (fun h => ?_) (fun h => ?_)
  ·
    refine g_aload_n E gdX12_askedText_11 rfl 0 rfl ?_
    refine g_get (T := TX12) E fw_X12 0 (wM_0 g ad o) rfl 8 (by decide) w_1474 rfl rfl gdX12_askedText_12 ?_
    refine g_iload_n E gdX12_askedText_15 rfl 1 rfl ?_
    obtain ⟨hi3, h⟩ := qIn_of h
    refine g_iald E 5 (wM_5 g ad o) (by decide) hi3 gdX12_askedText_16 ?_
    obtain ⟨n4, e_n4, h⟩ := qNm_of h
    refine g_nmi e_n4 ?_
    refine g_if_ge E 28 gdX12_askedText_17 (by decide) h (fun h => ?_) (fun h => ?_)
    ·
      refine g_iconst E gdX12_askedText_28 ?_
      refine g_sub E [] rfl ?_
      exact j29 o 0 h
    ·
      refine g_aload_n E gdX12_askedText_20 rfl 0 rfl ?_
      refine g_iconst E gdX12_askedText_21 ?_
      obtain ⟨r5, o7, hc6, h⟩ := qB2_of h
      refine g_Vi (r := r5) (As := [iv 1]) (rest := []) (w := wM g ad o7) E (c_X12_meets l g ad o 1 (r5, o7) hc6) okm_X12_meets okw_X12_meets w_1708 rfl (wM_0 g ad o) rfl rfl (Nat.le_of_ble_eq_true rfl) ⟨Nat.le_of_ble_eq_true rfl, Nat.le_of_ble_eq_true rfl⟩ gdX12_askedText_22 ?_
      refine g_goto E 29 gdX12_askedText_25 (by decide) ?_
      refine g_sub E [] rfl ?_
      exact j29 o7 r5 h
  ·
    refine g_iconst E gdX12_askedText_7 ?_
    refine g_goto E 29 gdX12_askedText_8 (by decide) ?_
    refine g_sub E [] rfl ?_
    exact j29 o (-1) h
set_option maxHeartbeats 4000000 in
set_option maxRecDepth 100000 in
theorem c_X12_letter (l : Launch) (g : GG) (ws : va_W) (x0 : Int) (v : Int) (h : s_X12_letter x0 = some v) : CI l g yX12_letter cX12_letter 1 (some .int) 0 0 ws [iv x0] v ws := by
  refine met_I (by decide) (Nat.le_of_ble_eq_true rfl) ?_
  intro X E hQ
  show Go X 0 ws [(0, iv x0)] []
  unfold s_X12_letter at h
  refine g_iload_n E gdX12_letter_0 rfl 0 rfl ?_
  obtain ⟨h1, -, ⟨hx, h⟩ | ⟨hx0, h⟩⟩ := qEq_of h
  ·
    refine g_tabIn (kx := 70) (off := 77) E 78 gdX12_letter_1 hx (by decide) (by decide) (by decide) (by decide) (by decide) ?_
    refine g_iconst E gdX12_letter_78 ?_
    exact g_iret E hQ (Option.some.inj h) rfl gdX12_letter_79
  ·
    obtain ⟨h1, -, ⟨hx, h⟩ | ⟨hx1, h⟩⟩ := qEq_of h
    ·
      refine g_tabIn (kx := 71) (off := 93) E 94 gdX12_letter_1 hx (by decide) (by decide) (by decide) (by decide) (by decide) ?_
      refine g_bipush E gdX12_letter_94 (by decide) ?_
      exact g_iret E hQ (Option.some.inj h) rfl gdX12_letter_96
    ·
      obtain ⟨h1, -, ⟨hx, h⟩ | ⟨hx2, h⟩⟩ := qEq_of h
      ·
        refine g_tabIn (kx := 72) (off := 90) E 91 gdX12_letter_1 hx (by decide) (by decide) (by decide) (by decide) (by decide) ?_
        refine g_bipush E gdX12_letter_91 (by decide) ?_
        exact g_iret E hQ (Option.some.inj h) rfl gdX12_letter_93
      ·
        obtain ⟨h1, -, ⟨hx, h⟩ | ⟨hx3, h⟩⟩ := qEq_of h
        ·
          refine g_tabIn (kx := 73) (off := 93) E 94 gdX12_letter_1 hx (by decide) (by decide) (by decide) (by decide) (by decide) ?_
          refine g_bipush E gdX12_letter_94 (by decide) ?_
          exact g_iret E hQ (Option.some.inj h) rfl gdX12_letter_96
        ·
          obtain ⟨h1, -, ⟨hx, h⟩ | ⟨hx4, h⟩⟩ := qEq_of h
          ·
            refine g_tabIn (kx := 74) (off := 93) E 94 gdX12_letter_1 hx (by decide) (by decide) (by decide) (by decide) (by decide) ?_
            refine g_bipush E gdX12_letter_94 (by decide) ?_
            exact g_iret E hQ (Option.some.inj h) rfl gdX12_letter_96
          ·
            obtain ⟨h1, -, ⟨hx, h⟩ | ⟨hx5, h⟩⟩ := qEq_of h
            ·
              refine g_tabIn (kx := 75) (off := 83) E 84 gdX12_letter_1 hx (by decide) (by decide) (by decide) (by decide) (by decide) ?_
              refine g_iconst E gdX12_letter_84 ?_
              exact g_iret E hQ (Option.some.inj h) rfl gdX12_letter_85
            ·
              obtain ⟨h1, -, ⟨hx, h⟩ | ⟨hx6, h⟩⟩ := qEq_of h
              ·
                refine g_tabIn (kx := 76) (off := 93) E 94 gdX12_letter_1 hx (by decide) (by decide) (by decide) (by decide) (by decide) ?_
                refine g_bipush E gdX12_letter_94 (by decide) ?_
                exact g_iret E hQ (Option.some.inj h) rfl gdX12_letter_96
              ·
                obtain ⟨h1, -, ⟨hx, h⟩ | ⟨hx7, h⟩⟩ := qEq_of h
                ·
                  refine g_tabIn (kx := 77) (off := 81) E 82 gdX12_letter_1 hx (by decide) (by decide) (by decide) (by decide) (by decide) ?_
                  refine g_iconst E gdX12_letter_82 ?_
                  exact g_iret E hQ (Option.some.inj h) rfl gdX12_letter_83
                ·
                  obtain ⟨h1, -, ⟨hx, h⟩ | ⟨hx8, h⟩⟩ := qEq_of h
                  ·
                    refine g_tabIn (kx := 78) (off := 85) E 86 gdX12_letter_1 hx (by decide) (by decide) (by decide) (by decide) (by decide) ?_
                    refine g_iconst E gdX12_letter_86 ?_
                    exact g_iret E hQ (Option.some.inj h) rfl gdX12_letter_87
                  ·
                    obtain ⟨h1, -, ⟨hx, h⟩ | ⟨hx9, h⟩⟩ := qEq_of h
                    ·
                      refine g_tabIn (kx := 79) (off := 93) E 94 gdX12_letter_1 hx (by decide) (by decide) (by decide) (by decide) (by decide) ?_
                      refine g_bipush E gdX12_letter_94 (by decide) ?_
                      exact g_iret E hQ (Option.some.inj h) rfl gdX12_letter_96
                    ·
                      obtain ⟨h1, -, ⟨hx, h⟩ | ⟨hx10, h⟩⟩ := qEq_of h
                      ·
                        refine g_tabIn (kx := 80) (off := 87) E 88 gdX12_letter_1 hx (by decide) (by decide) (by decide) (by decide) (by decide) ?_
                        refine g_bipush E gdX12_letter_88 (by decide) ?_
                        exact g_iret E hQ (Option.some.inj h) rfl gdX12_letter_90
                      ·
                        obtain ⟨h1, -, ⟨hx, h⟩ | ⟨hx11, h⟩⟩ := qEq_of h
                        ·
                          refine g_tabIn (kx := 81) (off := 93) E 94 gdX12_letter_1 hx (by decide) (by decide) (by decide) (by decide) (by decide) ?_
                          refine g_bipush E gdX12_letter_94 (by decide) ?_
                          exact g_iret E hQ (Option.some.inj h) rfl gdX12_letter_96
                        ·
                          obtain ⟨h1, -, ⟨hx, h⟩ | ⟨hx12, h⟩⟩ := qEq_of h
                          ·
                            refine g_tabIn (kx := 82) (off := 93) E 94 gdX12_letter_1 hx (by decide) (by decide) (by decide) (by decide) (by decide) ?_
                            refine g_bipush E gdX12_letter_94 (by decide) ?_
                            exact g_iret E hQ (Option.some.inj h) rfl gdX12_letter_96
                          ·
                            obtain ⟨h1, -, ⟨hx, h⟩ | ⟨hx13, h⟩⟩ := qEq_of h
                            ·
                              refine g_tabIn (kx := 83) (off := 75) E 76 gdX12_letter_1 hx (by decide) (by decide) (by decide) (by decide) (by decide) ?_
                              refine g_iconst E gdX12_letter_76 ?_
                              exact g_iret E hQ (Option.some.inj h) rfl gdX12_letter_77
                            ·
                              obtain ⟨h1, -, ⟨hx, h⟩ | ⟨hx14, h⟩⟩ := qEq_of h
                              ·
                                refine g_tabIn (kx := 84) (off := 79) E 80 gdX12_letter_1 hx (by decide) (by decide) (by decide) (by decide) (by decide) ?_
                                refine g_iconst E gdX12_letter_80 ?_
                                exact g_iret E hQ (Option.some.inj h) rfl gdX12_letter_81
                              ·
                                refine g_tabOut E 94 gdX12_letter_1 h1 (by omega) (by decide) ?_
                                refine g_bipush E gdX12_letter_94 (by decide) ?_
                                exact g_iret E hQ (Option.some.inj h) rfl gdX12_letter_96
set_option maxHeartbeats 4000000 in
set_option maxRecDepth 100000 in
theorem c_X12_reads (l : Launch) (g : GG) (ad : Nat → Nat) (o : OO) (x1 : Int) (v : Int × OO) (h : s_X12_reads o x1 = some v) : CI l g yX12_reads cX12_reads 6 (some .int) 1 22 (wM g ad o) [.ref (ad 0), iv x1] v.1 (wM g ad v.2) := by
  refine met_I (by decide) (Nat.le_of_ble_eq_true rfl) ?_
  intro X E hQ
  show Go X 0 (wM g ad o) [(0, .ref (ad 0)), (1, iv x1)] []
  have j65 : ∀ (o : OO) (x2 : Int), b_X12_reads_65 o x2 = some v → Go X 65 (wM g ad o) [(2, iv x2)] [] := by
    intro o x2 h
    unfold b_X12_reads_65 at h
    refine g_iload_n E gdX12_reads_65 rfl 0 rfl ?_
    exact g_iret E hQ (by rw [← Option.some.inj h]) (by rw [← Option.some.inj h]) gdX12_reads_66
  have j149 : ∀ (o : OO) (x2 : Int), b_X12_reads_149 o x2 = some v → Go X 149 (wM g ad o) [(2, iv x2)] [] := by
    intro o x2 h
    unfold b_X12_reads_149 at h
    refine g_iload_n E gdX12_reads_149 rfl 0 rfl ?_
    exact g_iret E hQ (by rw [← Option.some.inj h]) (by rw [← Option.some.inj h]) gdX12_reads_150
  have j165 : ∀ (o : OO), b_X12_reads_165 o = some v → Go X 165 (wM g ad o) [] [] := by
    intro o h
    unfold b_X12_reads_165 at h
    refine g_bipush E gdX12_reads_165 (by decide) ?_
    exact g_iret E hQ (by rw [← Option.some.inj h]) (by rw [← Option.some.inj h]) gdX12_reads_167
  have j144 : ∀ (o : OO) (x1 : Int) (x2 : Int) (x3 : Int) (x4 : Int) (x5 : Int) (v : (OO × Int) ⊕ ((OO × Int) ⊕ (OO × Int) ⊕ (OO))), b_X12_reads_144 o x1 x2 x3 x4 x5 = some v → (∀ (o : OO) (x2 : Int), v = .inl (o, x2) → Go X 24 (wM g ad o) [(0, .ref (ad 0)), (1, iv x1), (2, iv x2)] []) → (∀ (o : OO) (x2 : Int), v = .inr (.inl (o, x2)) → Go X 65 (wM g ad o) [(2, iv x2)] []) → (∀ (o : OO) (x2 : Int), v = .inr (.inr (.inl (o, x2))) → Go X 149 (wM g ad o) [(2, iv x2)] []) → (∀ (o : OO), v = .inr (.inr (.inr o)) → Go X 165 (wM g ad o) [] []) → Go X 144 (wM g ad o) [(0, .ref (ad 0)), (1, iv x1), (2, iv x2), (3, iv x3), (4, iv x4), (5, iv x5)] [] := by
    intro o x1 x2 x3 x4 x5 v h k0 k1 k2 k3
    unfold b_X12_reads_144 at h
    refine g_iload E gdX12_reads_144 4 rfl ?_
    refine g_if_ne E 151 gdX12_reads_146 (by decide) h (fun h => ?_) (fun h => ?_)
    ·
      refine g_aload_n E gdX12_reads_151 rfl 0 rfl ?_
      refine g_get (T := TX12) E fw_X12 0 (wM_0 g ad o) rfl 14 (by decide) w_1480 rfl rfl gdX12_reads_152 ?_
      refine g_iload_n E gdX12_reads_155 rfl 3 rfl ?_
      obtain ⟨r1, hc2, h⟩ := qB_of h
      refine g_Si (r := r1) (As := [iv x3]) (rest := [.ref (ad 10)]) (w := wM g ad o) E (c_X12_letter l g (wM g ad o) x3 r1 hc2) okm_X12_letter w_1756 w_1755 rfl rfl (Nat.le_of_ble_eq_true rfl) ⟨Nat.le_of_ble_eq_true rfl, Nat.le_of_ble_eq_true rfl⟩ gdX12_reads_156 ?_
      refine g_iload E gdX12_reads_159 5 rfl ?_
      obtain ⟨hi3, h⟩ := qIn_of h
      obtain ⟨o4, e_o4, h⟩ := qNm_of h
      refine g_iast (ws' := wM g ad o4) E 10 (wM_10 g ad o) (by decide) hi3 (by rw [e_o4]; exact wM_s10 g ad o _ _) gdX12_reads_161 ?_
      refine g_goto E 24 gdX12_reads_162 (by decide) ?_
      refine g_sub E [0, 1, 2] rfl ?_
      exact k0 o4 x2 (Option.some.inj h).symm
    ·
      refine g_sub E [2] rfl ?_
      exact k2 o x2 (Option.some.inj h).symm
  have l76 : ∀ (o : OO) (x1 : Int) (x3 : Int) (r : (Int × Int × Int)) (s0 : Int × Int × Int), loopW (fun s => l_X12_reads_76 o x1 x3 s.1 s.2.1 s.2.2) s0 = some r → (∀ (x2 : Int) (x4 : Int) (x5 : Int), r = ((x2, x4, x5)) → Go X 144 (wM g ad o) [(0, .ref (ad 0)), (1, iv x1), (2, iv x2), (3, iv x3), (4, iv x4), (5, iv x5)] []) → Go X 76 (wM g ad o) [(0, .ref (ad 0)), (1, iv x1), (2, iv s0.1), (3, iv x3), (4, iv s0.2.1), (5, iv s0.2.2)] [] := by
    intro o x1 x3 r s0 h k1
    refine loop_rule (Head := fun s0 => Go X 76 (wM g ad o) [(0, .ref (ad 0)), (1, iv x1), (2, iv s0.1), (3, iv x3), (4, iv s0.2.1), (5, iv s0.2.2)] []) h ?_
    intro s v h kk kx
    obtain ⟨x2, x4, x5⟩ := s
    have h : l_X12_reads_76 o x1 x3 x2 x4 x5 = some v := h
    have k0 : ∀ (x2 : Int) (x4 : Int) (x5 : Int), v = .inl (x2, x4, x5) → Go X 76 (wM g ad o) [(0, .ref (ad 0)), (1, iv x1), (2, iv x2), (3, iv x3), (4, iv x4), (5, iv x5)] [] := fun x2 x4 x5 e => kk (x2, x4, x5) e
    have k1 : ∀ (x2 : Int) (x4 : Int) (x5 : Int), v = .inr ((x2, x4, x5)) → Go X 144 (wM g ad o) [(0, .ref (ad 0)), (1, iv x1), (2, iv x2), (3, iv x3), (4, iv x4), (5, iv x5)] [] := fun x2 x4 x5 e => k1 x2 x4 x5 (kx _ e).symm
    unfold l_X12_reads_76 at h
    refine g_iload_n E gdX12_reads_76 rfl 2 rfl ?_
    refine g_aload_n E gdX12_reads_77 rfl 0 rfl ?_
    refine g_get (T := TX12) E fw_X12 0 (wM_0 g ad o) rfl 8 (by decide) w_1474 rfl rfl gdX12_reads_78 ?_
    refine g_iload_n E gdX12_reads_81 rfl 1 rfl ?_
    obtain ⟨hi5, h⟩ := qIn_of h
    refine g_iald E 5 (wM_5 g ad o) (by decide) hi5 gdX12_reads_82 ?_
    obtain ⟨n6, e_n6, h⟩ := qNm_of h
    refine g_nmi e_n6 ?_
    refine g_icmp_ge E 144 gdX12_reads_83 (by decide) h (fun h => ?_) (fun h => ?_)
    ·
      exact k1 x2 x4 x5 (Option.some.inj h).symm
    ·
      refine g_iload E gdX12_reads_86 4 rfl ?_
      refine g_iconst E gdX12_reads_88 ?_
      refine g_icmp_ge E 144 gdX12_reads_89 (by decide) h (fun h => ?_) (fun h => ?_)
      ·
        exact k1 x2 x4 x5 (Option.some.inj h).symm
      ·
        refine g_aload_n E gdX12_reads_92 rfl 0 rfl ?_
        refine g_get (T := TX12) E fw_X12 0 (wM_0 g ad o) rfl 9 (by decide) w_1475 rfl rfl gdX12_reads_93 ?_
        refine g_bipush E gdX12_reads_96 (by decide) ?_
        refine g_iload_n E gdX12_reads_98 rfl 1 rfl ?_
        refine g_imul E gdX12_reads_99 ?_
        refine g_iload_n E gdX12_reads_100 rfl 2 rfl ?_
        refine g_iadd E gdX12_reads_101 ?_
        obtain ⟨hi7, h⟩ := qIn_of h
        refine g_iald E 6 (wM_6 g ad o) (by decide) hi7 gdX12_reads_102 ?_
        obtain ⟨n8, e_n8, h⟩ := qNm_of h
        refine g_nmi e_n8 ?_
        refine g_bipush E gdX12_reads_103 (by decide) ?_
        refine g_bipush E gdX12_reads_105 (by decide) ?_
        obtain ⟨r9, hc10, h⟩ := qB_of h
        refine g_Si (r := r9) (As := [iv n8, iv 48, iv 57]) (rest := []) (w := wM g ad o) E (c_X12_in l g (wM g ad o) n8 48 57 r9 hc10) okm_X12_in w_1706 w_1705 rfl rfl (Nat.le_of_ble_eq_true rfl) ⟨Nat.le_of_ble_eq_true rfl, Nat.le_of_ble_eq_true rfl⟩ gdX12_reads_107 ?_
        refine g_if_eq E 144 gdX12_reads_110 (by decide) h (fun h => ?_) (fun h => ?_)
        ·
          exact k1 x2 x4 x5 (Option.some.inj h).symm
        ·
          refine g_bipush E gdX12_reads_113 (by decide) ?_
          refine g_iload E gdX12_reads_115 5 rfl ?_
          refine g_imul E gdX12_reads_117 ?_
          refine g_aload_n E gdX12_reads_118 rfl 0 rfl ?_
          refine g_get (T := TX12) E fw_X12 0 (wM_0 g ad o) rfl 9 (by decide) w_1475 rfl rfl gdX12_reads_119 ?_
          refine g_bipush E gdX12_reads_122 (by decide) ?_
          refine g_iload_n E gdX12_reads_124 rfl 1 rfl ?_
          refine g_imul E gdX12_reads_125 ?_
          refine g_iload_n E gdX12_reads_126 rfl 2 rfl ?_
          refine g_iadd E gdX12_reads_127 ?_
          obtain ⟨hi11, h⟩ := qIn_of h
          refine g_iald E 6 (wM_6 g ad o) (by decide) hi11 gdX12_reads_128 ?_
          obtain ⟨n12, e_n12, h⟩ := qNm_of h
          refine g_nmi e_n12 ?_
          refine g_iadd E gdX12_reads_129 ?_
          refine g_bipush E gdX12_reads_130 (by decide) ?_
          refine g_isub E gdX12_reads_132 ?_
          obtain ⟨n13, e_n13, h⟩ := qNm_of h
          refine g_nmi e_n13 ?_
          refine g_istore E [(5, iv n13), (0, .ref (ad 0)), (1, iv x1), (2, iv x2), (3, iv x3), (4, iv x4)] gdX12_reads_133 (by decide) rfl ?_
          refine g_iinc E [(4, iv (x4 + 1)), (5, iv n13), (0, .ref (ad 0)), (1, iv x1), (2, iv x2), (3, iv x3)] gdX12_reads_135 5 rfl (by decide) rfl ?_
          refine g_iinc E [(2, iv (x2 + 1)), (4, iv (x4 + 1)), (5, iv n13), (0, .ref (ad 0)), (1, iv x1), (3, iv x3)] gdX12_reads_138 4 rfl (by decide) rfl ?_
          refine g_goto E 76 gdX12_reads_141 (by decide) ?_
          refine g_sub E [3, 4, 0, 5, 1, 2] rfl ?_
          exact k0 (x2 + 1) (x4 + 1) n13 (Option.some.inj h).symm
  have j76 : ∀ (o : OO) (x1 : Int) (x2 : Int) (x3 : Int) (x4 : Int) (x5 : Int) (v : (OO × Int) ⊕ ((OO × Int) ⊕ (OO × Int) ⊕ (OO))), e_X12_reads_76 o x1 x2 x3 x4 x5 = some v → (∀ (o : OO) (x2 : Int), v = .inl (o, x2) → Go X 24 (wM g ad o) [(0, .ref (ad 0)), (1, iv x1), (2, iv x2)] []) → (∀ (o : OO) (x2 : Int), v = .inr (.inl (o, x2)) → Go X 65 (wM g ad o) [(2, iv x2)] []) → (∀ (o : OO) (x2 : Int), v = .inr (.inr (.inl (o, x2))) → Go X 149 (wM g ad o) [(2, iv x2)] []) → (∀ (o : OO), v = .inr (.inr (.inr o)) → Go X 165 (wM g ad o) [] []) → Go X 76 (wM g ad o) [(0, .ref (ad 0)), (1, iv x1), (2, iv x2), (3, iv x3), (4, iv x4), (5, iv x5)] [] := by
    intro o x1 x2 x3 x4 x5 v h k0 k1 k2 k3
    unfold e_X12_reads_76 at h
    obtain ⟨r, hr, h⟩ := qB_of h
    refine l76 o x1 x3 r _ hr ?_
    ·
      intro u0 u1 u2 e
      subst e
      have h : b_X12_reads_144 o x1 u0 x3 u1 u2 = some v := h
      exact j144 o x1 u0 x3 u1 u2 v h k0 k1 k2 k3
  have l24 : ∀ (x1 : Int) (r : (OO × Int) ⊕ (OO × Int) ⊕ (OO)) (s0 : OO × Int), loopW (fun s => l_X12_reads_24 x1 s.1 s.2) s0 = some r → (∀ (o : OO) (x2 : Int), r = (.inl (o, x2)) → Go X 65 (wM g ad o) [(2, iv x2)] []) → (∀ (o : OO) (x2 : Int), r = (.inr (.inl (o, x2))) → Go X 149 (wM g ad o) [(2, iv x2)] []) → (∀ (o : OO), r = (.inr (.inr o)) → Go X 165 (wM g ad o) [] []) → Go X 24 (wM g ad s0.1) [(0, .ref (ad 0)), (1, iv x1), (2, iv s0.2)] [] := by
    intro x1 r s0 h k1 k2 k3
    refine loop_rule (Head := fun s0 => Go X 24 (wM g ad s0.1) [(0, .ref (ad 0)), (1, iv x1), (2, iv s0.2)] []) h ?_
    intro s v h kk kx
    obtain ⟨o, x2⟩ := s
    have h : l_X12_reads_24 x1 o x2 = some v := h
    have k0 : ∀ (o : OO) (x2 : Int), v = .inl (o, x2) → Go X 24 (wM g ad o) [(0, .ref (ad 0)), (1, iv x1), (2, iv x2)] [] := fun o x2 e => kk (o, x2) e
    have k1 : ∀ (o : OO) (x2 : Int), v = .inr (.inl (o, x2)) → Go X 65 (wM g ad o) [(2, iv x2)] [] := fun o x2 e => k1 o x2 (kx _ e).symm
    have k2 : ∀ (o : OO) (x2 : Int), v = .inr (.inr (.inl (o, x2))) → Go X 149 (wM g ad o) [(2, iv x2)] [] := fun o x2 e => k2 o x2 (kx _ e).symm
    have k3 : ∀ (o : OO), v = .inr (.inr (.inr o)) → Go X 165 (wM g ad o) [] [] := fun o e => k3 o (kx _ e).symm
    unfold l_X12_reads_24 at h
    refine g_iload_n E gdX12_reads_24 rfl 2 rfl ?_
    refine g_aload_n E gdX12_reads_25 rfl 0 rfl ?_
    refine g_get (T := TX12) E fw_X12 0 (wM_0 g ad o) rfl 8 (by decide) w_1474 rfl rfl gdX12_reads_26 ?_
    refine g_iload_n E gdX12_reads_29 rfl 1 rfl ?_
    obtain ⟨hi14, h⟩ := qIn_of h
    refine g_iald E 5 (wM_5 g ad o) (by decide) hi14 gdX12_reads_30 ?_
    obtain ⟨n15, e_n15, h⟩ := qNm_of h
    refine g_nmi e_n15 ?_
    refine g_icmp_ge E 165 gdX12_reads_31 (by decide) h (fun h => ?_) (fun h => ?_)
    ·
      refine g_sub E [] rfl ?_
      exact k3 o (Option.some.inj h).symm
    ·
      refine g_aload_n E gdX12_reads_34 rfl 0 rfl ?_
      refine g_get (T := TX12) E fw_X12 0 (wM_0 g ad o) rfl 9 (by decide) w_1475 rfl rfl gdX12_reads_35 ?_
      refine g_bipush E gdX12_reads_38 (by decide) ?_
      refine g_iload_n E gdX12_reads_40 rfl 1 rfl ?_
      refine g_imul E gdX12_reads_41 ?_
      refine g_iload_n E gdX12_reads_42 rfl 2 rfl ?_
      refine g_iadd E gdX12_reads_43 ?_
      obtain ⟨hi16, h⟩ := qIn_of h
      refine g_iald E 6 (wM_6 g ad o) (by decide) hi16 gdX12_reads_44 ?_
      obtain ⟨n17, e_n17, h⟩ := qNm_of h
      refine g_nmi e_n17 ?_
      refine g_istore_n E [(3, iv n17), (0, .ref (ad 0)), (1, iv x1), (2, iv x2)] gdX12_reads_45 rfl (by decide) rfl ?_
      refine g_iload_n E gdX12_reads_46 rfl 0 rfl ?_
      refine g_bipush E gdX12_reads_47 (by decide) ?_
      refine g_icmp_ne E 58 gdX12_reads_49 (by decide) h (fun h => ?_) (fun h => ?_)
      ·
        refine g_iload_n E gdX12_reads_58 rfl 0 rfl ?_
        obtain ⟨r18, hc19, h⟩ := qB_of h
        refine g_Si (r := r18) (As := [iv n17]) (rest := []) (w := wM g ad o) E (c_X12_letter l g (wM g ad o) n17 r18 hc19) okm_X12_letter w_1756 w_1755 rfl rfl (Nat.le_of_ble_eq_true rfl) ⟨Nat.le_of_ble_eq_true rfl, Nat.le_of_ble_eq_true rfl⟩ gdX12_reads_59 ?_
        refine g_if_ge E 67 gdX12_reads_62 (by decide) h (fun h => ?_) (fun h => ?_)
        ·
          refine g_iinc E [(2, iv (x2 + 1)), (3, iv n17), (0, .ref (ad 0)), (1, iv x1)] gdX12_reads_67 3 rfl (by decide) rfl ?_
          refine g_iconst E gdX12_reads_70 ?_
          refine g_istore E [(4, iv 0), (2, iv (x2 + 1)), (3, iv n17), (0, .ref (ad 0)), (1, iv x1)] gdX12_reads_71 (by decide) rfl ?_
          refine g_iconst E gdX12_reads_73 ?_
          refine g_istore E [(5, iv 0), (4, iv 0), (2, iv (x2 + 1)), (3, iv n17), (0, .ref (ad 0)), (1, iv x1)] gdX12_reads_74 (by decide) rfl ?_
          refine g_sub E [4, 5, 2, 3, 1, 0] rfl ?_
          exact j76 o x1 (x2 + 1) n17 0 0 v h k0 k1 k2 k3
        ·
          refine g_sub E [3] rfl ?_
          exact k1 o x2 (Option.some.inj h).symm
      ·
        refine g_iinc E [(2, iv (x2 + 1)), (3, iv n17), (0, .ref (ad 0)), (1, iv x1)] gdX12_reads_52 3 rfl (by decide) rfl ?_
        refine g_goto E 24 gdX12_reads_55 (by decide) ?_
        refine g_sub E [2, 3, 0] rfl ?_
        exact k0 o (x2 + 1) (Option.some.inj h).symm
  have j24 : ∀ (o : OO) (x1 : Int) (x2 : Int), e_X12_reads_24 o x1 x2 = some v → Go X 24 (wM g ad o) [(0, .ref (ad 0)), (1, iv x1), (2, iv x2)] [] := by
    intro o x1 x2 h
    unfold e_X12_reads_24 at h
    obtain ⟨r, hr, h⟩ := qB_of h
    refine l24 x1 r _ hr ?_ ?_ ?_
    ·
      intro u0 u1 e
      subst e
      have h : b_X12_reads_65 u0 u1 = some v := h
      exact j65 u0 u1 h
    ·
      intro u0 u1 e
      subst e
      have h : b_X12_reads_149 u0 u1 = some v := h
      exact j149 u0 u1 h
    ·
      intro u0 e
      subst e
      have h : b_X12_reads_165 u0 = some v := h
      exact j165 u0 h
  have j22 : ∀ (o : OO) (x1 : Int), b_X12_reads_22 o x1 = some v → Go X 22 (wM g ad o) [(0, .ref (ad 0)), (1, iv x1)] [] := by
    intro o x1 h
    unfold b_X12_reads_22 at h
    refine g_iconst E gdX12_reads_22 ?_
    refine g_istore_n E [(2, iv 0), (0, .ref (ad 0)), (1, iv x1)] gdX12_reads_23 rfl (by decide) rfl ?_
    refine g_sub E [1, 2, 0] rfl ?_
    exact j24 o x1 0 h
  have l2 : ∀ (x1 : Int) (r : (OO)) (s0 : OO × Int), loopW (fun s => l_X12_reads_2 x1 s.1 s.2) s0 = some r → (∀ (o : OO), r = (o) → Go X 22 (wM g ad o) [(0, .ref (ad 0)), (1, iv x1)] []) → Go X 2 (wM g ad s0.1) [(0, .ref (ad 0)), (1, iv x1), (2, iv s0.2)] [] := by
    intro x1 r s0 h k1
    refine loop_rule (Head := fun s0 => Go X 2 (wM g ad s0.1) [(0, .ref (ad 0)), (1, iv x1), (2, iv s0.2)] []) h ?_
    intro s v h kk kx
    obtain ⟨o, x2⟩ := s
    have h : l_X12_reads_2 x1 o x2 = some v := h
    have k0 : ∀ (o : OO) (x2 : Int), v = .inl (o, x2) → Go X 2 (wM g ad o) [(0, .ref (ad 0)), (1, iv x1), (2, iv x2)] [] := fun o x2 e => kk (o, x2) e
    have k1 : ∀ (o : OO), v = .inr (o) → Go X 22 (wM g ad o) [(0, .ref (ad 0)), (1, iv x1)] [] := fun o e => k1 o (kx _ e).symm
    unfold l_X12_reads_2 at h
    refine g_iload_n E gdX12_reads_2 rfl 2 rfl ?_
    refine g_bipush E gdX12_reads_3 (by decide) ?_
    refine g_icmp_ge E 22 gdX12_reads_5 (by decide) h (fun h => ?_) (fun h => ?_)
    ·
      refine g_sub E [0, 1] rfl ?_
      exact k1 o (Option.some.inj h).symm
    ·
      refine g_aload_n E gdX12_reads_8 rfl 0 rfl ?_
      refine g_get (T := TX12) E fw_X12 0 (wM_0 g ad o) rfl 14 (by decide) w_1480 rfl rfl gdX12_reads_9 ?_
      refine g_iload_n E gdX12_reads_12 rfl 2 rfl ?_
      refine g_bipush E gdX12_reads_13 (by decide) ?_
      obtain ⟨hi20, h⟩ := qIn_of h
      obtain ⟨o21, e_o21, h⟩ := qNm_of h
      refine g_iast (ws' := wM g ad o21) E 10 (wM_10 g ad o) (by decide) hi20 (by rw [e_o21]; exact wM_s10 g ad o _ _) gdX12_reads_15 ?_
      refine g_iinc E [(2, iv (x2 + 1)), (0, .ref (ad 0)), (1, iv x1)] gdX12_reads_16 2 rfl (by decide) rfl ?_
      refine g_goto E 2 gdX12_reads_19 (by decide) ?_
      refine g_sub E [1, 2, 0] rfl ?_
      exact k0 o21 (x2 + 1) (Option.some.inj h).symm
  have j2 : ∀ (o : OO) (x1 : Int) (x2 : Int), e_X12_reads_2 o x1 x2 = some v → Go X 2 (wM g ad o) [(0, .ref (ad 0)), (1, iv x1), (2, iv x2)] [] := by
    intro o x1 x2 h
    unfold e_X12_reads_2 at h
    obtain ⟨r, hr, h⟩ := qB_of h
    refine l2 x1 r _ hr ?_
    ·
      intro u0 e
      have e := e.symm
      subst e
      have h : b_X12_reads_22 u0 x1 = some v := h
      exact j22 u0 x1 h
  unfold s_X12_reads at h
  refine g_iconst E gdX12_reads_0 ?_
  refine g_istore_n E [(2, iv 0), (0, .ref (ad 0)), (1, iv x1)] gdX12_reads_1 rfl (by decide) rfl ?_
  refine g_sub E [1, 2, 0] rfl ?_
  exact j2 o x1 0 h
set_option maxHeartbeats 4000000 in
set_option maxRecDepth 100000 in
theorem c_X12_fault (l : Launch) (g : GG) (ad : Nat → Nat) (o : OO) (x1 : Int) (v : Int × OO) (h : s_X12_fault o x1 = some v) : CI l g yX12_fault cX12_fault 3 (some .int) 3 63 (wM g ad o) [.ref (ad 0), iv x1] v.1 (wM g ad v.2) := by
  refine met_I (by decide) (Nat.le_of_ble_eq_true rfl) ?_
  intro X E hQ
  show Go X 0 (wM g ad o) [(0, .ref (ad 0)), (1, iv x1)] []
  have j19 : ∀ (o : OO) (y0 : Int), b_X12_fault_19 o y0 = some v → Go X 19 (wM g ad o) [] [iv y0] := by
    intro o y0 h
    unfold b_X12_fault_19 at h
    exact g_iret E hQ (by rw [← Option.some.inj h]) (by rw [← Option.some.inj h]) gdX12_fault_19
  unfold s_X12_fault at h
  refine g_aload_n E gdX12_fault_0 rfl 0 rfl ?_
  refine g_iload_n E gdX12_fault_1 rfl 1 rfl ?_
  obtain ⟨r1, o3, hc2, h⟩ := qB2_of h
  refine g_Vi (r := r1) (As := [iv x1]) (rest := []) (w := wM g ad o3) E (c_X12_askedText l g ad o x1 (r1, o3) hc2) okm_X12_askedText okw_X12_askedText w_1739 rfl (wM_0 g ad o) rfl rfl (Nat.le_of_ble_eq_true rfl) ⟨Nat.le_of_ble_eq_true rfl, Nat.le_of_ble_eq_true rfl⟩ gdX12_fault_2 ?_
  refine g_istore_n E [(2, iv r1), (0, .ref (ad 0)), (1, iv x1)] gdX12_fault_5 rfl (by decide) rfl ?_
  refine g_iload_n E gdX12_fault_6 rfl 0 rfl ?_
  refine g_if_ge E 14 gdX12_fault_7 (by decide) h (fun h => ?_) (fun h => ?_)
  ·
    refine g_aload_n E gdX12_fault_14 rfl 1 rfl ?_
    refine g_iload_n E gdX12_fault_15 rfl 2 rfl ?_
    obtain ⟨r4, o6, hc5, h⟩ := qB2_of h
    refine g_Vi (r := r4) (As := [iv x1]) (rest := []) (w := wM g ad o6) E (c_X12_reads l g ad o3 x1 (r4, o6) hc5) okm_X12_reads okw_X12_reads w_1751 rfl (wM_0 g ad o3) rfl rfl (Nat.le_of_ble_eq_true rfl) ⟨Nat.le_of_ble_eq_true rfl, Nat.le_of_ble_eq_true rfl⟩ gdX12_fault_16 ?_
    refine g_sub E [] rfl ?_
    exact j19 o6 r4 h
  ·
    refine g_iload_n E gdX12_fault_10 rfl 0 rfl ?_
    refine g_goto E 19 gdX12_fault_11 (by decide) ?_
    refine g_sub E [] rfl ?_
    exact j19 o3 r1 h
set_option maxHeartbeats 4000000 in
set_option maxRecDepth 100000 in
theorem c_X12_finding (l : Launch) (g : GG) (ad : Nat → Nat) (o : OO) (v : Int) (h : s_X12_finding o = some v) : CI l g yX12_finding cX12_finding 1 (some .int) 0 0 (wM g ad o) [.ref (ad 0)] v (wM g ad o) := by
  refine met_I (by decide) (Nat.le_of_ble_eq_true rfl) ?_
  intro X E hQ
  show Go X 0 (wM g ad o) [(0, .ref (ad 0))] []
  unfold s_X12_finding at h
  refine g_aload_n E gdX12_finding_0 rfl 0 rfl ?_
  refine g_get (T := TX12) E fw_X12 0 (wM_0 g ad o) rfl 0 (by decide) w_1466 rfl rfl gdX12_finding_1 ?_
  exact g_iret E hQ (Option.some.inj h) rfl gdX12_finding_4
set_option maxHeartbeats 4000000 in
set_option maxRecDepth 100000 in
theorem c_X12_findings (l : Launch) (g : GG) (ad : Nat → Nat) (o : OO) (x1 : Int) (v : Int) (h : s_X12_findings o x1 = some v) : CI l g yX12_findings cX12_findings 2 (some .int) 1 22 (wM g ad o) [.ref (ad 0), iv x1] v (wM g ad o) := by
  refine met_I (by decide) (Nat.le_of_ble_eq_true rfl) ?_
  intro X E hQ
  show Go X 0 (wM g ad o) [(0, .ref (ad 0)), (1, iv x1)] []
  have j19 : ∀ (y0 : Int), b_X12_findings_19 o y0 = some v → Go X 19 (wM g ad o) [] [iv y0] := by
    intro y0 h
    unfold b_X12_findings_19 at h
    exact g_iret E hQ (Option.some.inj h) rfl gdX12_findings_19
  unfold s_X12_findings at h
  refine g_iload_n E gdX12_findings_0 rfl 1 rfl ?_
  refine g_iconst E gdX12_findings_1 ?_
  refine g_iconst E gdX12_findings_2 ?_
  obtain ⟨r1, hc2, h⟩ := qB_of h
  refine g_Si (r := r1) (As := [iv x1, iv 1, iv 5]) (rest := []) (w := wM g ad o) E (c_X12_in l g (wM g ad o) x1 1 5 r1 hc2) okm_X12_in w_1706 w_1705 rfl rfl (Nat.le_of_ble_eq_true rfl) ⟨Nat.le_of_ble_eq_true rfl, Nat.le_of_ble_eq_true rfl⟩ gdX12_findings_3 ?_
  refine g_if_eq E 18 gdX12_findings_6 (by decide) h (fun h => ?_) (fun h => ?_)
  ·
    refine g_iconst E gdX12_findings_18 ?_
    refine g_sub E [] rfl ?_
    exact j19 (-1) h
  ·
    refine g_aload_n E gdX12_findings_9 rfl 0 rfl ?_
    refine g_get (T := TX12) E fw_X12 0 (wM_0 g ad o) rfl 1 (by decide) w_1467 rfl rfl gdX12_findings_10 ?_
    refine g_iload_n E gdX12_findings_13 rfl 1 rfl ?_
    obtain ⟨hi3, h⟩ := qIn_of h
    refine g_iald E 1 (wM_1 g ad o) (by decide) hi3 gdX12_findings_14 ?_
    obtain ⟨n4, e_n4, h⟩ := qNm_of h
    refine g_nmi e_n4 ?_
    refine g_goto E 19 gdX12_findings_15 (by decide) ?_
    refine g_sub E [] rfl ?_
    exact j19 n4 h
set_option maxHeartbeats 4000000 in
set_option maxRecDepth 100000 in
theorem c_X12_isDay (l : Launch) (g : GG) (ws : va_W) (x0 : Int) (v : Int) (h : s_X12_isDay x0 = some v) : CI l g yX12_isDay cX12_isDay 1 (some .boolean) 1 22 ws [iv x0] v ws := by
  refine met_I (by decide) (Nat.le_of_ble_eq_true rfl) ?_
  intro X E hQ
  show Go X 0 ws [(0, iv x0)] []
  unfold s_X12_isDay at h
  refine g_iload_n E gdX12_isDay_0 rfl 0 rfl ?_
  refine g_iconst E gdX12_isDay_1 ?_
  refine g_sipush E gdX12_isDay_2 (by decide) ?_
  obtain ⟨r1, hc2, h⟩ := qB_of h
  refine g_Si (r := r1) (As := [iv x0, iv 0, iv 999]) (rest := []) (w := ws) E (c_X12_in l g ws x0 0 999 r1 hc2) okm_X12_in w_1706 w_1705 rfl rfl (Nat.le_of_ble_eq_true rfl) ⟨Nat.le_of_ble_eq_true rfl, Nat.le_of_ble_eq_true rfl⟩ gdX12_isDay_5 ?_
  obtain ⟨hz, h⟩ := qZ_of h
  exact g_zret E hQ hz (Option.some.inj h) rfl gdX12_isDay_8
set_option maxHeartbeats 4000000 in
set_option maxRecDepth 100000 in
theorem c_X12_isAsked (l : Launch) (g : GG) (ws : va_W) (x0 : Int) (x1 : Int) (x2 : Int) (v : Int) (h : s_X12_isAsked x0 x1 x2 = some v) : CI l g yX12_isAsked cX12_isAsked 3 (some .boolean) 2 42 ws [iv x0, iv x1, iv x2] v ws := by
  refine met_I (by decide) (Nat.le_of_ble_eq_true rfl) ?_
  intro X E hQ
  show Go X 0 ws [(0, iv x0), (1, iv x1), (2, iv x2)] []
  have j29 : ∀ (y0 : Int), b_X12_isAsked_29 y0 = some v → Go X 29 ws [] [iv y0] := by
    intro y0 h
    unfold b_X12_isAsked_29 at h
    obtain ⟨hz, h⟩ := qZ_of h
    exact g_zret E hQ hz (Option.some.inj h) rfl gdX12_isAsked_29
  have j28 : b_X12_isAsked_28  = some v → Go X 28 ws [] [] := by
    intro h
    unfold b_X12_isAsked_28 at h
    refine g_iconst E gdX12_isAsked_28 ?_
    exact j29 0 h
  unfold s_X12_isAsked at h
  refine g_iload_n E gdX12_isAsked_0 rfl 0 rfl ?_
  refine g_iconst E gdX12_isAsked_1 ?_
  refine g_bipush E gdX12_isAsked_2 (by decide) ?_
  obtain ⟨r1, hc2, h⟩ := qB_of h
  refine g_Si (r := r1) (As := [iv x0, iv 0, iv 7]) (rest := []) (w := ws) E (c_X12_in l g ws x0 0 7 r1 hc2) okm_X12_in w_1706 w_1705 rfl rfl (Nat.le_of_ble_eq_true rfl) ⟨Nat.le_of_ble_eq_true rfl, Nat.le_of_ble_eq_true rfl⟩ gdX12_isAsked_4 ?_
  refine g_if_eq E 28 gdX12_isAsked_7 (by decide) h (fun h => ?_) (fun h => ?_)
  ·
    refine g_sub E [] rfl ?_
    exact j28  h
  ·
    refine g_iload_n E gdX12_isAsked_10 rfl 1 rfl ?_
    obtain ⟨r3, hc4, h⟩ := qB_of h
    refine g_Si (r := r3) (As := [iv x1]) (rest := []) (w := ws) E (c_X12_isDay l g ws x1 r3 hc4) okm_X12_isDay w_1763 w_1762 rfl rfl (Nat.le_of_ble_eq_true rfl) ⟨Nat.le_of_ble_eq_true rfl, Nat.le_of_ble_eq_true rfl⟩ gdX12_isAsked_11 ?_
    refine g_if_eq E 28 gdX12_isAsked_14 (by decide) h (fun h => ?_) (fun h => ?_)
    ·
      refine g_sub E [] rfl ?_
      exact j28  h
    ·
      refine g_iload_n E gdX12_isAsked_17 rfl 2 rfl ?_
      obtain ⟨r5, hc6, h⟩ := qB_of h
      refine g_Si (r := r5) (As := [iv x2]) (rest := []) (w := ws) E (c_X12_isDay l g ws x2 r5 hc6) okm_X12_isDay w_1763 w_1762 rfl rfl (Nat.le_of_ble_eq_true rfl) ⟨Nat.le_of_ble_eq_true rfl, Nat.le_of_ble_eq_true rfl⟩ gdX12_isAsked_18 ?_
      refine g_if_eq E 28 gdX12_isAsked_21 (by decide) h (fun h => ?_) (fun h => ?_)
      ·
        refine g_sub E [] rfl ?_
        exact j28  h
      ·
        refine g_iconst E gdX12_isAsked_24 ?_
        refine g_goto E 29 gdX12_isAsked_25 (by decide) ?_
        refine g_sub E [] rfl ?_
        exact j29 1 h
set_option maxHeartbeats 4000000 in
set_option maxRecDepth 100000 in
theorem c_X12_force (l : Launch) (g : GG) (ad : Nat → Nat) (o : OO) (x1 : Int) (x2 : Int) (x3 : Int) (v : Int) (h : s_X12_force o x1 x2 x3 = some v) : CI l g yX12_force cX12_force 4 (some .int) 3 64 (wM g ad o) [.ref (ad 0), iv x1, iv x2, iv x3] v (wM g ad o) := by
  refine met_I (by decide) (Nat.le_of_ble_eq_true rfl) ?_
  intro X E hQ
  show Go X 0 (wM g ad o) [(0, .ref (ad 0)), (1, iv x1), (2, iv x2), (3, iv x3)] []
  have j20 : ∀ (y0 : Int), b_X12_force_20 o y0 = some v → Go X 20 (wM g ad o) [] [iv y0] := by
    intro y0 h
    unfold b_X12_force_20 at h
    exact g_iret E hQ (Option.some.inj h) rfl gdX12_force_20
  unfold s_X12_force at h
  refine g_iload_n E gdX12_force_0 rfl 1 rfl ?_
  refine g_iload_n E gdX12_force_1 rfl 2 rfl ?_
  refine g_iload_n E gdX12_force_2 rfl 3 rfl ?_
  obtain ⟨r1, hc2, h⟩ := qB_of h
  refine g_Si (r := r1) (As := [iv x1, iv x2, iv x3]) (rest := []) (w := wM g ad o) E (c_X12_isAsked l g (wM g ad o) x1 x2 x3 r1 hc2) okm_X12_isAsked w_1770 w_1769 rfl rfl (Nat.le_of_ble_eq_true rfl) ⟨Nat.le_of_ble_eq_true rfl, Nat.le_of_ble_eq_true rfl⟩ gdX12_force_3 ?_
  refine g_if_eq E 19 gdX12_force_6 (by decide) h (fun h => ?_) (fun h => ?_)
  ·
    refine g_iconst E gdX12_force_19 ?_
    refine g_sub E [] rfl ?_
    exact j20 (-1) h
  ·
    refine g_aload_n E gdX12_force_9 rfl 0 rfl ?_
    refine g_iload_n E gdX12_force_10 rfl 1 rfl ?_
    refine g_iload_n E gdX12_force_11 rfl 2 rfl ?_
    refine g_iload_n E gdX12_force_12 rfl 3 rfl ?_
    obtain ⟨r3, hc4, h⟩ := qB_of h
    refine g_Vi (r := r3) (As := [iv x1, iv x2, iv x3]) (rest := []) (w := wM g ad o) E (c_X12_inForce l g ad o x1 x2 x3 r3 hc4) okm_X12_inForce okw_X12_inForce w_1772 rfl (wM_0 g ad o) rfl rfl (Nat.le_of_ble_eq_true rfl) ⟨Nat.le_of_ble_eq_true rfl, Nat.le_of_ble_eq_true rfl⟩ gdX12_force_13 ?_
    refine g_goto E 20 gdX12_force_16 (by decide) ?_
    refine g_sub E [] rfl ?_
    exact j20 r3 h
set_option maxHeartbeats 4000000 in
set_option maxRecDepth 100000 in
theorem c_X12_enter (l : Launch) (g : GG) (ad : Nat → Nat) (o : OO) (x1 : Int) (x2 : Int) (v : Int × OO) (h : s_X12_enter o x1 x2 = some v) : CI l g yX12_enter cX12_enter 3 (some .int) 0 0 (wM g ad o) [.ref (ad 0), iv x1, iv x2] v.1 (wM g ad v.2) := by
  refine met_I (by decide) (Nat.le_of_ble_eq_true rfl) ?_
  intro X E hQ
  show Go X 0 (wM g ad o) [(0, .ref (ad 0)), (1, iv x1), (2, iv x2)] []
  unfold s_X12_enter at h
  refine g_aload_n E gdX12_enter_0 rfl 0 rfl ?_
  refine g_get (T := TX12) E fw_X12 0 (wM_0 g ad o) rfl 33 (by decide) w_1499 rfl rfl gdX12_enter_1 ?_
  refine g_aload_n E gdX12_enter_4 rfl 0 rfl ?_
  refine g_get (T := TX12) E fw_X12 0 (wM_0 g ad o) rfl 32 (by decide) w_1498 rfl rfl gdX12_enter_5 ?_
  refine g_iload_n E gdX12_enter_8 rfl 1 rfl ?_
  obtain ⟨hi1, h⟩ := qIn_of h
  obtain ⟨o2, e_o2, h⟩ := qNm_of h
  refine g_iast (ws' := wM g ad o2) E 25 (wM_25 g ad o) (by decide) hi1 (by rw [e_o2]; exact wM_s25 g ad o _ _) gdX12_enter_9 ?_
  refine g_aload_n E gdX12_enter_10 rfl 0 rfl ?_
  refine g_get (T := TX12) E fw_X12 0 (wM_0 g ad o2) rfl 34 (by decide) w_1500 rfl rfl gdX12_enter_11 ?_
  refine g_aload_n E gdX12_enter_14 rfl 0 rfl ?_
  refine g_get (T := TX12) E fw_X12 0 (wM_0 g ad o2) rfl 32 (by decide) w_1498 rfl rfl gdX12_enter_15 ?_
  refine g_aload_n E gdX12_enter_18 rfl 0 rfl ?_
  refine g_get (T := TX12) E fw_X12 0 (wM_0 g ad o2) rfl 4 (by decide) w_1470 rfl rfl gdX12_enter_19 ?_
  obtain ⟨hi3, h⟩ := qIn_of h
  obtain ⟨o4, e_o4, h⟩ := qNm_of h
  refine g_iast (ws' := wM g ad o4) E 26 (wM_26 g ad o2) (by decide) hi3 (by rw [e_o4]; exact wM_s26 g ad o2 _ _) gdX12_enter_22 ?_
  refine g_aload_n E gdX12_enter_23 rfl 0 rfl ?_
  refine g_get (T := TX12) E fw_X12 0 (wM_0 g ad o4) rfl 35 (by decide) w_1501 rfl rfl gdX12_enter_24 ?_
  refine g_aload_n E gdX12_enter_27 rfl 0 rfl ?_
  refine g_get (T := TX12) E fw_X12 0 (wM_0 g ad o4) rfl 32 (by decide) w_1498 rfl rfl gdX12_enter_28 ?_
  refine g_iload_n E gdX12_enter_31 rfl 2 rfl ?_
  obtain ⟨hi5, h⟩ := qIn_of h
  obtain ⟨o6, e_o6, h⟩ := qNm_of h
  refine g_iast (ws' := wM g ad o6) E 27 (wM_27 g ad o4) (by decide) hi5 (by rw [e_o6]; exact wM_s27 g ad o4 _ _) gdX12_enter_32 ?_
  refine g_aload_n E gdX12_enter_33 rfl 0 rfl ?_
  refine g_get (T := TX12) E fw_X12 0 (wM_0 g ad o6) rfl 37 (by decide) w_1503 rfl rfl gdX12_enter_34 ?_
  refine g_aload_n E gdX12_enter_37 rfl 0 rfl ?_
  refine g_get (T := TX12) E fw_X12 0 (wM_0 g ad o6) rfl 32 (by decide) w_1498 rfl rfl gdX12_enter_38 ?_
  refine g_bipush E gdX12_enter_41 (by decide) ?_
  obtain ⟨hi7, h⟩ := qIn_of h
  obtain ⟨o8, e_o8, h⟩ := qNm_of h
  refine g_iast (ws' := wM g ad o8) E 29 (wM_29 g ad o6) (by decide) hi7 (by rw [e_o8]; exact wM_s29 g ad o6 _ _) gdX12_enter_43 ?_
  refine g_aload_n E gdX12_enter_44 rfl 0 rfl ?_
  refine g_get (T := TX12) E fw_X12 0 (wM_0 g ad o8) rfl 38 (by decide) w_1504 rfl rfl gdX12_enter_45 ?_
  refine g_aload_n E gdX12_enter_48 rfl 0 rfl ?_
  refine g_get (T := TX12) E fw_X12 0 (wM_0 g ad o8) rfl 32 (by decide) w_1498 rfl rfl gdX12_enter_49 ?_
  refine g_iconst E gdX12_enter_52 ?_
  obtain ⟨hi9, h⟩ := qIn_of h
  obtain ⟨o10, e_o10, h⟩ := qNm_of h
  refine g_iast (ws' := wM g ad o10) E 30 (wM_30 g ad o8) (by decide) hi9 (by rw [e_o10]; exact wM_s30 g ad o8 _ _) gdX12_enter_53 ?_
  refine g_aload_n E gdX12_enter_54 rfl 0 rfl ?_
  refine g_dup E gdX12_enter_55 rfl ?_
  refine g_get (T := TX12) E fw_X12 0 (wM_0 g ad o10) rfl 32 (by decide) w_1498 rfl rfl gdX12_enter_56 ?_
  refine g_iconst E gdX12_enter_59 ?_
  refine g_iadd E gdX12_enter_60 ?_
  obtain ⟨o11, e_o11, h⟩ := qNm_of h
  refine g_puti (T := TX12) (ws' := wM g ad o11) E fw_X12 tyX12 tyX12_ok nmX12 0 (wM_0 g ad o10) rfl 32 (by decide) w_1498 rfl rfl (by decide +kernel) (Nat.le_of_ble_eq_true rfl) (by rw [e_o11]; exact wM_p0_32 g ad o10 _) gdX12_enter_61 ?_
  refine g_aload_n E gdX12_enter_64 rfl 0 rfl ?_
  refine g_get (T := TX12) E fw_X12 0 (wM_0 g ad o11) rfl 32 (by decide) w_1498 rfl rfl gdX12_enter_65 ?_
  refine g_iconst E gdX12_enter_68 ?_
  refine g_isub E gdX12_enter_69 ?_
  exact g_iret E hQ (by rw [← Option.some.inj h]) (by rw [← Option.some.inj h]) gdX12_enter_70
set_option maxHeartbeats 4000000 in
set_option maxRecDepth 100000 in
theorem c_X12_grant (l : Launch) (g : GG) (ad : Nat → Nat) (o : OO) (x1 : Int) (x2 : Int) (v : Int × OO) (h : s_X12_grant o x1 x2 = some v) : CI l g yX12_grant cX12_grant 4 (some .int) 2 42 (wM g ad o) [.ref (ad 0), iv x1, iv x2] v.1 (wM g ad v.2) := by
  refine met_I (by decide) (Nat.le_of_ble_eq_true rfl) ?_
  intro X E hQ
  show Go X 0 (wM g ad o) [(0, .ref (ad 0)), (1, iv x1), (2, iv x2)] []
  have j17 : ∀ (o : OO), b_X12_grant_17 o = some v → Go X 17 (wM g ad o) [] [] := by
    intro o h
    unfold b_X12_grant_17 at h
    refine g_iconst E gdX12_grant_17 ?_
    exact g_iret E hQ (by rw [← Option.some.inj h]) (by rw [← Option.some.inj h]) gdX12_grant_18
  unfold s_X12_grant at h
  refine g_iload_n E gdX12_grant_0 rfl 1 rfl ?_
  refine g_iconst E gdX12_grant_1 ?_
  refine g_bipush E gdX12_grant_2 (by decide) ?_
  obtain ⟨r1, hc2, h⟩ := qB_of h
  refine g_Si (r := r1) (As := [iv x1, iv 1, iv 10]) (rest := []) (w := wM g ad o) E (c_X12_in l g (wM g ad o) x1 1 10 r1 hc2) okm_X12_in w_1706 w_1705 rfl rfl (Nat.le_of_ble_eq_true rfl) ⟨Nat.le_of_ble_eq_true rfl, Nat.le_of_ble_eq_true rfl⟩ gdX12_grant_4 ?_
  refine g_if_eq E 17 gdX12_grant_7 (by decide) h (fun h => ?_) (fun h => ?_)
  ·
    refine g_sub E [] rfl ?_
    exact j17 o h
  ·
    refine g_iload_n E gdX12_grant_10 rfl 2 rfl ?_
    obtain ⟨r3, hc4, h⟩ := qB_of h
    refine g_Si (r := r3) (As := [iv x2]) (rest := []) (w := wM g ad o) E (c_X12_isDay l g (wM g ad o) x2 r3 hc4) okm_X12_isDay w_1763 w_1762 rfl rfl (Nat.le_of_ble_eq_true rfl) ⟨Nat.le_of_ble_eq_true rfl, Nat.le_of_ble_eq_true rfl⟩ gdX12_grant_11 ?_
    refine g_if_ne E 19 gdX12_grant_14 (by decide) h (fun h => ?_) (fun h => ?_)
    ·
      refine g_aload_n E gdX12_grant_19 rfl 0 rfl ?_
      refine g_get (T := TX12) E fw_X12 0 (wM_0 g ad o) rfl 32 (by decide) w_1498 rfl rfl gdX12_grant_20 ?_
      refine g_bipush E gdX12_grant_23 (by decide) ?_
      refine g_icmp_ne E 31 gdX12_grant_25 (by decide) h (fun h => ?_) (fun h => ?_)
      ·
        refine g_aload_n E gdX12_grant_31 rfl 0 rfl ?_
        refine g_iconst E gdX12_grant_32 ?_
        refine g_bipush E gdX12_grant_33 (by decide) ?_
        obtain ⟨r5, o7, hc6, h⟩ := qB2_of h
        refine g_Vi (r := r5) (As := [iv 5, iv (-9)]) (rest := []) (w := wM g ad o7) E (c_X12_enter l g ad o 5 (-9) (r5, o7) hc6) okm_X12_enter okw_X12_enter w_1895 rfl (wM_0 g ad o) rfl rfl (Nat.le_of_ble_eq_true rfl) ⟨Nat.le_of_ble_eq_true rfl, Nat.le_of_ble_eq_true rfl⟩ gdX12_grant_35 ?_
        refine g_istore_n E [(3, iv r5), (0, .ref (ad 0)), (1, iv x1), (2, iv x2)] gdX12_grant_38 rfl (by decide) rfl ?_
        refine g_aload_n E gdX12_grant_39 rfl 1 rfl ?_
        refine g_get (T := TX12) E fw_X12 0 (wM_0 g ad o7) rfl 43 (by decide) w_1509 rfl rfl gdX12_grant_40 ?_
        refine g_iload_n E gdX12_grant_43 rfl 0 rfl ?_
        refine g_iload_n E gdX12_grant_44 rfl 2 rfl ?_
        obtain ⟨hi8, h⟩ := qIn_of h
        obtain ⟨o9, e_o9, h⟩ := qNm_of h
        refine g_iast (ws' := wM g ad o9) E 35 (wM_35 g ad o7) (by decide) hi8 (by rw [e_o9]; exact wM_s35 g ad o7 _ _) gdX12_grant_45 ?_
        refine g_aload_n E gdX12_grant_46 rfl 1 rfl ?_
        refine g_get (T := TX12) E fw_X12 0 (wM_0 g ad o9) rfl 44 (by decide) w_1510 rfl rfl gdX12_grant_47 ?_
        refine g_iload_n E gdX12_grant_50 rfl 0 rfl ?_
        refine g_iload_n E gdX12_grant_51 rfl 3 rfl ?_
        obtain ⟨hi10, h⟩ := qIn_of h
        obtain ⟨o11, e_o11, h⟩ := qNm_of h
        refine g_iast (ws' := wM g ad o11) E 36 (wM_36 g ad o9) (by decide) hi10 (by rw [e_o11]; exact wM_s36 g ad o9 _ _) gdX12_grant_52 ?_
        refine g_iload_n E gdX12_grant_53 rfl 0 rfl ?_
        exact g_iret E hQ (by rw [← Option.some.inj h]) (by rw [← Option.some.inj h]) gdX12_grant_54
      ·
        refine g_bipush E gdX12_grant_28 (by decide) ?_
        exact g_iret E hQ (by rw [← Option.some.inj h]) (by rw [← Option.some.inj h]) gdX12_grant_30
    ·
      refine g_sub E [] rfl ?_
      exact j17 o h
set_option maxHeartbeats 4000000 in
set_option maxRecDepth 100000 in
theorem c_X12_grants (l : Launch) (g : GG) (ad : Nat → Nat) (o : OO) (x1 : Int) (x2 : Int) (v : Int × OO) (h : s_X12_grants o x1 x2 = some v) : CI l g yX12_grants cX12_grants 4 (some .int) 2 43 (wM g ad o) [.ref (ad 0), iv x1, iv x2] v.1 (wM g ad v.2) := by
  refine met_I (by decide) (Nat.le_of_ble_eq_true rfl) ?_
  intro X E hQ
  show Go X 0 (wM g ad o) [(0, .ref (ad 0)), (1, iv x1), (2, iv x2)] []
  have j16 : ∀ (o : OO), b_X12_grants_16 o = some v → Go X 16 (wM g ad o) [] [] := by
    intro o h
    unfold b_X12_grants_16 at h
    refine g_iconst E gdX12_grants_16 ?_
    exact g_iret E hQ (by rw [← Option.some.inj h]) (by rw [← Option.some.inj h]) gdX12_grants_17
  have j36 : ∀ (o : OO), b_X12_grants_36 o = some v → Go X 36 (wM g ad o) [(0, .ref (ad 0))] [] := by
    intro o h
    unfold b_X12_grants_36 at h
    refine g_aload_n E gdX12_grants_36 rfl 0 rfl ?_
    refine g_iconst E gdX12_grants_37 ?_
    obtain ⟨r1, o3, hc2, h⟩ := qB2_of h
    refine g_Vi (r := r1) (As := [iv 3]) (rest := []) (w := wM g ad o3) E (c_X12_meets l g ad o 3 (r1, o3) hc2) okm_X12_meets okw_X12_meets w_1708 rfl (wM_0 g ad o) rfl rfl (Nat.le_of_ble_eq_true rfl) ⟨Nat.le_of_ble_eq_true rfl, Nat.le_of_ble_eq_true rfl⟩ gdX12_grants_38 ?_
    exact g_iret E hQ (by rw [← Option.some.inj h]) (by rw [← Option.some.inj h]) gdX12_grants_41
  have j110 : ∀ (o : OO) (y1 : Int) (y2 : Int), b_X12_grants_110 o y1 y2 = some v → Go X 110 (wM g ad o) [] [iv y2, iv y1, .ref (ad 0)] := by
    intro o y1 y2 h
    unfold b_X12_grants_110 at h
    obtain ⟨r4, o6, hc5, h⟩ := qB2_of h
    refine g_Vi (r := r4) (As := [iv y1, iv y2]) (rest := []) (w := wM g ad o6) E (c_X12_ask l g ad o y1 y2 (r4, o6) hc5) okm_X12_ask okw_X12_ask w_1835 rfl (wM_0 g ad o) rfl rfl (Nat.le_of_ble_eq_true rfl) ⟨Nat.le_of_ble_eq_true rfl, Nat.le_of_ble_eq_true rfl⟩ gdX12_grants_110 ?_
    exact g_iret E hQ (by rw [← Option.some.inj h]) (by rw [← Option.some.inj h]) gdX12_grants_113
  have j96 : ∀ (o : OO) (x3 : Int) (y1 : Int64), b_X12_grants_96 o x3 y1 = some v → Go X 96 (wM g ad o) [(0, .ref (ad 0)), (3, iv x3)] [.long y1, .ref (ad 0)] := by
    intro o x3 y1 h
    unfold b_X12_grants_96 at h
    obtain ⟨o7, e_o7, h⟩ := qNm_of h
    refine g_putl (T := TX12) (ws' := wM g ad o7) E fw_X12 tyX12 tyX12_ok nmX12 0 (wM_0 g ad o) rfl 64 (by decide) w_1530 rfl rfl (by decide +kernel) (Nat.le_of_ble_eq_true rfl) (by rw [e_o7]; exact wM_p0_64 g ad o _) gdX12_grants_96 ?_
    refine g_aload_n E gdX12_grants_99 rfl 0 rfl ?_
    refine g_iload_n E gdX12_grants_100 rfl 1 rfl ?_
    refine g_iload_n E gdX12_grants_101 rfl 1 rfl ?_
    refine g_if_lt E 109 gdX12_grants_102 (by decide) h (fun h => ?_) (fun h => ?_)
    ·
      refine g_iconst E gdX12_grants_109 ?_
      refine g_sub E [] rfl ?_
      exact j110 o7 x3 0 h
    ·
      refine g_iconst E gdX12_grants_105 ?_
      refine g_goto E 110 gdX12_grants_106 (by decide) ?_
      refine g_sub E [] rfl ?_
      exact j110 o7 x3 1 h
  have j66 : ∀ (o : OO) (x1 : Int) (x2 : Int) (y0 : Int) (y1 : Int), b_X12_grants_66 o x1 x2 y0 y1 = some v → Go X 66 (wM g ad o) [(0, .ref (ad 0)), (1, iv x1), (2, iv x2)] [iv y1, iv y0] := by
    intro o x1 x2 y0 y1 h
    unfold b_X12_grants_66 at h
    refine g_isub E gdX12_grants_66 ?_
    obtain ⟨n8, e_n8, h⟩ := qNm_of h
    refine g_nmi e_n8 ?_
    refine g_istore_n E [(3, iv n8), (0, .ref (ad 0)), (1, iv x1), (2, iv x2)] gdX12_grants_67 rfl (by decide) rfl ?_
    refine g_aload_n E gdX12_grants_68 rfl 1 rfl ?_
    refine g_iload_n E gdX12_grants_69 rfl 0 rfl ?_
    refine g_if_lt E 95 gdX12_grants_70 (by decide) h (fun h => ?_) (fun h => ?_)
    ·
      refine g_lconst (v := 0) E gdX12_grants_95 (by decide) ?_
      refine g_sub E [1, 0] rfl ?_
      exact j96 o n8 (0 : Int64) h
    ·
      refine g_aload_n E gdX12_grants_73 rfl 1 rfl ?_
      refine g_get (T := TX12) E fw_X12 0 (wM_0 g ad o) rfl 36 (by decide) w_1502 rfl rfl gdX12_grants_74 ?_
      refine g_iload_n E gdX12_grants_77 rfl 3 rfl ?_
      obtain ⟨hi9, h⟩ := qIn_of h
      refine g_iald E 28 (wM_28 g ad o) (by decide) hi9 gdX12_grants_78 ?_
      obtain ⟨n10, e_n10, h⟩ := qNm_of h
      refine g_nmi e_n10 ?_
      refine g_i2l E gdX12_grants_79 ?_
      refine g_aload_n E gdX12_grants_80 rfl 1 rfl ?_
      refine g_get (T := TX12) E fw_X12 0 (wM_0 g ad o) rfl 43 (by decide) w_1509 rfl rfl gdX12_grants_81 ?_
      refine g_iload_n E gdX12_grants_84 rfl 2 rfl ?_
      obtain ⟨hi11, h⟩ := qIn_of h
      refine g_iald E 35 (wM_35 g ad o) (by decide) hi11 gdX12_grants_85 ?_
      obtain ⟨n12, e_n12, h⟩ := qNm_of h
      refine g_nmi e_n12 ?_
      refine g_i2l E gdX12_grants_86 ?_
      refine g_lmul E gdX12_grants_87 ?_
      refine g_ldc2 E gdX12_grants_88 w_2086 ?_
      refine g_ldiv E (by decide) gdX12_grants_91 ?_
      refine g_goto E 96 gdX12_grants_92 (by decide) ?_
      refine g_sub E [1, 0] rfl ?_
      exact j96 o n8 (((jl n10) * (jl n12)) / (10 : Int64)) h
  unfold s_X12_grants at h
  refine g_aload_n E gdX12_grants_0 rfl 0 rfl ?_
  refine g_iload_n E gdX12_grants_1 rfl 1 rfl ?_
  obtain ⟨r13, hc14, h⟩ := qB_of h
  refine g_Vi (r := r13) (As := [iv x1]) (rest := []) (w := wM g ad o) E (c_X12_isMark l g ad o x1 r13 hc14) okm_X12_isMark okw_X12_isMark w_1903 rfl (wM_0 g ad o) rfl rfl (Nat.le_of_ble_eq_true rfl) ⟨Nat.le_of_ble_eq_true rfl, Nat.le_of_ble_eq_true rfl⟩ gdX12_grants_2 ?_
  refine g_if_eq E 16 gdX12_grants_5 (by decide) h (fun h => ?_) (fun h => ?_)
  ·
    refine g_sub E [] rfl ?_
    exact j16 o h
  ·
    refine g_aload_n E gdX12_grants_8 rfl 0 rfl ?_
    refine g_iload_n E gdX12_grants_9 rfl 2 rfl ?_
    obtain ⟨r15, hc16, h⟩ := qB_of h
    refine g_Vi (r := r15) (As := [iv x2]) (rest := []) (w := wM g ad o) E (c_X12_isMark l g ad o x2 r15 hc16) okm_X12_isMark okw_X12_isMark w_1903 rfl (wM_0 g ad o) rfl rfl (Nat.le_of_ble_eq_true rfl) ⟨Nat.le_of_ble_eq_true rfl, Nat.le_of_ble_eq_true rfl⟩ gdX12_grants_10 ?_
    refine g_if_ne E 18 gdX12_grants_13 (by decide) h (fun h => ?_) (fun h => ?_)
    ·
      refine g_aload_n E gdX12_grants_18 rfl 0 rfl ?_
      refine g_get (T := TX12) E fw_X12 0 (wM_0 g ad o) rfl 33 (by decide) w_1499 rfl rfl gdX12_grants_19 ?_
      refine g_iload_n E gdX12_grants_22 rfl 1 rfl ?_
      obtain ⟨hi17, h⟩ := qIn_of h
      refine g_iald E 25 (wM_25 g ad o) (by decide) hi17 gdX12_grants_23 ?_
      obtain ⟨n18, e_n18, h⟩ := qNm_of h
      refine g_nmi e_n18 ?_
      refine g_iconst E gdX12_grants_24 ?_
      refine g_icmp_ne E 36 gdX12_grants_25 (by decide) h (fun h => ?_) (fun h => ?_)
      ·
        refine g_sub E [0] rfl ?_
        exact j36 o h
      ·
        refine g_aload_n E gdX12_grants_28 rfl 0 rfl ?_
        refine g_iload_n E gdX12_grants_29 rfl 2 rfl ?_
        obtain ⟨r19, hc20, h⟩ := qB_of h
        refine g_Vi (r := r19) (As := [iv x2]) (rest := []) (w := wM g ad o) E (c_X12_isLine l g ad o x2 r19 hc20) okm_X12_isLine okw_X12_isLine w_1907 rfl (wM_0 g ad o) rfl rfl (Nat.le_of_ble_eq_true rfl) ⟨Nat.le_of_ble_eq_true rfl, Nat.le_of_ble_eq_true rfl⟩ gdX12_grants_30 ?_
        refine g_if_ne E 42 gdX12_grants_33 (by decide) h (fun h => ?_) (fun h => ?_)
        ·
          refine g_aload_n E gdX12_grants_42 rfl 0 rfl ?_
          refine g_get (T := TX12) E fw_X12 0 (wM_0 g ad o) rfl 44 (by decide) w_1510 rfl rfl gdX12_grants_43 ?_
          refine g_iload_n E gdX12_grants_46 rfl 1 rfl ?_
          obtain ⟨hi21, h⟩ := qIn_of h
          refine g_iald E 36 (wM_36 g ad o) (by decide) hi21 gdX12_grants_47 ?_
          obtain ⟨n22, e_n22, h⟩ := qNm_of h
          refine g_nmi e_n22 ?_
          refine g_aload_n E gdX12_grants_48 rfl 0 rfl ?_
          refine g_get (T := TX12) E fw_X12 0 (wM_0 g ad o) rfl 66 (by decide) w_1532 rfl rfl gdX12_grants_49 ?_
          refine g_if_ge E 62 gdX12_grants_52 (by decide) h (fun h => ?_) (fun h => ?_)
          ·
            refine g_aload_n E gdX12_grants_62 rfl 0 rfl ?_
            refine g_get (T := TX12) E fw_X12 0 (wM_0 g ad o) rfl 66 (by decide) w_1532 rfl rfl gdX12_grants_63 ?_
            exact j66 o x1 x2 n22 (o.1 0 66) h
          ·
            refine g_aload_n E gdX12_grants_55 rfl 0 rfl ?_
            refine g_get (T := TX12) E fw_X12 0 (wM_0 g ad o) rfl 4 (by decide) w_1470 rfl rfl gdX12_grants_56 ?_
            refine g_goto E 66 gdX12_grants_59 (by decide) ?_
            exact j66 o x1 x2 n22 (o.1 0 4) h
        ·
          refine g_sub E [0] rfl ?_
          exact j36 o h
    ·
      refine g_sub E [] rfl ?_
      exact j16 o h
