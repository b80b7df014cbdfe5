set_option maxRecDepth 200000 in
theorem w_1936 : Cond.code yX12_isNear cX12_isNear 6 (some .boolean) ∈ tb := tb_mem 1936 (by rfl) rfl
set_option maxRecDepth 200000 in
theorem w_1935 : Cond.instanceMethod yX12_isNear ∈ tb := tb_mem 1935 (by decide +kernel) rfl
set_option maxRecDepth 200000 in
theorem w_64 : Cond.selects "CityRoadModel" yX12_isNear yX12_isNear ∈ tb := tb_mem 64 (by decide +kernel) rfl
set_option maxRecDepth 200000 in
theorem w_1933 : Cond.methodLink "CityRoadModel" 351 yX12_isNear ∈ tb := tb_mem 1933 (by decide +kernel) rfl
set_option maxRecDepth 200000 in
theorem w_1537 : Cond.fieldLink "CityRoadModel" 187 "CityRoadModel" "isBarred" "[Z" ∈ tb := tb_mem 1537 (by decide +kernel) rfl
set_option maxRecDepth 200000 in
theorem w_1540 : Cond.fieldLink "CityRoadModel" 196 "CityRoadModel" "cameFrom" "[I" ∈ tb := tb_mem 1540 (by decide +kernel) rfl
set_option maxRecDepth 200000 in
theorem w_1541 : Cond.fieldLink "CityRoadModel" 199 "CityRoadModel" "queue" "[I" ∈ tb := tb_mem 1541 (by decide +kernel) rfl
set_option maxRecDepth 200000 in
theorem w_1538 : Cond.fieldLink "CityRoadModel" 190 "CityRoadModel" "through" "[I" ∈ tb := tb_mem 1538 (by decide +kernel) rfl
set_option maxRecDepth 200000 in
theorem w_1539 : Cond.fieldLink "CityRoadModel" 193 "CityRoadModel" "along" "[I" ∈ tb := tb_mem 1539 (by decide +kernel) rfl
set_option maxRecDepth 200000 in
theorem w_2105 : Cond.code yX12_wayTo cX12_wayTo 3 (some .int) ∈ tb := tb_mem 2105 (by rfl) rfl
set_option maxRecDepth 200000 in
theorem w_2104 : Cond.static yX12_wayTo ∈ tb := tb_mem 2104 (by decide +kernel) rfl
set_option maxRecDepth 200000 in
theorem w_2103 : Cond.methodLink "CityRoadModel" 424 yX12_wayTo ∈ tb := tb_mem 2103 (by decide +kernel) rfl
set_option maxRecDepth 200000 in
theorem w_2098 : Cond.code yX12_finds cX12_finds 11 (some .boolean) ∈ tb := tb_mem 2098 (by rfl) rfl
set_option maxRecDepth 200000 in
theorem w_2097 : Cond.instanceMethod yX12_finds ∈ tb := tb_mem 2097 (by decide +kernel) rfl
set_option maxRecDepth 200000 in
theorem w_81 : Cond.selects "CityRoadModel" yX12_finds yX12_finds ∈ tb := tb_mem 81 (by decide +kernel) rfl
set_option maxRecDepth 200000 in
theorem w_2095 : Cond.methodLink "CityRoadModel" 431 yX12_finds ∈ tb := tb_mem 2095 (by decide +kernel) rfl
set_option maxRecDepth 200000 in
theorem w_2102 : Cond.code yX12_goAlong cX12_goAlong 7 none ∈ tb := tb_mem 2102 (by rfl) rfl
set_option maxRecDepth 200000 in
theorem w_2101 : Cond.instanceMethod yX12_goAlong ∈ tb := tb_mem 2101 (by decide +kernel) rfl
set_option maxRecDepth 200000 in
theorem w_82 : Cond.selects "CityRoadModel" yX12_goAlong yX12_goAlong ∈ tb := tb_mem 82 (by decide +kernel) rfl
set_option maxRecDepth 200000 in
theorem w_2099 : Cond.methodLink "CityRoadModel" 434 yX12_goAlong ∈ tb := tb_mem 2099 (by decide +kernel) rfl
set_option maxRecDepth 200000 in
theorem w_2094 : Cond.code yX12_comes cX12_comes 11 (some .boolean) ∈ tb := tb_mem 2094 (by rfl) rfl
set_option maxRecDepth 200000 in
theorem w_2093 : Cond.instanceMethod yX12_comes ∈ tb := tb_mem 2093 (by decide +kernel) rfl
set_option maxRecDepth 200000 in
theorem w_80 : Cond.selects "CityRoadModel" yX12_comes yX12_comes ∈ tb := tb_mem 80 (by decide +kernel) rfl
set_option maxRecDepth 200000 in
theorem w_2091 : Cond.methodLink "CityRoadModel" 427 yX12_comes ∈ tb := tb_mem 2091 (by decide +kernel) rfl
set_option maxRecDepth 200000 in
theorem w_1944 : Cond.code yX12_firstValue cX12_firstValue 3 (some .int) ∈ tb := tb_mem 1944 (by rfl) rfl
set_option maxRecDepth 200000 in
theorem w_1943 : Cond.instanceMethod yX12_firstValue ∈ tb := tb_mem 1943 (by decide +kernel) rfl
set_option maxRecDepth 200000 in
theorem w_65 : Cond.selects "CityRoadModel" yX12_firstValue yX12_firstValue ∈ tb := tb_mem 65 (by decide +kernel) rfl
set_option maxRecDepth 200000 in
theorem w_1941 : Cond.methodLink "CityRoadModel" 355 yX12_firstValue ∈ tb := tb_mem 1941 (by decide +kernel) rfl
theorem gdX12_set_0 : decode cX12_set 0 = .ok (.aload_n 0, 1) := by decide +kernel
theorem gdX12_set_1 : decode cX12_set 1 = .ok (.getfield 364, 3) := by decide +kernel
theorem gdX12_set_4 : decode cX12_set 4 = .ok (.lreturn, 1) := by decide +kernel
theorem gdX12_isNear_84 : decode cX12_isNear 84 = .ok (.iload_n 3, 1) := by decide +kernel
theorem gdX12_isNear_85 : decode cX12_isNear 85 = .ok (.ireturn, 1) := by decide +kernel
theorem gdX12_isNear_77 : decode cX12_isNear 77 = .ok (.istore_n 3, 1) := by decide +kernel
theorem gdX12_isNear_78 : decode cX12_isNear 78 = .ok (.iinc 4 1, 3) := by decide +kernel
theorem gdX12_isNear_81 : decode cX12_isNear 81 = .ok (.goto (-76), 3) := by decide +kernel
theorem gdX12_isNear_72 : decode cX12_isNear 72 = .ok (.iconst 1, 1) := by decide +kernel
theorem gdX12_isNear_73 : decode cX12_isNear 73 = .ok (.goto 4, 3) := by decide +kernel
theorem gdX12_isNear_76 : decode cX12_isNear 76 = .ok (.iconst 0, 1) := by decide +kernel
theorem gdX12_isNear_5 : decode cX12_isNear 5 = .ok (.iload 4, 2) := by decide +kernel
theorem gdX12_isNear_7 : decode cX12_isNear 7 = .ok (.aload_n 0, 1) := by decide +kernel
theorem gdX12_isNear_8 : decode cX12_isNear 8 = .ok (.getfield 98, 3) := by decide +kernel
theorem gdX12_isNear_11 : decode cX12_isNear 11 = .ok (.iload_n 1, 1) := by decide +kernel
theorem gdX12_isNear_12 : decode cX12_isNear 12 = .ok (.iaload, 1) := by decide +kernel
theorem gdX12_isNear_13 : decode cX12_isNear 13 = .ok (.if_icmp .ge 71, 3) := by decide +kernel
theorem gdX12_isNear_16 : decode cX12_isNear 16 = .ok (.aload_n 0, 1) := by decide +kernel
theorem gdX12_isNear_17 : decode cX12_isNear 17 = .ok (.getfield 101, 3) := by decide +kernel
theorem gdX12_isNear_20 : decode cX12_isNear 20 = .ok (.bipush 64, 2) := by decide +kernel
theorem gdX12_isNear_22 : decode cX12_isNear 22 = .ok (.iload_n 1, 1) := by decide +kernel
theorem gdX12_isNear_23 : decode cX12_isNear 23 = .ok (.imul, 1) := by decide +kernel
theorem gdX12_isNear_24 : decode cX12_isNear 24 = .ok (.iload 4, 2) := by decide +kernel
theorem gdX12_isNear_26 : decode cX12_isNear 26 = .ok (.iadd, 1) := by decide +kernel
theorem gdX12_isNear_27 : decode cX12_isNear 27 = .ok (.iaload, 1) := by decide +kernel
theorem gdX12_isNear_28 : decode cX12_isNear 28 = .ok (.istore 5, 2) := by decide +kernel
theorem gdX12_isNear_30 : decode cX12_isNear 30 = .ok (.iload_n 3, 1) := by decide +kernel
theorem gdX12_isNear_31 : decode cX12_isNear 31 = .ok (.ifCond .ne 41, 3) := by decide +kernel
theorem gdX12_isNear_34 : decode cX12_isNear 34 = .ok (.iload_n 2, 1) := by decide +kernel
theorem gdX12_isNear_35 : decode cX12_isNear 35 = .ok (.bipush 8, 2) := by decide +kernel
theorem gdX12_isNear_37 : decode cX12_isNear 37 = .ok (.irem, 1) := by decide +kernel
theorem gdX12_isNear_38 : decode cX12_isNear 38 = .ok (.iload 5, 2) := by decide +kernel
theorem gdX12_isNear_40 : decode cX12_isNear 40 = .ok (.bipush 8, 2) := by decide +kernel
theorem gdX12_isNear_42 : decode cX12_isNear 42 = .ok (.irem, 1) := by decide +kernel
theorem gdX12_isNear_43 : decode cX12_isNear 43 = .ok (.isub, 1) := by decide +kernel
theorem gdX12_isNear_44 : decode cX12_isNear 44 = .ok (.bipush (-2), 2) := by decide +kernel
theorem gdX12_isNear_46 : decode cX12_isNear 46 = .ok (.iconst 2, 1) := by decide +kernel
theorem gdX12_isNear_47 : decode cX12_isNear 47 = .ok (.invokestatic 208, 3) := by decide +kernel
theorem gdX12_isNear_50 : decode cX12_isNear 50 = .ok (.ifCond .eq 26, 3) := by decide +kernel
theorem gdX12_isNear_53 : decode cX12_isNear 53 = .ok (.iload_n 2, 1) := by decide +kernel
theorem gdX12_isNear_54 : decode cX12_isNear 54 = .ok (.bipush 8, 2) := by decide +kernel
theorem gdX12_isNear_56 : decode cX12_isNear 56 = .ok (.idiv, 1) := by decide +kernel
theorem gdX12_isNear_57 : decode cX12_isNear 57 = .ok (.iload 5, 2) := by decide +kernel
theorem gdX12_isNear_59 : decode cX12_isNear 59 = .ok (.bipush 8, 2) := by decide +kernel
theorem gdX12_isNear_61 : decode cX12_isNear 61 = .ok (.idiv, 1) := by decide +kernel
theorem gdX12_isNear_62 : decode cX12_isNear 62 = .ok (.isub, 1) := by decide +kernel
theorem gdX12_isNear_63 : decode cX12_isNear 63 = .ok (.bipush (-2), 2) := by decide +kernel
theorem gdX12_isNear_65 : decode cX12_isNear 65 = .ok (.iconst 2, 1) := by decide +kernel
theorem gdX12_isNear_66 : decode cX12_isNear 66 = .ok (.invokestatic 208, 3) := by decide +kernel
theorem gdX12_isNear_69 : decode cX12_isNear 69 = .ok (.ifCond .eq 7, 3) := by decide +kernel
theorem gdX12_isNear_0 : decode cX12_isNear 0 = .ok (.iconst 0, 1) := by decide +kernel
theorem gdX12_isNear_1 : decode cX12_isNear 1 = .ok (.istore_n 3, 1) := by decide +kernel
theorem gdX12_isNear_2 : decode cX12_isNear 2 = .ok (.iconst 0, 1) := by decide +kernel
theorem gdX12_isNear_3 : decode cX12_isNear 3 = .ok (.istore 4, 2) := by decide +kernel
theorem gdX12_show_184 : decode cX12_show 184 = .ok (.aload_n 0, 1) := by decide +kernel
theorem gdX12_show_185 : decode cX12_show 185 = .ok (.getfield 95, 3) := by decide +kernel
theorem gdX12_show_188 : decode cX12_show 188 = .ok (.iload_n 1, 1) := by decide +kernel
theorem gdX12_show_189 : decode cX12_show 189 = .ok (.aload_n 0, 1) := by decide +kernel
theorem gdX12_show_190 : decode cX12_show 190 = .ok (.getfield 229, 3) := by decide +kernel
theorem gdX12_show_193 : decode cX12_show 193 = .ok (.iastore, 1) := by decide +kernel
theorem gdX12_show_194 : decode cX12_show 194 = .ok (.iload_n 3, 1) := by decide +kernel
theorem gdX12_show_195 : decode cX12_show 195 = .ok (.ireturn, 1) := by decide +kernel
theorem gdX12_show_178 : decode cX12_show 178 = .ok (.iinc 5 1, 3) := by decide +kernel
theorem gdX12_show_181 : decode cX12_show 181 = .ok (.goto (-80), 3) := by decide +kernel
theorem gdX12_show_175 : decode cX12_show 175 = .ok (.invokevirtual 270, 3) := by decide +kernel
theorem gdX12_show_101 : decode cX12_show 101 = .ok (.iload 5, 2) := by decide +kernel
theorem gdX12_show_103 : decode cX12_show 103 = .ok (.aload_n 0, 1) := by decide +kernel
theorem gdX12_show_104 : decode cX12_show 104 = .ok (.getfield 254, 3) := by decide +kernel
theorem gdX12_show_107 : decode cX12_show 107 = .ok (.if_icmp .ge 77, 3) := by decide +kernel
theorem gdX12_show_110 : decode cX12_show 110 = .ok (.aload_n 0, 1) := by decide +kernel
theorem gdX12_show_111 : decode cX12_show 111 = .ok (.getfield 55, 3) := by decide +kernel
theorem gdX12_show_114 : decode cX12_show 114 = .ok (.iload 5, 2) := by decide +kernel
theorem gdX12_show_116 : decode cX12_show 116 = .ok (.baload, 1) := by decide +kernel
theorem gdX12_show_117 : decode cX12_show 117 = .ok (.ifCond .ne 61, 3) := by decide +kernel
theorem gdX12_show_120 : decode cX12_show 120 = .ok (.aload_n 0, 1) := by decide +kernel
theorem gdX12_show_121 : decode cX12_show 121 = .ok (.iload_n 1, 1) := by decide +kernel
theorem gdX12_show_122 : decode cX12_show 122 = .ok (.aload_n 0, 1) := by decide +kernel
theorem gdX12_show_123 : decode cX12_show 123 = .ok (.getfield 46, 3) := by decide +kernel
theorem gdX12_show_126 : decode cX12_show 126 = .ok (.iload 5, 2) := by decide +kernel
theorem gdX12_show_128 : decode cX12_show 128 = .ok (.iaload, 1) := by decide +kernel
theorem gdX12_show_129 : decode cX12_show 129 = .ok (.invokevirtual 351, 3) := by decide +kernel
theorem gdX12_show_132 : decode cX12_show 132 = .ok (.ifCond .eq 46, 3) := by decide +kernel
theorem gdX12_show_135 : decode cX12_show 135 = .ok (.aload_n 0, 1) := by decide +kernel
theorem gdX12_show_136 : decode cX12_show 136 = .ok (.iload 5, 2) := by decide +kernel
theorem gdX12_show_138 : decode cX12_show 138 = .ok (.aload_n 0, 1) := by decide +kernel
theorem gdX12_show_139 : decode cX12_show 139 = .ok (.getfield 229, 3) := by decide +kernel
theorem gdX12_show_142 : decode cX12_show 142 = .ok (.invokevirtual 277, 3) := by decide +kernel
theorem gdX12_show_145 : decode cX12_show 145 = .ok (.istore 6, 2) := by decide +kernel
theorem gdX12_show_147 : decode cX12_show 147 = .ok (.iload 6, 2) := by decide +kernel
theorem gdX12_show_149 : decode cX12_show 149 = .ok (.iload 6, 2) := by decide +kernel
theorem gdX12_show_151 : decode cX12_show 151 = .ok (.iload 4, 2) := by decide +kernel
theorem gdX12_show_153 : decode cX12_show 153 = .ok (.imul, 1) := by decide +kernel
theorem gdX12_show_154 : decode cX12_show 154 = .ok (.bipush 100, 2) := by decide +kernel
theorem gdX12_show_156 : decode cX12_show 156 = .ok (.idiv, 1) := by decide +kernel
theorem gdX12_show_157 : decode cX12_show 157 = .ok (.isub, 1) := by decide +kernel
theorem gdX12_show_158 : decode cX12_show 158 = .ok (.istore 7, 2) := by decide +kernel
theorem gdX12_show_160 : decode cX12_show 160 = .ok (.aload_n 0, 1) := by decide +kernel
theorem gdX12_show_161 : decode cX12_show 161 = .ok (.iload 5, 2) := by decide +kernel
theorem gdX12_show_163 : decode cX12_show 163 = .ok (.iload 7, 2) := by decide +kernel
theorem gdX12_show_165 : decode cX12_show 165 = .ok (.iconst 1, 1) := by decide +kernel
theorem gdX12_show_166 : decode cX12_show 166 = .ok (.if_icmp .ge 7, 3) := by decide +kernel
theorem gdX12_show_173 : decode cX12_show 173 = .ok (.iload 7, 2) := by decide +kernel
theorem gdX12_show_169 : decode cX12_show 169 = .ok (.iconst 1, 1) := by decide +kernel
theorem gdX12_show_170 : decode cX12_show 170 = .ok (.goto 5, 3) := by decide +kernel
theorem gdX12_show_77 : decode cX12_show 77 = .ok (.aload_n 0, 1) := by decide +kernel
theorem gdX12_show_78 : decode cX12_show 78 = .ok (.getfield 263, 3) := by decide +kernel
theorem gdX12_show_81 : decode cX12_show 81 = .ok (.iload_n 3, 1) := by decide +kernel
theorem gdX12_show_82 : decode cX12_show 82 = .ok (.iadd, 1) := by decide +kernel
theorem gdX12_show_83 : decode cX12_show 83 = .ok (.bipush 100, 2) := by decide +kernel
theorem gdX12_show_85 : decode cX12_show 85 = .ok (.if_icmp .le 6, 3) := by decide +kernel
theorem gdX12_show_91 : decode cX12_show 91 = .ok (.aload_n 0, 1) := by decide +kernel
theorem gdX12_show_92 : decode cX12_show 92 = .ok (.iconst 1, 1) := by decide +kernel
theorem gdX12_show_93 : decode cX12_show 93 = .ok (.invokevirtual 328, 3) := by decide +kernel
theorem gdX12_show_96 : decode cX12_show 96 = .ok (.istore 4, 2) := by decide +kernel
theorem gdX12_show_98 : decode cX12_show 98 = .ok (.iconst 0, 1) := by decide +kernel
theorem gdX12_show_99 : decode cX12_show 99 = .ok (.istore 5, 2) := by decide +kernel
theorem gdX12_show_88 : decode cX12_show 88 = .ok (.bipush (-2), 2) := by decide +kernel
theorem gdX12_show_90 : decode cX12_show 90 = .ok (.ireturn, 1) := by decide +kernel
theorem gdX12_show_69 : decode cX12_show 69 = .ok (.iadd, 1) := by decide +kernel
theorem gdX12_show_70 : decode cX12_show 70 = .ok (.istore_n 3, 1) := by decide +kernel
theorem gdX12_show_71 : decode cX12_show 71 = .ok (.iinc 4 1, 3) := by decide +kernel
theorem gdX12_show_74 : decode cX12_show 74 = .ok (.goto (-45), 3) := by decide +kernel
theorem gdX12_show_68 : decode cX12_show 68 = .ok (.iconst 0, 1) := by decide +kernel
theorem gdX12_show_29 : decode cX12_show 29 = .ok (.iload 4, 2) := by decide +kernel
theorem gdX12_show_31 : decode cX12_show 31 = .ok (.aload_n 0, 1) := by decide +kernel
theorem gdX12_show_32 : decode cX12_show 32 = .ok (.getfield 254, 3) := by decide +kernel
theorem gdX12_show_35 : decode cX12_show 35 = .ok (.if_icmp .ge 42, 3) := by decide +kernel
theorem gdX12_show_38 : decode cX12_show 38 = .ok (.iload_n 3, 1) := by decide +kernel
theorem gdX12_show_39 : decode cX12_show 39 = .ok (.aload_n 0, 1) := by decide +kernel
theorem gdX12_show_40 : decode cX12_show 40 = .ok (.getfield 55, 3) := by decide +kernel
theorem gdX12_show_43 : decode cX12_show 43 = .ok (.iload 4, 2) := by decide +kernel
theorem gdX12_show_45 : decode cX12_show 45 = .ok (.baload, 1) := by decide +kernel
theorem gdX12_show_46 : decode cX12_show 46 = .ok (.ifCond .ne 22, 3) := by decide +kernel
theorem gdX12_show_49 : decode cX12_show 49 = .ok (.aload_n 0, 1) := by decide +kernel
theorem gdX12_show_50 : decode cX12_show 50 = .ok (.iload_n 1, 1) := by decide +kernel
theorem gdX12_show_51 : decode cX12_show 51 = .ok (.aload_n 0, 1) := by decide +kernel
theorem gdX12_show_52 : decode cX12_show 52 = .ok (.getfield 46, 3) := by decide +kernel
theorem gdX12_show_55 : decode cX12_show 55 = .ok (.iload 4, 2) := by decide +kernel
theorem gdX12_show_57 : decode cX12_show 57 = .ok (.iaload, 1) := by decide +kernel
theorem gdX12_show_58 : decode cX12_show 58 = .ok (.invokevirtual 351, 3) := by decide +kernel
theorem gdX12_show_61 : decode cX12_show 61 = .ok (.ifCond .eq 7, 3) := by decide +kernel
theorem gdX12_show_64 : decode cX12_show 64 = .ok (.iconst 1, 1) := by decide +kernel
theorem gdX12_show_65 : decode cX12_show 65 = .ok (.goto 4, 3) := by decide +kernel
theorem gdX12_show_0 : decode cX12_show 0 = .ok (.aload_n 0, 1) := by decide +kernel
theorem gdX12_show_1 : decode cX12_show 1 = .ok (.iload_n 1, 1) := by decide +kernel
theorem gdX12_show_2 : decode cX12_show 2 = .ok (.invokevirtual 348, 3) := by decide +kernel
theorem gdX12_show_5 : decode cX12_show 5 = .ok (.istore_n 2, 1) := by decide +kernel
theorem gdX12_show_6 : decode cX12_show 6 = .ok (.iload_n 2, 1) := by decide +kernel
theorem gdX12_show_7 : decode cX12_show 7 = .ok (.ifCond .ge 5, 3) := by decide +kernel
theorem gdX12_show_12 : decode cX12_show 12 = .ok (.aload_n 0, 1) := by decide +kernel
theorem gdX12_show_13 : decode cX12_show 13 = .ok (.getfield 95, 3) := by decide +kernel
theorem gdX12_show_16 : decode cX12_show 16 = .ok (.iload_n 1, 1) := by decide +kernel
theorem gdX12_show_17 : decode cX12_show 17 = .ok (.iaload, 1) := by decide +kernel
theorem gdX12_show_18 : decode cX12_show 18 = .ok (.ifCond .lt 6, 3) := by decide +kernel
theorem gdX12_show_24 : decode cX12_show 24 = .ok (.iconst 0, 1) := by decide +kernel
theorem gdX12_show_25 : decode cX12_show 25 = .ok (.istore_n 3, 1) := by decide +kernel
theorem gdX12_show_26 : decode cX12_show 26 = .ok (.iconst 0, 1) := by decide +kernel
theorem gdX12_show_27 : decode cX12_show 27 = .ok (.istore 4, 2) := by decide +kernel
theorem gdX12_show_21 : decode cX12_show 21 = .ok (.bipush (-4), 2) := by decide +kernel
theorem gdX12_show_23 : decode cX12_show 23 = .ok (.ireturn, 1) := by decide +kernel
theorem gdX12_show_10 : decode cX12_show 10 = .ok (.iload_n 2, 1) := by decide +kernel
theorem gdX12_show_11 : decode cX12_show 11 = .ok (.ireturn, 1) := by decide +kernel
theorem gdX12_shown_20 : decode cX12_shown 20 = .ok (.ireturn, 1) := by decide +kernel
theorem gdX12_shown_0 : decode cX12_shown 0 = .ok (.aload_n 0, 1) := by decide +kernel
theorem gdX12_shown_1 : decode cX12_shown 1 = .ok (.iload_n 1, 1) := by decide +kernel
theorem gdX12_shown_2 : decode cX12_shown 2 = .ok (.invokevirtual 348, 3) := by decide +kernel
theorem gdX12_shown_5 : decode cX12_shown 5 = .ok (.istore_n 2, 1) := by decide +kernel
theorem gdX12_shown_6 : decode cX12_shown 6 = .ok (.iload_n 2, 1) := by decide +kernel
theorem gdX12_shown_7 : decode cX12_shown 7 = .ok (.ifCond .ge 7, 3) := by decide +kernel
theorem gdX12_shown_14 : decode cX12_shown 14 = .ok (.aload_n 0, 1) := by decide +kernel
theorem gdX12_shown_15 : decode cX12_shown 15 = .ok (.getfield 95, 3) := by decide +kernel
theorem gdX12_shown_18 : decode cX12_shown 18 = .ok (.iload_n 1, 1) := by decide +kernel
theorem gdX12_shown_19 : decode cX12_shown 19 = .ok (.iaload, 1) := by decide +kernel
theorem gdX12_shown_10 : decode cX12_shown 10 = .ok (.iload_n 2, 1) := by decide +kernel
theorem gdX12_shown_11 : decode cX12_shown 11 = .ok (.goto 9, 3) := by decide +kernel
theorem gdX12_comes_118 : decode cX12_comes 118 = .ok (.lload 5, 2) := by decide +kernel
theorem gdX12_comes_120 : decode cX12_comes 120 = .ok (.iload_n 2, 1) := by decide +kernel
theorem gdX12_comes_121 : decode cX12_comes 121 = .ok (.invokestatic 344, 3) := by decide +kernel
theorem gdX12_comes_124 : decode cX12_comes 124 = .ok (.ireturn, 1) := by decide +kernel
theorem gdX12_comes_115 : decode cX12_comes 115 = .ok (.goto (-107), 3) := by decide +kernel
theorem gdX12_comes_109 : decode cX12_comes 109 = .ok (.iinc 8 1, 3) := by decide +kernel
theorem gdX12_comes_112 : decode cX12_comes 112 = .ok (.goto (-93), 3) := by decide +kernel
theorem gdX12_comes_103 : decode cX12_comes 103 = .ok (.iinc 9 1, 3) := by decide +kernel
theorem gdX12_comes_106 : decode cX12_comes 106 = .ok (.goto (-77), 3) := by decide +kernel
theorem gdX12_comes_91 : decode cX12_comes 91 = .ok (.lload 5, 2) := by decide +kernel
theorem gdX12_comes_93 : decode cX12_comes 93 = .ok (.lconst 1, 1) := by decide +kernel
theorem gdX12_comes_94 : decode cX12_comes 94 = .ok (.iload 10, 2) := by decide +kernel
theorem gdX12_comes_96 : decode cX12_comes 96 = .ok (.lshl, 1) := by decide +kernel
theorem gdX12_comes_97 : decode cX12_comes 97 = .ok (.lor, 1) := by decide +kernel
theorem gdX12_comes_98 : decode cX12_comes 98 = .ok (.lstore 5, 2) := by decide +kernel
theorem gdX12_comes_100 : decode cX12_comes 100 = .ok (.iconst 1, 1) := by decide +kernel
theorem gdX12_comes_101 : decode cX12_comes 101 = .ok (.istore 7, 2) := by decide +kernel
theorem gdX12_comes_29 : decode cX12_comes 29 = .ok (.iload 9, 2) := by decide +kernel
theorem gdX12_comes_31 : decode cX12_comes 31 = .ok (.iconst 4, 1) := by decide +kernel
theorem gdX12_comes_32 : decode cX12_comes 32 = .ok (.if_icmp .ge 77, 3) := by decide +kernel
theorem gdX12_comes_35 : decode cX12_comes 35 = .ok (.iload 8, 2) := by decide +kernel
theorem gdX12_comes_37 : decode cX12_comes 37 = .ok (.iload 9, 2) := by decide +kernel
theorem gdX12_comes_39 : decode cX12_comes 39 = .ok (.invokestatic 315, 3) := by decide +kernel
theorem gdX12_comes_42 : decode cX12_comes 42 = .ok (.istore 10, 2) := by decide +kernel
theorem gdX12_comes_44 : decode cX12_comes 44 = .ok (.lload 5, 2) := by decide +kernel
theorem gdX12_comes_46 : decode cX12_comes 46 = .ok (.iload 8, 2) := by decide +kernel
theorem gdX12_comes_48 : decode cX12_comes 48 = .ok (.invokestatic 344, 3) := by decide +kernel
theorem gdX12_comes_51 : decode cX12_comes 51 = .ok (.ifCond .eq 52, 3) := by decide +kernel
theorem gdX12_comes_54 : decode cX12_comes 54 = .ok (.aload_n 0, 1) := by decide +kernel
theorem gdX12_comes_55 : decode cX12_comes 55 = .ok (.iload 8, 2) := by decide +kernel
theorem gdX12_comes_57 : decode cX12_comes 57 = .ok (.iload 10, 2) := by decide +kernel
theorem gdX12_comes_59 : decode cX12_comes 59 = .ok (.iload_n 3, 1) := by decide +kernel
theorem gdX12_comes_60 : decode cX12_comes 60 = .ok (.invokevirtual 318, 3) := by decide +kernel
theorem gdX12_comes_63 : decode cX12_comes 63 = .ok (.ifCond .eq 40, 3) := by decide +kernel
theorem gdX12_comes_66 : decode cX12_comes 66 = .ok (.lload 5, 2) := by decide +kernel
theorem gdX12_comes_68 : decode cX12_comes 68 = .ok (.iload 10, 2) := by decide +kernel
theorem gdX12_comes_70 : decode cX12_comes 70 = .ok (.invokestatic 344, 3) := by decide +kernel
theorem gdX12_comes_73 : decode cX12_comes 73 = .ok (.ifCond .ne 30, 3) := by decide +kernel
theorem gdX12_comes_76 : decode cX12_comes 76 = .ok (.iload 4, 2) := by decide +kernel
theorem gdX12_comes_78 : decode cX12_comes 78 = .ok (.ifCond .ne 13, 3) := by decide +kernel
theorem gdX12_comes_81 : decode cX12_comes 81 = .ok (.aload_n 0, 1) := by decide +kernel
theorem gdX12_comes_82 : decode cX12_comes 82 = .ok (.getfield 187, 3) := by decide +kernel
theorem gdX12_comes_85 : decode cX12_comes 85 = .ok (.iload 10, 2) := by decide +kernel
theorem gdX12_comes_87 : decode cX12_comes 87 = .ok (.baload, 1) := by decide +kernel
theorem gdX12_comes_88 : decode cX12_comes 88 = .ok (.ifCond .ne 15, 3) := by decide +kernel
theorem gdX12_comes_19 : decode cX12_comes 19 = .ok (.iload 8, 2) := by decide +kernel
theorem gdX12_comes_21 : decode cX12_comes 21 = .ok (.bipush 64, 2) := by decide +kernel
theorem gdX12_comes_23 : decode cX12_comes 23 = .ok (.if_icmp .ge 92, 3) := by decide +kernel
theorem gdX12_comes_26 : decode cX12_comes 26 = .ok (.iconst 0, 1) := by decide +kernel
theorem gdX12_comes_27 : decode cX12_comes 27 = .ok (.istore 9, 2) := by decide +kernel
theorem gdX12_comes_8 : decode cX12_comes 8 = .ok (.iload 7, 2) := by decide +kernel
theorem gdX12_comes_10 : decode cX12_comes 10 = .ok (.ifCond .eq 108, 3) := by decide +kernel
theorem gdX12_comes_13 : decode cX12_comes 13 = .ok (.iconst 0, 1) := by decide +kernel
theorem gdX12_comes_14 : decode cX12_comes 14 = .ok (.istore 7, 2) := by decide +kernel
theorem gdX12_comes_16 : decode cX12_comes 16 = .ok (.iconst 0, 1) := by decide +kernel
theorem gdX12_comes_17 : decode cX12_comes 17 = .ok (.istore 8, 2) := by decide +kernel
theorem gdX12_comes_0 : decode cX12_comes 0 = .ok (.lconst 1, 1) := by decide +kernel
theorem gdX12_comes_1 : decode cX12_comes 1 = .ok (.iload_n 1, 1) := by decide +kernel
theorem gdX12_comes_2 : decode cX12_comes 2 = .ok (.lshl, 1) := by decide +kernel
theorem gdX12_comes_3 : decode cX12_comes 3 = .ok (.lstore 5, 2) := by decide +kernel
theorem gdX12_comes_5 : decode cX12_comes 5 = .ok (.iconst 1, 1) := by decide +kernel
theorem gdX12_comes_6 : decode cX12_comes 6 = .ok (.istore 7, 2) := by decide +kernel
theorem gdX12_finds_346 : decode cX12_finds 346 = .ok (.ireturn, 1) := by decide +kernel
theorem gdX12_finds_330 : decode cX12_finds 330 = .ok (.aload_n 0, 1) := by decide +kernel
theorem gdX12_finds_331 : decode cX12_finds 331 = .ok (.getfield 196, 3) := by decide +kernel
theorem gdX12_finds_334 : decode cX12_finds 334 = .ok (.iconst 2, 1) := by decide +kernel
theorem gdX12_finds_335 : decode cX12_finds 335 = .ok (.iload_n 2, 1) := by decide +kernel
theorem gdX12_finds_336 : decode cX12_finds 336 = .ok (.imul, 1) := by decide +kernel
theorem gdX12_finds_337 : decode cX12_finds 337 = .ok (.iaload, 1) := by decide +kernel
theorem gdX12_finds_338 : decode cX12_finds 338 = .ok (.ifCond .lt 7, 3) := by decide +kernel
theorem gdX12_finds_345 : decode cX12_finds 345 = .ok (.iconst 0, 1) := by decide +kernel
theorem gdX12_finds_341 : decode cX12_finds 341 = .ok (.iconst 1, 1) := by decide +kernel
theorem gdX12_finds_342 : decode cX12_finds 342 = .ok (.goto 4, 3) := by decide +kernel
theorem gdX12_finds_327 : decode cX12_finds 327 = .ok (.goto (-269), 3) := by decide +kernel
theorem gdX12_finds_283 : decode cX12_finds 283 = .ok (.istore 9, 2) := by decide +kernel
theorem gdX12_finds_285 : decode cX12_finds 285 = .ok (.iload 8, 2) := by decide +kernel
theorem gdX12_finds_287 : decode cX12_finds 287 = .ok (.ifCond .eq 40, 3) := by decide +kernel
theorem gdX12_finds_290 : decode cX12_finds 290 = .ok (.iload 7, 2) := by decide +kernel
theorem gdX12_finds_292 : decode cX12_finds 292 = .ok (.iload_n 2, 1) := by decide +kernel
theorem gdX12_finds_293 : decode cX12_finds 293 = .ok (.if_icmp .eq 34, 3) := by decide +kernel
theorem gdX12_finds_296 : decode cX12_finds 296 = .ok (.aload_n 0, 1) := by decide +kernel
theorem gdX12_finds_297 : decode cX12_finds 297 = .ok (.getfield 196, 3) := by decide +kernel
theorem gdX12_finds_300 : decode cX12_finds 300 = .ok (.iload 9, 2) := by decide +kernel
theorem gdX12_finds_302 : decode cX12_finds 302 = .ok (.iaload, 1) := by decide +kernel
theorem gdX12_finds_303 : decode cX12_finds 303 = .ok (.ifCond .ge 24, 3) := by decide +kernel
theorem gdX12_finds_306 : decode cX12_finds 306 = .ok (.aload_n 0, 1) := by decide +kernel
theorem gdX12_finds_307 : decode cX12_finds 307 = .ok (.getfield 196, 3) := by decide +kernel
theorem gdX12_finds_310 : decode cX12_finds 310 = .ok (.iload 9, 2) := by decide +kernel
theorem gdX12_finds_312 : decode cX12_finds 312 = .ok (.iload 6, 2) := by decide +kernel
theorem gdX12_finds_314 : decode cX12_finds 314 = .ok (.iastore, 1) := by decide +kernel
theorem gdX12_finds_315 : decode cX12_finds 315 = .ok (.aload_n 0, 1) := by decide +kernel
theorem gdX12_finds_316 : decode cX12_finds 316 = .ok (.getfield 199, 3) := by decide +kernel
theorem gdX12_finds_319 : decode cX12_finds 319 = .ok (.iload 5, 2) := by decide +kernel
theorem gdX12_finds_321 : decode cX12_finds 321 = .ok (.iload 9, 2) := by decide +kernel
theorem gdX12_finds_323 : decode cX12_finds 323 = .ok (.iastore, 1) := by decide +kernel
theorem gdX12_finds_324 : decode cX12_finds 324 = .ok (.iinc 5 1, 3) := by decide +kernel
theorem gdX12_finds_263 : decode cX12_finds 263 = .ok (.istore 8, 2) := by decide +kernel
theorem gdX12_finds_265 : decode cX12_finds 265 = .ok (.iload 6, 2) := by decide +kernel
theorem gdX12_finds_267 : decode cX12_finds 267 = .ok (.iconst 2, 1) := by decide +kernel
theorem gdX12_finds_268 : decode cX12_finds 268 = .ok (.irem, 1) := by decide +kernel
theorem gdX12_finds_269 : decode cX12_finds 269 = .ok (.ifCond .ne 10, 3) := by decide +kernel
theorem gdX12_finds_279 : decode cX12_finds 279 = .ok (.iload 6, 2) := by decide +kernel
theorem gdX12_finds_281 : decode cX12_finds 281 = .ok (.iconst 1, 1) := by decide +kernel
theorem gdX12_finds_282 : decode cX12_finds 282 = .ok (.isub, 1) := by decide +kernel
theorem gdX12_finds_272 : decode cX12_finds 272 = .ok (.iload 6, 2) := by decide +kernel
theorem gdX12_finds_274 : decode cX12_finds 274 = .ok (.iconst 1, 1) := by decide +kernel
theorem gdX12_finds_275 : decode cX12_finds 275 = .ok (.iadd, 1) := by decide +kernel
theorem gdX12_finds_276 : decode cX12_finds 276 = .ok (.goto 7, 3) := by decide +kernel
theorem gdX12_finds_240 : decode cX12_finds 240 = .ok (.iconst 1, 1) := by decide +kernel
theorem gdX12_finds_241 : decode cX12_finds 241 = .ok (.goto 22, 3) := by decide +kernel
theorem gdX12_finds_213 : decode cX12_finds 213 = .ok (.iload 6, 2) := by decide +kernel
theorem gdX12_finds_215 : decode cX12_finds 215 = .ok (.iconst 2, 1) := by decide +kernel
theorem gdX12_finds_216 : decode cX12_finds 216 = .ok (.irem, 1) := by decide +kernel
theorem gdX12_finds_217 : decode cX12_finds 217 = .ok (.ifCond .ne 31, 3) := by decide +kernel
theorem gdX12_finds_248 : decode cX12_finds 248 = .ok (.aload_n 0, 1) := by decide +kernel
theorem gdX12_finds_249 : decode cX12_finds 249 = .ok (.getfield 190, 3) := by decide +kernel
theorem gdX12_finds_252 : decode cX12_finds 252 = .ok (.iload 7, 2) := by decide +kernel
theorem gdX12_finds_254 : decode cX12_finds 254 = .ok (.iaload, 1) := by decide +kernel
theorem gdX12_finds_255 : decode cX12_finds 255 = .ok (.ifCond .le 7, 3) := by decide +kernel
theorem gdX12_finds_262 : decode cX12_finds 262 = .ok (.iconst 0, 1) := by decide +kernel
theorem gdX12_finds_258 : decode cX12_finds 258 = .ok (.iconst 1, 1) := by decide +kernel
theorem gdX12_finds_259 : decode cX12_finds 259 = .ok (.goto 4, 3) := by decide +kernel
theorem gdX12_finds_220 : decode cX12_finds 220 = .ok (.aload_n 0, 1) := by decide +kernel
theorem gdX12_finds_221 : decode cX12_finds 221 = .ok (.getfield 187, 3) := by decide +kernel
theorem gdX12_finds_224 : decode cX12_finds 224 = .ok (.iload 7, 2) := by decide +kernel
theorem gdX12_finds_226 : decode cX12_finds 226 = .ok (.baload, 1) := by decide +kernel
theorem gdX12_finds_227 : decode cX12_finds 227 = .ok (.ifCond .eq 13, 3) := by decide +kernel
theorem gdX12_finds_230 : decode cX12_finds 230 = .ok (.aload_n 0, 1) := by decide +kernel
theorem gdX12_finds_231 : decode cX12_finds 231 = .ok (.getfield 190, 3) := by decide +kernel
theorem gdX12_finds_234 : decode cX12_finds 234 = .ok (.iload 7, 2) := by decide +kernel
theorem gdX12_finds_236 : decode cX12_finds 236 = .ok (.iaload, 1) := by decide +kernel
theorem gdX12_finds_237 : decode cX12_finds 237 = .ok (.ifCond .ne 7, 3) := by decide +kernel
theorem gdX12_finds_244 : decode cX12_finds 244 = .ok (.iconst 0, 1) := by decide +kernel
theorem gdX12_finds_245 : decode cX12_finds 245 = .ok (.goto 18, 3) := by decide +kernel
theorem gdX12_finds_207 : decode cX12_finds 207 = .ok (.iinc 8 1, 3) := by decide +kernel
theorem gdX12_finds_210 : decode cX12_finds 210 = .ok (.goto (-124), 3) := by decide +kernel
theorem gdX12_finds_169 : decode cX12_finds 169 = .ok (.istore 10, 2) := by decide +kernel
theorem gdX12_finds_171 : decode cX12_finds 171 = .ok (.iload 10, 2) := by decide +kernel
theorem gdX12_finds_173 : decode cX12_finds 173 = .ok (.ifCond .lt 34, 3) := by decide +kernel
theorem gdX12_finds_176 : decode cX12_finds 176 = .ok (.aload_n 0, 1) := by decide +kernel
theorem gdX12_finds_177 : decode cX12_finds 177 = .ok (.getfield 196, 3) := by decide +kernel
theorem gdX12_finds_180 : decode cX12_finds 180 = .ok (.iload 10, 2) := by decide +kernel
theorem gdX12_finds_182 : decode cX12_finds 182 = .ok (.iaload, 1) := by decide +kernel
theorem gdX12_finds_183 : decode cX12_finds 183 = .ok (.ifCond .ge 24, 3) := by decide +kernel
theorem gdX12_finds_186 : decode cX12_finds 186 = .ok (.aload_n 0, 1) := by decide +kernel
theorem gdX12_finds_187 : decode cX12_finds 187 = .ok (.getfield 196, 3) := by decide +kernel
theorem gdX12_finds_190 : decode cX12_finds 190 = .ok (.iload 10, 2) := by decide +kernel
theorem gdX12_finds_192 : decode cX12_finds 192 = .ok (.iload 6, 2) := by decide +kernel
theorem gdX12_finds_194 : decode cX12_finds 194 = .ok (.iastore, 1) := by decide +kernel
theorem gdX12_finds_195 : decode cX12_finds 195 = .ok (.aload_n 0, 1) := by decide +kernel
theorem gdX12_finds_196 : decode cX12_finds 196 = .ok (.getfield 199, 3) := by decide +kernel
theorem gdX12_finds_199 : decode cX12_finds 199 = .ok (.iload 5, 2) := by decide +kernel
theorem gdX12_finds_201 : decode cX12_finds 201 = .ok (.iload 10, 2) := by decide +kernel
theorem gdX12_finds_203 : decode cX12_finds 203 = .ok (.iastore, 1) := by decide +kernel
theorem gdX12_finds_204 : decode cX12_finds 204 = .ok (.iinc 5 1, 3) := by decide +kernel
theorem gdX12_finds_86 : decode cX12_finds 86 = .ok (.iload 8, 2) := by decide +kernel
theorem gdX12_finds_88 : decode cX12_finds 88 = .ok (.iconst 4, 1) := by decide +kernel
theorem gdX12_finds_89 : decode cX12_finds 89 = .ok (.if_icmp .ge 124, 3) := by decide +kernel
theorem gdX12_finds_92 : decode cX12_finds 92 = .ok (.iload 7, 2) := by decide +kernel
theorem gdX12_finds_94 : decode cX12_finds 94 = .ok (.iload 8, 2) := by decide +kernel
theorem gdX12_finds_96 : decode cX12_finds 96 = .ok (.invokestatic 315, 3) := by decide +kernel
theorem gdX12_finds_99 : decode cX12_finds 99 = .ok (.istore 9, 2) := by decide +kernel
theorem gdX12_finds_101 : decode cX12_finds 101 = .ok (.iload 9, 2) := by decide +kernel
theorem gdX12_finds_103 : decode cX12_finds 103 = .ok (.ifCond .ge 6, 3) := by decide +kernel
theorem gdX12_finds_109 : decode cX12_finds 109 = .ok (.iload 6, 2) := by decide +kernel
theorem gdX12_finds_111 : decode cX12_finds 111 = .ok (.iconst 2, 1) := by decide +kernel
theorem gdX12_finds_112 : decode cX12_finds 112 = .ok (.irem, 1) := by decide +kernel
theorem gdX12_finds_113 : decode cX12_finds 113 = .ok (.iconst 1, 1) := by decide +kernel
theorem gdX12_finds_114 : decode cX12_finds 114 = .ok (.if_icmp .ne 27, 3) := by decide +kernel
theorem gdX12_finds_141 : decode cX12_finds 141 = .ok (.aload_n 0, 1) := by decide +kernel
theorem gdX12_finds_142 : decode cX12_finds 142 = .ok (.getfield 193, 3) := by decide +kernel
theorem gdX12_finds_145 : decode cX12_finds 145 = .ok (.iconst 4, 1) := by decide +kernel
theorem gdX12_finds_146 : decode cX12_finds 146 = .ok (.iload 9, 2) := by decide +kernel
theorem gdX12_finds_148 : decode cX12_finds 148 = .ok (.imul, 1) := by decide +kernel
theorem gdX12_finds_149 : decode cX12_finds 149 = .ok (.iconst 3, 1) := by decide +kernel
theorem gdX12_finds_150 : decode cX12_finds 150 = .ok (.iadd, 1) := by decide +kernel
theorem gdX12_finds_151 : decode cX12_finds 151 = .ok (.iload 8, 2) := by decide +kernel
theorem gdX12_finds_153 : decode cX12_finds 153 = .ok (.isub, 1) := by decide +kernel
theorem gdX12_finds_154 : decode cX12_finds 154 = .ok (.iaload, 1) := by decide +kernel
theorem gdX12_finds_155 : decode cX12_finds 155 = .ok (.ifCond .le 12, 3) := by decide +kernel
theorem gdX12_finds_167 : decode cX12_finds 167 = .ok (.bipush (-9), 2) := by decide +kernel
theorem gdX12_finds_158 : decode cX12_finds 158 = .ok (.iconst 2, 1) := by decide +kernel
theorem gdX12_finds_159 : decode cX12_finds 159 = .ok (.iload 9, 2) := by decide +kernel
theorem gdX12_finds_161 : decode cX12_finds 161 = .ok (.imul, 1) := by decide +kernel
theorem gdX12_finds_162 : decode cX12_finds 162 = .ok (.iconst 1, 1) := by decide +kernel
theorem gdX12_finds_163 : decode cX12_finds 163 = .ok (.iadd, 1) := by decide +kernel
theorem gdX12_finds_164 : decode cX12_finds 164 = .ok (.goto 5, 3) := by decide +kernel
theorem gdX12_finds_117 : decode cX12_finds 117 = .ok (.aload_n 0, 1) := by decide +kernel
theorem gdX12_finds_118 : decode cX12_finds 118 = .ok (.iload 7, 2) := by decide +kernel
theorem gdX12_finds_120 : decode cX12_finds 120 = .ok (.iload 9, 2) := by decide +kernel
theorem gdX12_finds_122 : decode cX12_finds 122 = .ok (.iload_n 3, 1) := by decide +kernel
theorem gdX12_finds_123 : decode cX12_finds 123 = .ok (.invokevirtual 318, 3) := by decide +kernel
theorem gdX12_finds_126 : decode cX12_finds 126 = .ok (.ifCond .eq 10, 3) := by decide +kernel
theorem gdX12_finds_136 : decode cX12_finds 136 = .ok (.bipush (-9), 2) := by decide +kernel
theorem gdX12_finds_138 : decode cX12_finds 138 = .ok (.goto 31, 3) := by decide +kernel
theorem gdX12_finds_129 : decode cX12_finds 129 = .ok (.iconst 2, 1) := by decide +kernel
theorem gdX12_finds_130 : decode cX12_finds 130 = .ok (.iload 9, 2) := by decide +kernel
theorem gdX12_finds_132 : decode cX12_finds 132 = .ok (.imul, 1) := by decide +kernel
theorem gdX12_finds_133 : decode cX12_finds 133 = .ok (.goto 36, 3) := by decide +kernel
theorem gdX12_finds_106 : decode cX12_finds 106 = .ok (.goto 101, 3) := by decide +kernel
theorem gdX12_finds_58 : decode cX12_finds 58 = .ok (.iload 4, 2) := by decide +kernel
theorem gdX12_finds_60 : decode cX12_finds 60 = .ok (.iload 5, 2) := by decide +kernel
theorem gdX12_finds_62 : decode cX12_finds 62 = .ok (.if_icmp .ge 268, 3) := by decide +kernel
theorem gdX12_finds_65 : decode cX12_finds 65 = .ok (.aload_n 0, 1) := by decide +kernel
theorem gdX12_finds_66 : decode cX12_finds 66 = .ok (.getfield 199, 3) := by decide +kernel
theorem gdX12_finds_69 : decode cX12_finds 69 = .ok (.iload 4, 2) := by decide +kernel
theorem gdX12_finds_71 : decode cX12_finds 71 = .ok (.iaload, 1) := by decide +kernel
theorem gdX12_finds_72 : decode cX12_finds 72 = .ok (.istore 6, 2) := by decide +kernel
theorem gdX12_finds_74 : decode cX12_finds 74 = .ok (.iload 6, 2) := by decide +kernel
theorem gdX12_finds_76 : decode cX12_finds 76 = .ok (.iconst 2, 1) := by decide +kernel
theorem gdX12_finds_77 : decode cX12_finds 77 = .ok (.idiv, 1) := by decide +kernel
theorem gdX12_finds_78 : decode cX12_finds 78 = .ok (.istore 7, 2) := by decide +kernel
theorem gdX12_finds_80 : decode cX12_finds 80 = .ok (.iinc 4 1, 3) := by decide +kernel
theorem gdX12_finds_83 : decode cX12_finds 83 = .ok (.iconst 0, 1) := by decide +kernel
theorem gdX12_finds_84 : decode cX12_finds 84 = .ok (.istore 8, 2) := by decide +kernel
theorem gdX12_finds_26 : decode cX12_finds 26 = .ok (.iconst 0, 1) := by decide +kernel
theorem gdX12_finds_27 : decode cX12_finds 27 = .ok (.istore 4, 2) := by decide +kernel
theorem gdX12_finds_29 : decode cX12_finds 29 = .ok (.iconst 1, 1) := by decide +kernel
theorem gdX12_finds_30 : decode cX12_finds 30 = .ok (.istore 5, 2) := by decide +kernel
theorem gdX12_finds_32 : decode cX12_finds 32 = .ok (.aload_n 0, 1) := by decide +kernel
theorem gdX12_finds_33 : decode cX12_finds 33 = .ok (.getfield 199, 3) := by decide +kernel
theorem gdX12_finds_36 : decode cX12_finds 36 = .ok (.iconst 0, 1) := by decide +kernel
theorem gdX12_finds_37 : decode cX12_finds 37 = .ok (.iconst 2, 1) := by decide +kernel
theorem gdX12_finds_38 : decode cX12_finds 38 = .ok (.iload_n 1, 1) := by decide +kernel
theorem gdX12_finds_39 : decode cX12_finds 39 = .ok (.imul, 1) := by decide +kernel
theorem gdX12_finds_40 : decode cX12_finds 40 = .ok (.iconst 1, 1) := by decide +kernel
theorem gdX12_finds_41 : decode cX12_finds 41 = .ok (.iadd, 1) := by decide +kernel
theorem gdX12_finds_42 : decode cX12_finds 42 = .ok (.iastore, 1) := by decide +kernel
theorem gdX12_finds_43 : decode cX12_finds 43 = .ok (.aload_n 0, 1) := by decide +kernel
theorem gdX12_finds_44 : decode cX12_finds 44 = .ok (.getfield 196, 3) := by decide +kernel
theorem gdX12_finds_47 : decode cX12_finds 47 = .ok (.iconst 2, 1) := by decide +kernel
theorem gdX12_finds_48 : decode cX12_finds 48 = .ok (.iload_n 1, 1) := by decide +kernel
theorem gdX12_finds_49 : decode cX12_finds 49 = .ok (.imul, 1) := by decide +kernel
theorem gdX12_finds_50 : decode cX12_finds 50 = .ok (.iconst 1, 1) := by decide +kernel
theorem gdX12_finds_51 : decode cX12_finds 51 = .ok (.iadd, 1) := by decide +kernel
theorem gdX12_finds_52 : decode cX12_finds 52 = .ok (.iconst 2, 1) := by decide +kernel
theorem gdX12_finds_53 : decode cX12_finds 53 = .ok (.iload_n 1, 1) := by decide +kernel
theorem gdX12_finds_54 : decode cX12_finds 54 = .ok (.imul, 1) := by decide +kernel
theorem gdX12_finds_55 : decode cX12_finds 55 = .ok (.iconst 1, 1) := by decide +kernel
theorem gdX12_finds_56 : decode cX12_finds 56 = .ok (.iadd, 1) := by decide +kernel
theorem gdX12_finds_57 : decode cX12_finds 57 = .ok (.iastore, 1) := by decide +kernel
theorem gdX12_finds_3 : decode cX12_finds 3 = .ok (.iload 4, 2) := by decide +kernel
theorem gdX12_finds_5 : decode cX12_finds 5 = .ok (.sipush 128, 3) := by decide +kernel
theorem gdX12_finds_8 : decode cX12_finds 8 = .ok (.if_icmp .ge 18, 3) := by decide +kernel
theorem gdX12_finds_11 : decode cX12_finds 11 = .ok (.aload_n 0, 1) := by decide +kernel
theorem gdX12_finds_12 : decode cX12_finds 12 = .ok (.getfield 196, 3) := by decide +kernel
theorem gdX12_finds_15 : decode cX12_finds 15 = .ok (.iload 4, 2) := by decide +kernel
theorem gdX12_finds_17 : decode cX12_finds 17 = .ok (.bipush (-9), 2) := by decide +kernel
theorem gdX12_finds_19 : decode cX12_finds 19 = .ok (.iastore, 1) := by decide +kernel
theorem gdX12_finds_20 : decode cX12_finds 20 = .ok (.iinc 4 1, 3) := by decide +kernel
theorem gdX12_finds_23 : decode cX12_finds 23 = .ok (.goto (-20), 3) := by decide +kernel
theorem gdX12_finds_0 : decode cX12_finds 0 = .ok (.iconst 0, 1) := by decide +kernel
theorem gdX12_finds_1 : decode cX12_finds 1 = .ok (.istore 4, 2) := by decide +kernel
theorem gdX12_wayTo_17 : decode cX12_wayTo 17 = .ok (.iload_n 2, 1) := by decide +kernel
theorem gdX12_wayTo_18 : decode cX12_wayTo 18 = .ok (.ireturn, 1) := by decide +kernel
theorem gdX12_wayTo_2 : decode cX12_wayTo 2 = .ok (.iload_n 0, 1) := by decide +kernel
theorem gdX12_wayTo_3 : decode cX12_wayTo 3 = .ok (.iload_n 2, 1) := by decide +kernel
theorem gdX12_wayTo_4 : decode cX12_wayTo 4 = .ok (.invokestatic 315, 3) := by decide +kernel
theorem gdX12_wayTo_7 : decode cX12_wayTo 7 = .ok (.iload_n 1, 1) := by decide +kernel
theorem gdX12_wayTo_8 : decode cX12_wayTo 8 = .ok (.if_icmp .eq 9, 3) := by decide +kernel
theorem gdX12_wayTo_11 : decode cX12_wayTo 11 = .ok (.iinc 2 1, 3) := by decide +kernel
theorem gdX12_wayTo_14 : decode cX12_wayTo 14 = .ok (.goto (-12), 3) := by decide +kernel
theorem gdX12_wayTo_0 : decode cX12_wayTo 0 = .ok (.iconst 0, 1) := by decide +kernel
theorem gdX12_wayTo_1 : decode cX12_wayTo 1 = .ok (.istore_n 2, 1) := by decide +kernel
theorem gdX12_goAlong_123 : decode cX12_goAlong 123 = .ok (.return_, 1) := by decide +kernel
theorem gdX12_goAlong_117 : decode cX12_goAlong 117 = .ok (.iload 4, 2) := by decide +kernel
theorem gdX12_goAlong_119 : decode cX12_goAlong 119 = .ok (.istore_n 3, 1) := by decide +kernel
theorem gdX12_goAlong_120 : decode cX12_goAlong 120 = .ok (.goto (-116), 3) := by decide +kernel
theorem gdX12_goAlong_59 : decode cX12_goAlong 59 = .ok (.iadd, 1) := by decide +kernel
theorem gdX12_goAlong_60 : decode cX12_goAlong 60 = .ok (.iastore, 1) := by decide +kernel
theorem gdX12_goAlong_61 : decode cX12_goAlong 61 = .ok (.goto 56, 3) := by decide +kernel
theorem gdX12_goAlong_4 : decode cX12_goAlong 4 = .ok (.iload_n 3, 1) := by decide +kernel
theorem gdX12_goAlong_5 : decode cX12_goAlong 5 = .ok (.iconst 2, 1) := by decide +kernel
theorem gdX12_goAlong_6 : decode cX12_goAlong 6 = .ok (.iload_n 1, 1) := by decide +kernel
theorem gdX12_goAlong_7 : decode cX12_goAlong 7 = .ok (.imul, 1) := by decide +kernel
theorem gdX12_goAlong_8 : decode cX12_goAlong 8 = .ok (.iconst 1, 1) := by decide +kernel
theorem gdX12_goAlong_9 : decode cX12_goAlong 9 = .ok (.iadd, 1) := by decide +kernel
theorem gdX12_goAlong_10 : decode cX12_goAlong 10 = .ok (.if_icmp .eq 113, 3) := by decide +kernel
theorem gdX12_goAlong_13 : decode cX12_goAlong 13 = .ok (.aload_n 0, 1) := by decide +kernel
theorem gdX12_goAlong_14 : decode cX12_goAlong 14 = .ok (.getfield 196, 3) := by decide +kernel
theorem gdX12_goAlong_17 : decode cX12_goAlong 17 = .ok (.iload_n 3, 1) := by decide +kernel
theorem gdX12_goAlong_18 : decode cX12_goAlong 18 = .ok (.iaload, 1) := by decide +kernel
theorem gdX12_goAlong_19 : decode cX12_goAlong 19 = .ok (.istore 4, 2) := by decide +kernel
theorem gdX12_goAlong_21 : decode cX12_goAlong 21 = .ok (.iload 4, 2) := by decide +kernel
theorem gdX12_goAlong_23 : decode cX12_goAlong 23 = .ok (.iconst 2, 1) := by decide +kernel
theorem gdX12_goAlong_24 : decode cX12_goAlong 24 = .ok (.idiv, 1) := by decide +kernel
theorem gdX12_goAlong_25 : decode cX12_goAlong 25 = .ok (.istore 5, 2) := by decide +kernel
theorem gdX12_goAlong_27 : decode cX12_goAlong 27 = .ok (.iload_n 3, 1) := by decide +kernel
theorem gdX12_goAlong_28 : decode cX12_goAlong 28 = .ok (.iconst 2, 1) := by decide +kernel
theorem gdX12_goAlong_29 : decode cX12_goAlong 29 = .ok (.idiv, 1) := by decide +kernel
theorem gdX12_goAlong_30 : decode cX12_goAlong 30 = .ok (.istore 6, 2) := by decide +kernel
theorem gdX12_goAlong_32 : decode cX12_goAlong 32 = .ok (.iload 5, 2) := by decide +kernel
theorem gdX12_goAlong_34 : decode cX12_goAlong 34 = .ok (.iload 6, 2) := by decide +kernel
theorem gdX12_goAlong_36 : decode cX12_goAlong 36 = .ok (.if_icmp .ne 28, 3) := by decide +kernel
theorem gdX12_goAlong_64 : decode cX12_goAlong 64 = .ok (.iload 4, 2) := by decide +kernel
theorem gdX12_goAlong_66 : decode cX12_goAlong 66 = .ok (.iconst 2, 1) := by decide +kernel
theorem gdX12_goAlong_67 : decode cX12_goAlong 67 = .ok (.irem, 1) := by decide +kernel
theorem gdX12_goAlong_68 : decode cX12_goAlong 68 = .ok (.iconst 1, 1) := by decide +kernel
theorem gdX12_goAlong_69 : decode cX12_goAlong 69 = .ok (.if_icmp .ne 27, 3) := by decide +kernel
theorem gdX12_goAlong_96 : decode cX12_goAlong 96 = .ok (.aload_n 0, 1) := by decide +kernel
theorem gdX12_goAlong_97 : decode cX12_goAlong 97 = .ok (.getfield 193, 3) := by decide +kernel
theorem gdX12_goAlong_100 : decode cX12_goAlong 100 = .ok (.iconst 4, 1) := by decide +kernel
theorem gdX12_goAlong_101 : decode cX12_goAlong 101 = .ok (.iload 6, 2) := by decide +kernel
theorem gdX12_goAlong_103 : decode cX12_goAlong 103 = .ok (.imul, 1) := by decide +kernel
theorem gdX12_goAlong_104 : decode cX12_goAlong 104 = .ok (.iload 6, 2) := by decide +kernel
theorem gdX12_goAlong_106 : decode cX12_goAlong 106 = .ok (.iload 5, 2) := by decide +kernel
theorem gdX12_goAlong_108 : decode cX12_goAlong 108 = .ok (.invokestatic 424, 3) := by decide +kernel
theorem gdX12_goAlong_111 : decode cX12_goAlong 111 = .ok (.iadd, 1) := by decide +kernel
theorem gdX12_goAlong_112 : decode cX12_goAlong 112 = .ok (.dup2, 1) := by decide +kernel
theorem gdX12_goAlong_113 : decode cX12_goAlong 113 = .ok (.iaload, 1) := by decide +kernel
theorem gdX12_goAlong_114 : decode cX12_goAlong 114 = .ok (.iconst 1, 1) := by decide +kernel
theorem gdX12_goAlong_115 : decode cX12_goAlong 115 = .ok (.isub, 1) := by decide +kernel
theorem gdX12_goAlong_116 : decode cX12_goAlong 116 = .ok (.iastore, 1) := by decide +kernel
theorem gdX12_goAlong_72 : decode cX12_goAlong 72 = .ok (.aload_n 0, 1) := by decide +kernel
theorem gdX12_goAlong_73 : decode cX12_goAlong 73 = .ok (.getfield 193, 3) := by decide +kernel
theorem gdX12_goAlong_76 : decode cX12_goAlong 76 = .ok (.iconst 4, 1) := by decide +kernel
theorem gdX12_goAlong_77 : decode cX12_goAlong 77 = .ok (.iload 5, 2) := by decide +kernel
theorem gdX12_goAlong_79 : decode cX12_goAlong 79 = .ok (.imul, 1) := by decide +kernel
theorem gdX12_goAlong_80 : decode cX12_goAlong 80 = .ok (.iload 5, 2) := by decide +kernel
theorem gdX12_goAlong_82 : decode cX12_goAlong 82 = .ok (.iload 6, 2) := by decide +kernel
theorem gdX12_goAlong_84 : decode cX12_goAlong 84 = .ok (.invokestatic 424, 3) := by decide +kernel
theorem gdX12_goAlong_87 : decode cX12_goAlong 87 = .ok (.iadd, 1) := by decide +kernel
theorem gdX12_goAlong_88 : decode cX12_goAlong 88 = .ok (.dup2, 1) := by decide +kernel
theorem gdX12_goAlong_89 : decode cX12_goAlong 89 = .ok (.iaload, 1) := by decide +kernel
theorem gdX12_goAlong_90 : decode cX12_goAlong 90 = .ok (.iconst 1, 1) := by decide +kernel
theorem gdX12_goAlong_91 : decode cX12_goAlong 91 = .ok (.iadd, 1) := by decide +kernel
theorem gdX12_goAlong_92 : decode cX12_goAlong 92 = .ok (.iastore, 1) := by decide +kernel
theorem gdX12_goAlong_93 : decode cX12_goAlong 93 = .ok (.goto 24, 3) := by decide +kernel
theorem gdX12_goAlong_39 : decode cX12_goAlong 39 = .ok (.aload_n 0, 1) := by decide +kernel
theorem gdX12_goAlong_40 : decode cX12_goAlong 40 = .ok (.getfield 190, 3) := by decide +kernel
theorem gdX12_goAlong_43 : decode cX12_goAlong 43 = .ok (.iload 5, 2) := by decide +kernel
theorem gdX12_goAlong_45 : decode cX12_goAlong 45 = .ok (.dup2, 1) := by decide +kernel
theorem gdX12_goAlong_46 : decode cX12_goAlong 46 = .ok (.iaload, 1) := by decide +kernel
theorem gdX12_goAlong_47 : decode cX12_goAlong 47 = .ok (.iload_n 3, 1) := by decide +kernel
theorem gdX12_goAlong_48 : decode cX12_goAlong 48 = .ok (.iconst 2, 1) := by decide +kernel
theorem gdX12_goAlong_49 : decode cX12_goAlong 49 = .ok (.irem, 1) := by decide +kernel
theorem gdX12_goAlong_50 : decode cX12_goAlong 50 = .ok (.iconst 1, 1) := by decide +kernel
theorem gdX12_goAlong_51 : decode cX12_goAlong 51 = .ok (.if_icmp .ne 7, 3) := by decide +kernel
theorem gdX12_goAlong_58 : decode cX12_goAlong 58 = .ok (.iconst (-1), 1) := by decide +kernel
theorem gdX12_goAlong_54 : decode cX12_goAlong 54 = .ok (.iconst 1, 1) := by decide +kernel
theorem gdX12_goAlong_55 : decode cX12_goAlong 55 = .ok (.goto 4, 3) := by decide +kernel
theorem gdX12_goAlong_0 : decode cX12_goAlong 0 = .ok (.iconst 2, 1) := by decide +kernel
theorem gdX12_goAlong_1 : decode cX12_goAlong 1 = .ok (.iload_n 2, 1) := by decide +kernel
theorem gdX12_goAlong_2 : decode cX12_goAlong 2 = .ok (.imul, 1) := by decide +kernel
theorem gdX12_goAlong_3 : decode cX12_goAlong 3 = .ok (.istore_n 3, 1) := by decide +kernel
theorem gdX12_stop_19 : decode cX12_stop 19 = .ok (.iconst (-1), 1) := by decide +kernel
theorem gdX12_stop_20 : decode cX12_stop 20 = .ok (.ireturn, 1) := by decide +kernel
theorem gdX12_stop_41 : decode cX12_stop 41 = .ok (.bipush (-4), 2) := by decide +kernel
theorem gdX12_stop_43 : decode cX12_stop 43 = .ok (.ireturn, 1) := by decide +kernel
theorem gdX12_stop_277 : decode cX12_stop 277 = .ok (.iload 4, 2) := by decide +kernel
theorem gdX12_stop_279 : decode cX12_stop 279 = .ok (.ireturn, 1) := by decide +kernel
theorem gdX12_stop_267 : decode cX12_stop 267 = .ok (.lor, 1) := by decide +kernel
theorem gdX12_stop_268 : decode cX12_stop 268 = .ok (.putfield 364, 3) := by decide +kernel
theorem gdX12_stop_271 : decode cX12_stop 271 = .ok (.iinc 5 1, 3) := by decide +kernel
theorem gdX12_stop_274 : decode cX12_stop 274 = .ok (.goto (-75), 3) := by decide +kernel
theorem gdX12_stop_247 : decode cX12_stop 247 = .ok (.istore 6, 2) := by decide +kernel
theorem gdX12_stop_249 : decode cX12_stop 249 = .ok (.aload_n 0, 1) := by decide +kernel
theorem gdX12_stop_250 : decode cX12_stop 250 = .ok (.dup, 1) := by decide +kernel
theorem gdX12_stop_251 : decode cX12_stop 251 = .ok (.getfield 364, 3) := by decide +kernel
theorem gdX12_stop_254 : decode cX12_stop 254 = .ok (.iload 6, 2) := by decide +kernel
theorem gdX12_stop_256 : decode cX12_stop 256 = .ok (.ifCond .eq 10, 3) := by decide +kernel
theorem gdX12_stop_266 : decode cX12_stop 266 = .ok (.lconst 0, 1) := by decide +kernel
theorem gdX12_stop_259 : decode cX12_stop 259 = .ok (.lconst 1, 1) := by decide +kernel
theorem gdX12_stop_260 : decode cX12_stop 260 = .ok (.iload 5, 2) := by decide +kernel
theorem gdX12_stop_262 : decode cX12_stop 262 = .ok (.lshl, 1) := by decide +kernel
theorem gdX12_stop_263 : decode cX12_stop 263 = .ok (.goto 4, 3) := by decide +kernel
theorem gdX12_stop_246 : decode cX12_stop 246 = .ok (.iconst 0, 1) := by decide +kernel
theorem gdX12_stop_199 : decode cX12_stop 199 = .ok (.iload 5, 2) := by decide +kernel
theorem gdX12_stop_201 : decode cX12_stop 201 = .ok (.bipush 64, 2) := by decide +kernel
theorem gdX12_stop_203 : decode cX12_stop 203 = .ok (.if_icmp .ge 74, 3) := by decide +kernel
theorem gdX12_stop_206 : decode cX12_stop 206 = .ok (.aload_n 0, 1) := by decide +kernel
theorem gdX12_stop_207 : decode cX12_stop 207 = .ok (.getfield 187, 3) := by decide +kernel
theorem gdX12_stop_210 : decode cX12_stop 210 = .ok (.iload 5, 2) := by decide +kernel
theorem gdX12_stop_212 : decode cX12_stop 212 = .ok (.baload, 1) := by decide +kernel
theorem gdX12_stop_213 : decode cX12_stop 213 = .ok (.ifCond .eq 33, 3) := by decide +kernel
theorem gdX12_stop_216 : decode cX12_stop 216 = .ok (.aload_n 0, 1) := by decide +kernel
theorem gdX12_stop_217 : decode cX12_stop 217 = .ok (.getfield 196, 3) := by decide +kernel
theorem gdX12_stop_220 : decode cX12_stop 220 = .ok (.iconst 2, 1) := by decide +kernel
theorem gdX12_stop_221 : decode cX12_stop 221 = .ok (.iload 5, 2) := by decide +kernel
theorem gdX12_stop_223 : decode cX12_stop 223 = .ok (.imul, 1) := by decide +kernel
theorem gdX12_stop_224 : decode cX12_stop 224 = .ok (.iaload, 1) := by decide +kernel
theorem gdX12_stop_225 : decode cX12_stop 225 = .ok (.ifCond .lt 21, 3) := by decide +kernel
theorem gdX12_stop_228 : decode cX12_stop 228 = .ok (.aload_n 0, 1) := by decide +kernel
theorem gdX12_stop_229 : decode cX12_stop 229 = .ok (.getfield 196, 3) := by decide +kernel
theorem gdX12_stop_232 : decode cX12_stop 232 = .ok (.iconst 2, 1) := by decide +kernel
theorem gdX12_stop_233 : decode cX12_stop 233 = .ok (.iload 5, 2) := by decide +kernel
theorem gdX12_stop_235 : decode cX12_stop 235 = .ok (.imul, 1) := by decide +kernel
theorem gdX12_stop_236 : decode cX12_stop 236 = .ok (.iconst 1, 1) := by decide +kernel
theorem gdX12_stop_237 : decode cX12_stop 237 = .ok (.iadd, 1) := by decide +kernel
theorem gdX12_stop_238 : decode cX12_stop 238 = .ok (.iaload, 1) := by decide +kernel
theorem gdX12_stop_239 : decode cX12_stop 239 = .ok (.ifCond .ge 7, 3) := by decide +kernel
theorem gdX12_stop_242 : decode cX12_stop 242 = .ok (.iconst 1, 1) := by decide +kernel
theorem gdX12_stop_243 : decode cX12_stop 243 = .ok (.goto 4, 3) := by decide +kernel
theorem gdX12_stop_191 : decode cX12_stop 191 = .ok (.aload_n 0, 1) := by decide +kernel
theorem gdX12_stop_192 : decode cX12_stop 192 = .ok (.lconst 0, 1) := by decide +kernel
theorem gdX12_stop_193 : decode cX12_stop 193 = .ok (.putfield 364, 3) := by decide +kernel
theorem gdX12_stop_196 : decode cX12_stop 196 = .ok (.iconst 0, 1) := by decide +kernel
theorem gdX12_stop_197 : decode cX12_stop 197 = .ok (.istore 5, 2) := by decide +kernel
theorem gdX12_stop_169 : decode cX12_stop 169 = .ok (.aload_n 0, 1) := by decide +kernel
theorem gdX12_stop_170 : decode cX12_stop 170 = .ok (.iload_n 1, 1) := by decide +kernel
theorem gdX12_stop_171 : decode cX12_stop 171 = .ok (.iload_n 2, 1) := by decide +kernel
theorem gdX12_stop_172 : decode cX12_stop 172 = .ok (.iload_n 3, 1) := by decide +kernel
theorem gdX12_stop_173 : decode cX12_stop 173 = .ok (.invokevirtual 431, 3) := by decide +kernel
theorem gdX12_stop_176 : decode cX12_stop 176 = .ok (.ifCond .eq 15, 3) := by decide +kernel
theorem gdX12_stop_179 : decode cX12_stop 179 = .ok (.aload_n 0, 1) := by decide +kernel
theorem gdX12_stop_180 : decode cX12_stop 180 = .ok (.iload_n 1, 1) := by decide +kernel
theorem gdX12_stop_181 : decode cX12_stop 181 = .ok (.iload_n 2, 1) := by decide +kernel
theorem gdX12_stop_182 : decode cX12_stop 182 = .ok (.invokevirtual 434, 3) := by decide +kernel
theorem gdX12_stop_185 : decode cX12_stop 185 = .ok (.iinc 4 1, 3) := by decide +kernel
theorem gdX12_stop_188 : decode cX12_stop 188 = .ok (.goto (-19), 3) := by decide +kernel
theorem gdX12_stop_135 : decode cX12_stop 135 = .ok (.aload_n 0, 1) := by decide +kernel
theorem gdX12_stop_136 : decode cX12_stop 136 = .ok (.iload_n 1, 1) := by decide +kernel
theorem gdX12_stop_137 : decode cX12_stop 137 = .ok (.iload_n 2, 1) := by decide +kernel
theorem gdX12_stop_138 : decode cX12_stop 138 = .ok (.iload_n 3, 1) := by decide +kernel
theorem gdX12_stop_139 : decode cX12_stop 139 = .ok (.iconst 1, 1) := by decide +kernel
theorem gdX12_stop_140 : decode cX12_stop 140 = .ok (.invokevirtual 427, 3) := by decide +kernel
theorem gdX12_stop_143 : decode cX12_stop 143 = .ok (.ifCond .ne 9, 3) := by decide +kernel
theorem gdX12_stop_152 : decode cX12_stop 152 = .ok (.aload_n 0, 1) := by decide +kernel
theorem gdX12_stop_153 : decode cX12_stop 153 = .ok (.iload_n 1, 1) := by decide +kernel
theorem gdX12_stop_154 : decode cX12_stop 154 = .ok (.iload_n 2, 1) := by decide +kernel
theorem gdX12_stop_155 : decode cX12_stop 155 = .ok (.iload_n 3, 1) := by decide +kernel
theorem gdX12_stop_156 : decode cX12_stop 156 = .ok (.iconst 0, 1) := by decide +kernel
theorem gdX12_stop_157 : decode cX12_stop 157 = .ok (.invokevirtual 427, 3) := by decide +kernel
theorem gdX12_stop_160 : decode cX12_stop 160 = .ok (.ifCond .eq 6, 3) := by decide +kernel
theorem gdX12_stop_166 : decode cX12_stop 166 = .ok (.iconst 0, 1) := by decide +kernel
theorem gdX12_stop_167 : decode cX12_stop 167 = .ok (.istore 4, 2) := by decide +kernel
theorem gdX12_stop_163 : decode cX12_stop 163 = .ok (.bipush (-9), 2) := by decide +kernel
theorem gdX12_stop_165 : decode cX12_stop 165 = .ok (.ireturn, 1) := by decide +kernel
theorem gdX12_stop_146 : decode cX12_stop 146 = .ok (.aload_n 0, 1) := by decide +kernel
theorem gdX12_stop_147 : decode cX12_stop 147 = .ok (.iconst 1, 1) := by decide +kernel
theorem gdX12_stop_148 : decode cX12_stop 148 = .ok (.invokevirtual 216, 3) := by decide +kernel
theorem gdX12_stop_151 : decode cX12_stop 151 = .ok (.ireturn, 1) := by decide +kernel
theorem gdX12_stop_129 : decode cX12_stop 129 = .ok (.iinc 4 1, 3) := by decide +kernel
theorem gdX12_stop_132 : decode cX12_stop 132 = .ok (.goto (-79), 3) := by decide +kernel
theorem gdX12_stop_104 : decode cX12_stop 104 = .ok (.iload 5, 2) := by decide +kernel
theorem gdX12_stop_106 : decode cX12_stop 106 = .ok (.iconst 4, 1) := by decide +kernel
theorem gdX12_stop_107 : decode cX12_stop 107 = .ok (.if_icmp .ge 22, 3) := by decide +kernel
theorem gdX12_stop_110 : decode cX12_stop 110 = .ok (.aload_n 0, 1) := by decide +kernel
theorem gdX12_stop_111 : decode cX12_stop 111 = .ok (.getfield 193, 3) := by decide +kernel
theorem gdX12_stop_114 : decode cX12_stop 114 = .ok (.iconst 4, 1) := by decide +kernel
theorem gdX12_stop_115 : decode cX12_stop 115 = .ok (.iload 4, 2) := by decide +kernel
theorem gdX12_stop_117 : decode cX12_stop 117 = .ok (.imul, 1) := by decide +kernel
theorem gdX12_stop_118 : decode cX12_stop 118 = .ok (.iload 5, 2) := by decide +kernel
theorem gdX12_stop_120 : decode cX12_stop 120 = .ok (.iadd, 1) := by decide +kernel
theorem gdX12_stop_121 : decode cX12_stop 121 = .ok (.iconst 0, 1) := by decide +kernel
theorem gdX12_stop_122 : decode cX12_stop 122 = .ok (.iastore, 1) := by decide +kernel
theorem gdX12_stop_123 : decode cX12_stop 123 = .ok (.iinc 5 1, 3) := by decide +kernel
theorem gdX12_stop_126 : decode cX12_stop 126 = .ok (.goto (-22), 3) := by decide +kernel
theorem gdX12_stop_92 : decode cX12_stop 92 = .ok (.bastore, 1) := by decide +kernel
theorem gdX12_stop_93 : decode cX12_stop 93 = .ok (.aload_n 0, 1) := by decide +kernel
theorem gdX12_stop_94 : decode cX12_stop 94 = .ok (.getfield 190, 3) := by decide +kernel
theorem gdX12_stop_97 : decode cX12_stop 97 = .ok (.iload 4, 2) := by decide +kernel
theorem gdX12_stop_99 : decode cX12_stop 99 = .ok (.iconst 0, 1) := by decide +kernel
theorem gdX12_stop_100 : decode cX12_stop 100 = .ok (.iastore, 1) := by decide +kernel
theorem gdX12_stop_101 : decode cX12_stop 101 = .ok (.iconst 0, 1) := by decide +kernel
theorem gdX12_stop_102 : decode cX12_stop 102 = .ok (.istore 5, 2) := by decide +kernel
theorem gdX12_stop_91 : decode cX12_stop 91 = .ok (.iconst 0, 1) := by decide +kernel
theorem gdX12_stop_53 : decode cX12_stop 53 = .ok (.iload 4, 2) := by decide +kernel
theorem gdX12_stop_55 : decode cX12_stop 55 = .ok (.bipush 64, 2) := by decide +kernel
theorem gdX12_stop_57 : decode cX12_stop 57 = .ok (.if_icmp .ge 78, 3) := by decide +kernel
theorem gdX12_stop_60 : decode cX12_stop 60 = .ok (.aload_n 0, 1) := by decide +kernel
theorem gdX12_stop_61 : decode cX12_stop 61 = .ok (.getfield 187, 3) := by decide +kernel
theorem gdX12_stop_64 : decode cX12_stop 64 = .ok (.iload 4, 2) := by decide +kernel
theorem gdX12_stop_66 : decode cX12_stop 66 = .ok (.iload 4, 2) := by decide +kernel
theorem gdX12_stop_68 : decode cX12_stop 68 = .ok (.iload_n 1, 1) := by decide +kernel
theorem gdX12_stop_69 : decode cX12_stop 69 = .ok (.if_icmp .eq 22, 3) := by decide +kernel
theorem gdX12_stop_72 : decode cX12_stop 72 = .ok (.iload 4, 2) := by decide +kernel
theorem gdX12_stop_74 : decode cX12_stop 74 = .ok (.iload_n 2, 1) := by decide +kernel
theorem gdX12_stop_75 : decode cX12_stop 75 = .ok (.if_icmp .eq 16, 3) := by decide +kernel
theorem gdX12_stop_78 : decode cX12_stop 78 = .ok (.aload_n 0, 1) := by decide +kernel
theorem gdX12_stop_79 : decode cX12_stop 79 = .ok (.iload 4, 2) := by decide +kernel
theorem gdX12_stop_81 : decode cX12_stop 81 = .ok (.invokevirtual 260, 3) := by decide +kernel
theorem gdX12_stop_84 : decode cX12_stop 84 = .ok (.ifCond .lt 7, 3) := by decide +kernel
theorem gdX12_stop_87 : decode cX12_stop 87 = .ok (.iconst 1, 1) := by decide +kernel
theorem gdX12_stop_88 : decode cX12_stop 88 = .ok (.goto 4, 3) := by decide +kernel
theorem gdX12_stop_0 : decode cX12_stop 0 = .ok (.iload_n 1, 1) := by decide +kernel
theorem gdX12_stop_1 : decode cX12_stop 1 = .ok (.invokestatic 257, 3) := by decide +kernel
theorem gdX12_stop_4 : decode cX12_stop 4 = .ok (.ifCond .eq 15, 3) := by decide +kernel
theorem gdX12_stop_7 : decode cX12_stop 7 = .ok (.iload_n 2, 1) := by decide +kernel
theorem gdX12_stop_8 : decode cX12_stop 8 = .ok (.invokestatic 257, 3) := by decide +kernel
theorem gdX12_stop_11 : decode cX12_stop 11 = .ok (.ifCond .eq 8, 3) := by decide +kernel
theorem gdX12_stop_14 : decode cX12_stop 14 = .ok (.iload_n 1, 1) := by decide +kernel
theorem gdX12_stop_15 : decode cX12_stop 15 = .ok (.iload_n 2, 1) := by decide +kernel
theorem gdX12_stop_16 : decode cX12_stop 16 = .ok (.if_icmp .ne 5, 3) := by decide +kernel
theorem gdX12_stop_21 : decode cX12_stop 21 = .ok (.aload_n 0, 1) := by decide +kernel
theorem gdX12_stop_22 : decode cX12_stop 22 = .ok (.getfield 40, 3) := by decide +kernel
theorem gdX12_stop_25 : decode cX12_stop 25 = .ok (.iload_n 1, 1) := by decide +kernel
theorem gdX12_stop_26 : decode cX12_stop 26 = .ok (.iaload, 1) := by decide +kernel
theorem gdX12_stop_27 : decode cX12_stop 27 = .ok (.iconst 4, 1) := by decide +kernel
theorem gdX12_stop_28 : decode cX12_stop 28 = .ok (.if_icmp .eq 13, 3) := by decide +kernel
theorem gdX12_stop_31 : decode cX12_stop 31 = .ok (.aload_n 0, 1) := by decide +kernel
theorem gdX12_stop_32 : decode cX12_stop 32 = .ok (.getfield 40, 3) := by decide +kernel
theorem gdX12_stop_35 : decode cX12_stop 35 = .ok (.iload_n 2, 1) := by decide +kernel
theorem gdX12_stop_36 : decode cX12_stop 36 = .ok (.iaload, 1) := by decide +kernel
theorem gdX12_stop_37 : decode cX12_stop 37 = .ok (.iconst 4, 1) := by decide +kernel
theorem gdX12_stop_38 : decode cX12_stop 38 = .ok (.if_icmp .ne 6, 3) := by decide +kernel
theorem gdX12_stop_44 : decode cX12_stop 44 = .ok (.aload_n 0, 1) := by decide +kernel
theorem gdX12_stop_45 : decode cX12_stop 45 = .ok (.iconst 0, 1) := by decide +kernel
theorem gdX12_stop_46 : decode cX12_stop 46 = .ok (.invokevirtual 328, 3) := by decide +kernel
theorem gdX12_stop_49 : decode cX12_stop 49 = .ok (.istore_n 3, 1) := by decide +kernel
theorem gdX12_stop_50 : decode cX12_stop 50 = .ok (.iconst 0, 1) := by decide +kernel
theorem gdX12_stop_51 : decode cX12_stop 51 = .ok (.istore 4, 2) := by decide +kernel
theorem gdX12_firstValue_18 : decode cX12_firstValue 18 = .ok (.aload_n 0, 1) := by decide +kernel
theorem gdX12_firstValue_19 : decode cX12_firstValue 19 = .ok (.getfield 68, 3) := by decide +kernel
theorem gdX12_firstValue_22 : decode cX12_firstValue 22 = .ok (.iload_n 2, 1) := by decide +kernel
theorem gdX12_firstValue_23 : decode cX12_firstValue 23 = .ok (.iaload, 1) := by decide +kernel
theorem gdX12_firstValue_24 : decode cX12_firstValue 24 = .ok (.ireturn, 1) := by decide +kernel
theorem gdX12_firstValue_2 : decode cX12_firstValue 2 = .ok (.aload_n 0, 1) := by decide +kernel
theorem gdX12_firstValue_3 : decode cX12_firstValue 3 = .ok (.getfield 62, 3) := by decide +kernel
theorem gdX12_firstValue_6 : decode cX12_firstValue 6 = .ok (.iload_n 2, 1) := by decide +kernel
theorem gdX12_firstValue_7 : decode cX12_firstValue 7 = .ok (.iaload, 1) := by decide +kernel
theorem gdX12_firstValue_8 : decode cX12_firstValue 8 = .ok (.iload_n 1, 1) := by decide +kernel
theorem gdX12_firstValue_9 : decode cX12_firstValue 9 = .ok (.if_icmp .eq 9, 3) := by decide +kernel
theorem gdX12_firstValue_12 : decode cX12_firstValue 12 = .ok (.iinc 2 1, 3) := by decide +kernel
theorem gdX12_firstValue_15 : decode cX12_firstValue 15 = .ok (.goto (-13), 3) := by decide +kernel
theorem gdX12_firstValue_0 : decode cX12_firstValue 0 = .ok (.iconst 0, 1) := by decide +kernel
theorem gdX12_firstValue_1 : decode cX12_firstValue 1 = .ok (.istore_n 2, 1) := by decide +kernel
theorem gdX12_take_16 : decode cX12_take 16 = .ok (.iconst (-1), 1) := by decide +kernel
theorem gdX12_take_17 : decode cX12_take 17 = .ok (.ireturn, 1) := by decide +kernel
theorem gdX12_take_79 : decode cX12_take 79 = .ok (.bipush (-4), 2) := by decide +kernel
theorem gdX12_take_81 : decode cX12_take 81 = .ok (.ireturn, 1) := by decide +kernel
theorem gdX12_take_195 : decode cX12_take 195 = .ok (.aload_n 0, 1) := by decide +kernel
theorem gdX12_take_196 : decode cX12_take 196 = .ok (.getfield 55, 3) := by decide +kernel
theorem gdX12_take_199 : decode cX12_take 199 = .ok (.iload_n 1, 1) := by decide +kernel
theorem gdX12_take_200 : decode cX12_take 200 = .ok (.iconst 1, 1) := by decide +kernel
theorem gdX12_take_201 : decode cX12_take 201 = .ok (.bastore, 1) := by decide +kernel
theorem gdX12_take_202 : decode cX12_take 202 = .ok (.aload_n 0, 1) := by decide +kernel
theorem gdX12_take_203 : decode cX12_take 203 = .ok (.aload_n 0, 1) := by decide +kernel
theorem gdX12_take_204 : decode cX12_take 204 = .ok (.getfield 104, 3) := by decide +kernel
theorem gdX12_take_207 : decode cX12_take 207 = .ok (.iload 4, 2) := by decide +kernel
theorem gdX12_take_209 : decode cX12_take 209 = .ok (.iaload, 1) := by decide +kernel
theorem gdX12_take_210 : decode cX12_take 210 = .ok (.iload 4, 2) := by decide +kernel
theorem gdX12_take_212 : decode cX12_take 212 = .ok (.invokevirtual 290, 3) := by decide +kernel
theorem gdX12_take_215 : decode cX12_take 215 = .ok (.ireturn, 1) := by decide +kernel
theorem gdX12_take_189 : decode cX12_take 189 = .ok (.iinc 5 1, 3) := by decide +kernel
theorem gdX12_take_192 : decode cX12_take 192 = .ok (.goto (-46), 3) := by decide +kernel
theorem gdX12_take_146 : decode cX12_take 146 = .ok (.iload 5, 2) := by decide +kernel
theorem gdX12_take_148 : decode cX12_take 148 = .ok (.aload_n 0, 1) := by decide +kernel
theorem gdX12_take_149 : decode cX12_take 149 = .ok (.getfield 281, 3) := by decide +kernel
theorem gdX12_take_152 : decode cX12_take 152 = .ok (.if_icmp .ge 43, 3) := by decide +kernel
theorem gdX12_take_155 : decode cX12_take 155 = .ok (.aload_n 0, 1) := by decide +kernel
theorem gdX12_take_156 : decode cX12_take 156 = .ok (.getfield 71, 3) := by decide +kernel
theorem gdX12_take_159 : decode cX12_take 159 = .ok (.iload 5, 2) := by decide +kernel
theorem gdX12_take_161 : decode cX12_take 161 = .ok (.iaload, 1) := by decide +kernel
theorem gdX12_take_162 : decode cX12_take 162 = .ok (.iload_n 1, 1) := by decide +kernel
theorem gdX12_take_163 : decode cX12_take 163 = .ok (.if_icmp .ne 26, 3) := by decide +kernel
theorem gdX12_take_166 : decode cX12_take 166 = .ok (.aload_n 0, 1) := by decide +kernel
theorem gdX12_take_167 : decode cX12_take 167 = .ok (.getfield 110, 3) := by decide +kernel
theorem gdX12_take_170 : decode cX12_take 170 = .ok (.iload 4, 2) := by decide +kernel
theorem gdX12_take_172 : decode cX12_take 172 = .ok (.dup2, 1) := by decide +kernel
theorem gdX12_take_173 : decode cX12_take 173 = .ok (.laload, 1) := by decide +kernel
theorem gdX12_take_174 : decode cX12_take 174 = .ok (.lconst 1, 1) := by decide +kernel
theorem gdX12_take_175 : decode cX12_take 175 = .ok (.iload 5, 2) := by decide +kernel
theorem gdX12_take_177 : decode cX12_take 177 = .ok (.lshl, 1) := by decide +kernel
theorem gdX12_take_178 : decode cX12_take 178 = .ok (.lor, 1) := by decide +kernel
theorem gdX12_take_179 : decode cX12_take 179 = .ok (.lastore, 1) := by decide +kernel
theorem gdX12_take_180 : decode cX12_take 180 = .ok (.aload_n 0, 1) := by decide +kernel
theorem gdX12_take_181 : decode cX12_take 181 = .ok (.getfield 71, 3) := by decide +kernel
theorem gdX12_take_184 : decode cX12_take 184 = .ok (.iload 5, 2) := by decide +kernel
theorem gdX12_take_186 : decode cX12_take 186 = .ok (.bipush (-9), 2) := by decide +kernel
theorem gdX12_take_188 : decode cX12_take 188 = .ok (.iastore, 1) := by decide +kernel
theorem gdX12_take_109 : decode cX12_take 109 = .ok (.istore_n 3, 1) := by decide +kernel
theorem gdX12_take_110 : decode cX12_take 110 = .ok (.aload_n 0, 1) := by decide +kernel
theorem gdX12_take_111 : decode cX12_take 111 = .ok (.iconst 3, 1) := by decide +kernel
theorem gdX12_take_112 : decode cX12_take 112 = .ok (.iload_n 2, 1) := by decide +kernel
theorem gdX12_take_113 : decode cX12_take 113 = .ok (.invokevirtual 334, 3) := by decide +kernel
theorem gdX12_take_116 : decode cX12_take 116 = .ok (.istore 4, 2) := by decide +kernel
theorem gdX12_take_118 : decode cX12_take 118 = .ok (.aload_n 0, 1) := by decide +kernel
theorem gdX12_take_119 : decode cX12_take 119 = .ok (.getfield 104, 3) := by decide +kernel
theorem gdX12_take_122 : decode cX12_take 122 = .ok (.iload 4, 2) := by decide +kernel
theorem gdX12_take_124 : decode cX12_take 124 = .ok (.aload_n 0, 1) := by decide +kernel
theorem gdX12_take_125 : decode cX12_take 125 = .ok (.iconst 2, 1) := by decide +kernel
theorem gdX12_take_126 : decode cX12_take 126 = .ok (.invokevirtual 328, 3) := by decide +kernel
theorem gdX12_take_129 : decode cX12_take 129 = .ok (.iload_n 3, 1) := by decide +kernel
theorem gdX12_take_130 : decode cX12_take 130 = .ok (.imul, 1) := by decide +kernel
theorem gdX12_take_131 : decode cX12_take 131 = .ok (.bipush 100, 2) := by decide +kernel
theorem gdX12_take_133 : decode cX12_take 133 = .ok (.idiv, 1) := by decide +kernel
theorem gdX12_take_134 : decode cX12_take 134 = .ok (.iastore, 1) := by decide +kernel
theorem gdX12_take_135 : decode cX12_take 135 = .ok (.aload_n 0, 1) := by decide +kernel
theorem gdX12_take_136 : decode cX12_take 136 = .ok (.getfield 110, 3) := by decide +kernel
theorem gdX12_take_139 : decode cX12_take 139 = .ok (.iload 4, 2) := by decide +kernel
theorem gdX12_take_141 : decode cX12_take 141 = .ok (.lconst 0, 1) := by decide +kernel
theorem gdX12_take_142 : decode cX12_take 142 = .ok (.lastore, 1) := by decide +kernel
theorem gdX12_take_143 : decode cX12_take 143 = .ok (.iconst 0, 1) := by decide +kernel
theorem gdX12_take_144 : decode cX12_take 144 = .ok (.istore 5, 2) := by decide +kernel
theorem gdX12_take_0 : decode cX12_take 0 = .ok (.aload_n 0, 1) := by decide +kernel
theorem gdX12_take_1 : decode cX12_take 1 = .ok (.iload_n 1, 1) := by decide +kernel
theorem gdX12_take_2 : decode cX12_take 2 = .ok (.invokevirtual 274, 3) := by decide +kernel
theorem gdX12_take_5 : decode cX12_take 5 = .ok (.ifCond .eq 11, 3) := by decide +kernel
theorem gdX12_take_8 : decode cX12_take 8 = .ok (.aload_n 0, 1) := by decide +kernel
theorem gdX12_take_9 : decode cX12_take 9 = .ok (.iload_n 2, 1) := by decide +kernel
theorem gdX12_take_10 : decode cX12_take 10 = .ok (.invokevirtual 308, 3) := by decide +kernel
theorem gdX12_take_13 : decode cX12_take 13 = .ok (.ifCond .ne 5, 3) := by decide +kernel
theorem gdX12_take_18 : decode cX12_take 18 = .ok (.aload_n 0, 1) := by decide +kernel
theorem gdX12_take_19 : decode cX12_take 19 = .ok (.getfield 305, 3) := by decide +kernel
theorem gdX12_take_22 : decode cX12_take 22 = .ok (.bipush 24, 2) := by decide +kernel
theorem gdX12_take_24 : decode cX12_take 24 = .ok (.if_icmp .ne 6, 3) := by decide +kernel
theorem gdX12_take_30 : decode cX12_take 30 = .ok (.aload_n 0, 1) := by decide +kernel
theorem gdX12_take_31 : decode cX12_take 31 = .ok (.iload_n 2, 1) := by decide +kernel
theorem gdX12_take_32 : decode cX12_take 32 = .ok (.invokevirtual 311, 3) := by decide +kernel
theorem gdX12_take_35 : decode cX12_take 35 = .ok (.ifCond .ne 9, 3) := by decide +kernel
theorem gdX12_take_44 : decode cX12_take 44 = .ok (.aload_n 0, 1) := by decide +kernel
theorem gdX12_take_45 : decode cX12_take 45 = .ok (.getfield 95, 3) := by decide +kernel
theorem gdX12_take_48 : decode cX12_take 48 = .ok (.iload_n 2, 1) := by decide +kernel
theorem gdX12_take_49 : decode cX12_take 49 = .ok (.iaload, 1) := by decide +kernel
theorem gdX12_take_50 : decode cX12_take 50 = .ok (.ifCond .lt 29, 3) := by decide +kernel
theorem gdX12_take_53 : decode cX12_take 53 = .ok (.aload_n 0, 1) := by decide +kernel
theorem gdX12_take_54 : decode cX12_take 54 = .ok (.getfield 55, 3) := by decide +kernel
theorem gdX12_take_57 : decode cX12_take 57 = .ok (.iload_n 1, 1) := by decide +kernel
theorem gdX12_take_58 : decode cX12_take 58 = .ok (.baload, 1) := by decide +kernel
theorem gdX12_take_59 : decode cX12_take 59 = .ok (.ifCond .ne 20, 3) := by decide +kernel
theorem gdX12_take_62 : decode cX12_take 62 = .ok (.aload_n 0, 1) := by decide +kernel
theorem gdX12_take_63 : decode cX12_take 63 = .ok (.iload_n 2, 1) := by decide +kernel
theorem gdX12_take_64 : decode cX12_take 64 = .ok (.invokevirtual 340, 3) := by decide +kernel
theorem gdX12_take_67 : decode cX12_take 67 = .ok (.aload_n 0, 1) := by decide +kernel
theorem gdX12_take_68 : decode cX12_take 68 = .ok (.getfield 46, 3) := by decide +kernel
theorem gdX12_take_71 : decode cX12_take 71 = .ok (.iload_n 1, 1) := by decide +kernel
theorem gdX12_take_72 : decode cX12_take 72 = .ok (.iaload, 1) := by decide +kernel
theorem gdX12_take_73 : decode cX12_take 73 = .ok (.invokestatic 344, 3) := by decide +kernel
theorem gdX12_take_76 : decode cX12_take 76 = .ok (.ifCond .ne 6, 3) := by decide +kernel
theorem gdX12_take_82 : decode cX12_take 82 = .ok (.aload_n 0, 1) := by decide +kernel
theorem gdX12_take_83 : decode cX12_take 83 = .ok (.iload_n 1, 1) := by decide +kernel
theorem gdX12_take_84 : decode cX12_take 84 = .ok (.aload_n 0, 1) := by decide +kernel
theorem gdX12_take_85 : decode cX12_take 85 = .ok (.getfield 95, 3) := by decide +kernel
theorem gdX12_take_88 : decode cX12_take 88 = .ok (.iload_n 2, 1) := by decide +kernel
theorem gdX12_take_89 : decode cX12_take 89 = .ok (.iaload, 1) := by decide +kernel
theorem gdX12_take_90 : decode cX12_take 90 = .ok (.iconst 1, 1) := by decide +kernel
theorem gdX12_take_91 : decode cX12_take 91 = .ok (.isub, 1) := by decide +kernel
theorem gdX12_take_92 : decode cX12_take 92 = .ok (.invokevirtual 277, 3) := by decide +kernel
theorem gdX12_take_95 : decode cX12_take 95 = .ok (.istore_n 3, 1) := by decide +kernel
theorem gdX12_take_96 : decode cX12_take 96 = .ok (.iload_n 3, 1) := by decide +kernel
theorem gdX12_take_97 : decode cX12_take 97 = .ok (.ifCond .ge 11, 3) := by decide +kernel
theorem gdX12_take_108 : decode cX12_take 108 = .ok (.iload_n 3, 1) := by decide +kernel
theorem gdX12_take_100 : decode cX12_take 100 = .ok (.aload_n 0, 1) := by decide +kernel
theorem gdX12_take_101 : decode cX12_take 101 = .ok (.iload_n 1, 1) := by decide +kernel
theorem gdX12_take_102 : decode cX12_take 102 = .ok (.invokevirtual 355, 3) := by decide +kernel
theorem gdX12_take_105 : decode cX12_take 105 = .ok (.goto 4, 3) := by decide +kernel
theorem gdX12_take_38 : decode cX12_take 38 = .ok (.aload_n 0, 1) := by decide +kernel
theorem gdX12_take_39 : decode cX12_take 39 = .ok (.iconst 3, 1) := by decide +kernel
theorem gdX12_take_40 : decode cX12_take 40 = .ok (.invokevirtual 216, 3) := by decide +kernel
theorem gdX12_take_43 : decode cX12_take 43 = .ok (.ireturn, 1) := by decide +kernel
theorem gdX12_take_27 : decode cX12_take 27 = .ok (.bipush (-2), 2) := by decide +kernel
theorem gdX12_take_29 : decode cX12_take 29 = .ok (.ireturn, 1) := by decide +kernel
theorem okm_X12_isNear : okM yX12_isNear cX12_isNear 6 (some .boolean) 2 := ⟨w_1936, w_103, by decide +kernel, by decide +kernel, by decide +kernel⟩
theorem okw_X12_isNear : okV yX12_isNear := ⟨w_1935, w_64⟩
theorem okm_X12_wayTo : okM yX12_wayTo cX12_wayTo 3 (some .int) 2 := ⟨w_2105, w_103, by decide +kernel, by decide +kernel, by decide +kernel⟩
theorem okm_X12_finds : okM yX12_finds cX12_finds 11 (some .boolean) 3 := ⟨w_2098, w_103, by decide +kernel, by decide +kernel, by decide +kernel⟩
theorem okw_X12_finds : okV yX12_finds := ⟨w_2097, w_81⟩
theorem okm_X12_goAlong : okM yX12_goAlong cX12_goAlong 7 none 2 := ⟨w_2102, w_103, by decide +kernel, by decide +kernel, by decide +kernel⟩
theorem okw_X12_goAlong : okV yX12_goAlong := ⟨w_2101, w_82⟩
theorem okm_X12_comes : okM yX12_comes cX12_comes 11 (some .boolean) 4 := ⟨w_2094, w_103, by decide +kernel, by decide +kernel, by decide +kernel⟩
theorem okw_X12_comes : okV yX12_comes := ⟨w_2093, w_80⟩
theorem okm_X12_firstValue : okM yX12_firstValue cX12_firstValue 3 (some .int) 1 := ⟨w_1944, w_103, by decide +kernel, by decide +kernel, by decide +kernel⟩
theorem okw_X12_firstValue : okV yX12_firstValue := ⟨w_1943, w_65⟩
noncomputable def s_X12_set (o : OO) : Option (Int64) := some (o.2 0 3)
set_option maxHeartbeats 4000000 in
set_option maxRecDepth 100000 in
theorem c_X12_set (l : Launch) (g : GG) (ad : Nat → Nat) (o : OO) (v : Int64) (h : s_X12_set o = some v) : CL l g yX12_set cX12_set 1 (some .long) 0 0 (wM g ad o) [.ref (ad 0)] v (wM g ad o) := by
  refine met_L (by decide) (Nat.le_of_ble_eq_true rfl) ?_
  intro X E hQ
  show Go X 0 (wM g ad o) [(0, .ref (ad 0))] []
  unfold s_X12_set at h
  refine g_aload_n E gdX12_set_0 rfl 0 rfl ?_
  refine g_get (T := TX12) E fw_X12 0 (wM_0 g ad o) rfl 3 (by decide) w_1469 rfl rfl gdX12_set_1 ?_
  exact g_lret E hQ (Option.some.inj h) rfl gdX12_set_4
noncomputable def b_X12_isNear_84 (o : OO) (x3 : Int) : Option (Int) := qZ x3 (some x3)
noncomputable def b_X12_isNear_77 (o : OO) (x1 : Int) (x2 : Int) (x4 : Int) (y0 : Int) : Option ((Int × Int) ⊕ ((Int))) := some (.inl (y0, x4 + 1))
noncomputable def b_X12_isNear_72 (o : OO) (x1 : Int) (x2 : Int) (x4 : Int) : Option ((Int × Int) ⊕ ((Int))) := b_X12_isNear_77 o x1 x2 x4 1
noncomputable def b_X12_isNear_76 (o : OO) (x1 : Int) (x2 : Int) (x4 : Int) : Option ((Int × Int) ⊕ ((Int))) := b_X12_isNear_77 o x1 x2 x4 0
noncomputable def l_X12_isNear_5 (o : OO) (x1 : Int) (x2 : Int) (x3 : Int) (x4 : Int) : Option ((Int × Int) ⊕ ((Int))) := qIn x1 24 (qNm (o.1 30 x1.toNat) (fun n2 => qLt x4 n2 (qIn ((64 * x1) + x4) 1536 (qNm (o.1 31 ((64 * x1) + x4).toNat) (fun n4 => qEq x3 0 (qDv x2 8 (qDv n4 8 (qB (s_X12_in ((x2 - jq x2 8 * 8) - (n4 - jq n4 8 * 8)) (-2) 2) (fun r7 => qEq r7 0 (b_X12_isNear_76 o x1 x2 x4) (qDv x2 8 (qDv n4 8 (qB (s_X12_in ((jq x2 8) - (jq n4 8)) (-2) 2) (fun r11 => qEq r11 0 (b_X12_isNear_76 o x1 x2 x4) (b_X12_isNear_72 o x1 x2 x4))))))))) (b_X12_isNear_72 o x1 x2 x4)))) (some (.inr (x3)))))
noncomputable def e_X12_isNear_5 (o : OO) (x1 : Int) (x2 : Int) (x3 : Int) (x4 : Int) : Option (Int) := qB (loopW (fun s => l_X12_isNear_5 o x1 x2 s.1 s.2) (x3, x4)) (fun r => b_X12_isNear_84 o r)
noncomputable def s_X12_isNear (o : OO) (x1 : Int) (x2 : Int) : Option (Int) := e_X12_isNear_5 o x1 x2 0 0
set_option maxHeartbeats 4000000 in
set_option maxRecDepth 100000 in
theorem c_X12_isNear (l : Launch) (g : GG) (ad : Nat → Nat) (o : OO) (x1 : Int) (x2 : Int) (v : Int) (h : s_X12_isNear o x1 x2 = some v) : CI l g yX12_isNear cX12_isNear 6 (some .boolean) 1 22 (wM g ad o) [.ref (ad 0), iv x1, iv x2] v (wM g ad o) := by
  refine met_I (by decide) (Nat.le_of_ble_eq_true rfl) ?_
  intro X E hQ
  show Go X 0 (wM g ad o) [(0, .ref (ad 0)), (1, iv x1), (2, iv x2)] []
  have j84 : ∀ (x3 : Int), b_X12_isNear_84 o x3 = some v → Go X 84 (wM g ad o) [(3, iv x3)] [] := by
    intro x3 h
    unfold b_X12_isNear_84 at h
    refine g_iload_n E gdX12_isNear_84 rfl 0 rfl ?_
    obtain ⟨hz, h⟩ := qZ_of h
    exact g_zret E hQ hz (Option.some.inj h) rfl gdX12_isNear_85
  have j77 : ∀ (x1 : Int) (x2 : Int) (x4 : Int) (y0 : Int) (v : (Int × Int) ⊕ ((Int))), b_X12_isNear_77 o x1 x2 x4 y0 = some v → (∀ (x3 : Int) (x4 : Int), v = .inl (x3, x4) → Go X 5 (wM g ad o) [(0, .ref (ad 0)), (1, iv x1), (2, iv x2), (3, iv x3), (4, iv x4)] []) → (∀ (x3 : Int), v = .inr (x3) → Go X 84 (wM g ad o) [(3, iv x3)] []) → Go X 77 (wM g ad o) [(0, .ref (ad 0)), (1, iv x1), (2, iv x2), (4, iv x4)] [iv y0] := by
    intro x1 x2 x4 y0 v h k0 k1
    unfold b_X12_isNear_77 at h
    refine g_istore_n E [(3, iv y0), (0, .ref (ad 0)), (1, iv x1), (2, iv x2), (4, iv x4)] gdX12_isNear_77 rfl (by decide) rfl ?_
    refine g_iinc E [(4, iv (x4 + 1)), (3, iv y0), (0, .ref (ad 0)), (1, iv x1), (2, iv x2)] gdX12_isNear_78 4 rfl (by decide) rfl ?_
    refine g_goto E 5 gdX12_isNear_81 (by decide) ?_
    refine g_sub E [2, 3, 4, 1, 0] rfl ?_
    exact k0 y0 (x4 + 1) (Option.some.inj h).symm
  have j72 : ∀ (x1 : Int) (x2 : Int) (x4 : Int) (v : (Int × Int) ⊕ ((Int))), b_X12_isNear_72 o x1 x2 x4 = some v → (∀ (x3 : Int) (x4 : Int), v = .inl (x3, x4) → Go X 5 (wM g ad o) [(0, .ref (ad 0)), (1, iv x1), (2, iv x2), (3, iv x3), (4, iv x4)] []) → (∀ (x3 : Int), v = .inr (x3) → Go X 84 (wM g ad o) [(3, iv x3)] []) → Go X 72 (wM g ad o) [(0, .ref (ad 0)), (1, iv x1), (2, iv x2), (4, iv x4)] [] := by
    intro x1 x2 x4 v h k0 k1
    unfold b_X12_isNear_72 at h
    refine g_iconst E gdX12_isNear_72 ?_
    refine g_goto E 77 gdX12_isNear_73 (by decide) ?_
    exact j77 x1 x2 x4 1 v h k0 k1
  have j76 : ∀ (x1 : Int) (x2 : Int) (x4 : Int) (v : (Int × Int) ⊕ ((Int))), b_X12_isNear_76 o x1 x2 x4 = some v → (∀ (x3 : Int) (x4 : Int), v = .inl (x3, x4) → Go X 5 (wM g ad o) [(0, .ref (ad 0)), (1, iv x1), (2, iv x2), (3, iv x3), (4, iv x4)] []) → (∀ (x3 : Int), v = .inr (x3) → Go X 84 (wM g ad o) [(3, iv x3)] []) → Go X 76 (wM g ad o) [(0, .ref (ad 0)), (1, iv x1), (2, iv x2), (4, iv x4)] [] := by
    intro x1 x2 x4 v h k0 k1
    unfold b_X12_isNear_76 at h
    refine g_iconst E gdX12_isNear_76 ?_
    exact j77 x1 x2 x4 0 v h k0 k1
  have l5 : ∀ (x1 : Int) (x2 : Int) (r : (Int)) (s0 : Int × Int), loopW (fun s => l_X12_isNear_5 o x1 x2 s.1 s.2) s0 = some r → (∀ (x3 : Int), r = (x3) → Go X 84 (wM g ad o) [(3, iv x3)] []) → Go X 5 (wM g ad o) [(0, .ref (ad 0)), (1, iv x1), (2, iv x2), (3, iv s0.1), (4, iv s0.2)] [] := by
    intro x1 x2 r s0 h k1
    refine loop_rule (Head := fun s0 => Go X 5 (wM g ad o) [(0, .ref (ad 0)), (1, iv x1), (2, iv x2), (3, iv s0.1), (4, iv s0.2)] []) h ?_
    intro s v h kk kx
    obtain ⟨x3, x4⟩ := s
    have h : l_X12_isNear_5 o x1 x2 x3 x4 = some v := h
    have k0 : ∀ (x3 : Int) (x4 : Int), v = .inl (x3, x4) → Go X 5 (wM g ad o) [(0, .ref (ad 0)), (1, iv x1), (2, iv x2), (3, iv x3), (4, iv x4)] [] := fun x3 x4 e => kk (x3, x4) e
    have k1 : ∀ (x3 : Int), v = .inr (x3) → Go X 84 (wM g ad o) [(3, iv x3)] [] := fun x3 e => k1 x3 (kx _ e).symm
    unfold l_X12_isNear_5 at h
    refine g_iload E gdX12_isNear_5 4 rfl ?_
    refine g_aload_n E gdX12_isNear_7 rfl 0 rfl ?_
    refine g_get (T := TX12) E fw_X12 0 (wM_0 g ad o) rfl 38 (by decide) w_1504 rfl rfl gdX12_isNear_8 ?_
    refine g_iload_n E gdX12_isNear_11 rfl 1 rfl ?_
    obtain ⟨hi1, h⟩ := qIn_of h
    refine g_iald E 30 (wM_30 g ad o) (by decide) hi1 gdX12_isNear_12 ?_
    obtain ⟨n2, e_n2, h⟩ := qNm_of h
    refine g_nmi e_n2 ?_
    refine g_icmp_ge E 84 gdX12_isNear_13 (by decide) h (fun h => ?_) (fun h => ?_)
    ·
      refine g_sub E [3] rfl ?_
      exact k1 x3 (Option.some.inj h).symm
    ·
      refine g_aload_n E gdX12_isNear_16 rfl 0 rfl ?_
      refine g_get (T := TX12) E fw_X12 0 (wM_0 g ad o) rfl 39 (by decide) w_1505 rfl rfl gdX12_isNear_17 ?_
      refine g_bipush E gdX12_isNear_20 (by decide) ?_
      refine g_iload_n E gdX12_isNear_22 rfl 1 rfl ?_
      refine g_imul E gdX12_isNear_23 ?_
      refine g_iload E gdX12_isNear_24 4 rfl ?_
      refine g_iadd E gdX12_isNear_26 ?_
      obtain ⟨hi3, h⟩ := qIn_of h
      refine g_iald E 31 (wM_31 g ad o) (by decide) hi3 gdX12_isNear_27 ?_
      obtain ⟨n4, e_n4, h⟩ := qNm_of h
      refine g_nmi e_n4 ?_
      refine g_istore E [(5, iv n4), (0, .ref (ad 0)), (1, iv x1), (2, iv x2), (3, iv x3), (4, iv x4)] gdX12_isNear_28 (by decide) rfl ?_
      refine g_iload_n E gdX12_isNear_30 rfl 4 rfl ?_
      refine g_if_ne E 72 gdX12_isNear_31 (by decide) h (fun h => ?_) (fun h => ?_)
      ·
        refine g_sub E [1, 2, 3, 5] rfl ?_
        exact j72 x1 x2 x4 v h k0 k1
      ·
        refine g_iload_n E gdX12_isNear_34 rfl 3 rfl ?_
        refine g_bipush E gdX12_isNear_35 (by decide) ?_
        obtain ⟨hd5, h⟩ := qDv_of h
        refine g_irem E hd5 gdX12_isNear_37 ?_
        refine g_iload E gdX12_isNear_38 0 rfl ?_
        refine g_bipush E gdX12_isNear_40 (by decide) ?_
        obtain ⟨hd6, h⟩ := qDv_of h
        refine g_irem E hd6 gdX12_isNear_42 ?_
        refine g_isub E gdX12_isNear_43 ?_
        refine g_bipush E gdX12_isNear_44 (by decide) ?_
        refine g_iconst E gdX12_isNear_46 ?_
        obtain ⟨r7, hc8, h⟩ := qB_of h
        refine g_Si (r := r7) (As := [iv ((x2 - jq x2 8 * 8) - (n4 - jq n4 8 * 8)), iv (-2), iv 2]) (rest := []) (w := wM g ad o) E (c_X12_in l g (wM g ad o) ((x2 - jq x2 8 * 8) - (n4 - jq n4 8 * 8)) (-2) 2 r7 hc8) okm_X12_in w_1706 w_1705 rfl rfl (Nat.le_of_ble_eq_true rfl) ⟨Nat.le_of_ble_eq_true rfl, Nat.le_of_ble_eq_true rfl⟩ gdX12_isNear_47 ?_
        refine g_if_eq E 76 gdX12_isNear_50 (by decide) h (fun h => ?_) (fun h => ?_)
        ·
          refine g_sub E [1, 2, 3, 5] rfl ?_
          exact j76 x1 x2 x4 v h k0 k1
        ·
          refine g_iload_n E gdX12_isNear_53 rfl 3 rfl ?_
          refine g_bipush E gdX12_isNear_54 (by decide) ?_
          obtain ⟨hd9, h⟩ := qDv_of h
          refine g_idiv E hd9 gdX12_isNear_56 ?_
          refine g_iload E gdX12_isNear_57 0 rfl ?_
          refine g_bipush E gdX12_isNear_59 (by decide) ?_
          obtain ⟨hd10, h⟩ := qDv_of h
          refine g_idiv E hd10 gdX12_isNear_61 ?_
          refine g_isub E gdX12_isNear_62 ?_
          refine g_bipush E gdX12_isNear_63 (by decide) ?_
          refine g_iconst E gdX12_isNear_65 ?_
          obtain ⟨r11, hc12, h⟩ := qB_of h
          refine g_Si (r := r11) (As := [iv ((jq x2 8) - (jq n4 8)), iv (-2), iv 2]) (rest := []) (w := wM g ad o) E (c_X12_in l g (wM g ad o) ((jq x2 8) - (jq n4 8)) (-2) 2 r11 hc12) okm_X12_in w_1706 w_1705 rfl rfl (Nat.le_of_ble_eq_true rfl) ⟨Nat.le_of_ble_eq_true rfl, Nat.le_of_ble_eq_true rfl⟩ gdX12_isNear_66 ?_
          refine g_if_eq E 76 gdX12_isNear_69 (by decide) h (fun h => ?_) (fun h => ?_)
          ·
            refine g_sub E [1, 2, 3, 5] rfl ?_
            exact j76 x1 x2 x4 v h k0 k1
          ·
            refine g_sub E [1, 2, 3, 5] rfl ?_
            exact j72 x1 x2 x4 v h k0 k1
  have j5 : ∀ (x1 : Int) (x2 : Int) (x3 : Int) (x4 : Int), e_X12_isNear_5 o x1 x2 x3 x4 = some v → Go X 5 (wM g ad o) [(0, .ref (ad 0)), (1, iv x1), (2, iv x2), (3, iv x3), (4, iv x4)] [] := by
    intro x1 x2 x3 x4 h
    unfold e_X12_isNear_5 at h
    obtain ⟨r, hr, h⟩ := qB_of h
    refine l5 x1 x2 r _ hr ?_
    ·
      intro u0 e
      have e := e.symm
      subst e
      have h : b_X12_isNear_84 o u0 = some v := h
      exact j84 u0 h
  unfold s_X12_isNear at h
  refine g_iconst E gdX12_isNear_0 ?_
  refine g_istore_n E [(3, iv 0), (0, .ref (ad 0)), (1, iv x1), (2, iv x2)] gdX12_isNear_1 rfl (by decide) rfl ?_
  refine g_iconst E gdX12_isNear_2 ?_
  refine g_istore E [(4, iv 0), (3, iv 0), (0, .ref (ad 0)), (1, iv x1), (2, iv x2)] gdX12_isNear_3 (by decide) rfl ?_
  refine g_sub E [2, 3, 4, 1, 0] rfl ?_
  exact j5 x1 x2 0 0 h
noncomputable def b_X12_show_184 (o : OO) (x1 : Int) (x3 : Int) : Option (Int × OO) := qIn x1 24 (qNm (st1 o 29 x1.toNat (o.1 0 4)) (fun o2 => some (x3, o2)))
noncomputable def b_X12_show_178 (o : OO) (x1 : Int) (x3 : Int) (x4 : Int) (x5 : Int) : Option ((OO × Int) ⊕ ((OO))) := some (.inl (o, x5 + 1))
noncomputable def b_X12_show_175 (o : OO) (x1 : Int) (x3 : Int) (x4 : Int) (x5 : Int) (y1 : Int) (y2 : Int) : Option ((OO × Int) ⊕ ((OO))) := qB (s_X12_tell o y1 y2) (fun o5 => b_X12_show_178 o5 x1 x3 x4 x5)
noncomputable def l_X12_show_101 (x1 : Int) (x3 : Int) (x4 : Int) (o : OO) (x5 : Int) : Option ((OO × Int) ⊕ ((OO))) := qLt x5 (o.1 0 17) (qIn x5 32 (qNm (o.1 16 x5.toNat) (fun n7 => qEq n7 0 (qIn x5 32 (qNm (o.1 13 x5.toNat) (fun n9 => qB (s_X12_isNear o x1 n9) (fun r10 => qEq r10 0 (b_X12_show_178 o x1 x3 x4 x5) (qB (s_X12_valueOf o x5 (o.1 0 4)) (fun r12 => qDv (r12 * x4) 100 (qNm (r12 - (jq (r12 * x4) 100)) (fun n15 => qLt n15 1 (b_X12_show_175 o x1 x3 x4 x5 x5 1) (b_X12_show_175 o x1 x3 x4 x5 x5 n15))))))))) (b_X12_show_178 o x1 x3 x4 x5)))) (some (.inr (o)))
noncomputable def e_X12_show_101 (o : OO) (x1 : Int) (x3 : Int) (x4 : Int) (x5 : Int) : Option (Int × OO) := qB (loopW (fun s => l_X12_show_101 x1 x3 x4 s.1 s.2) (o, x5)) (fun r => b_X12_show_184 r x1 x3)
noncomputable def b_X12_show_77 (o : OO) (x1 : Int) (x3 : Int) : Option (Int × OO) := qLt 100 ((o.1 0 23) + x3) (some ((-2), o)) (qB (s_X12_nowInForce o 1) (fun r16 => e_X12_show_101 o x1 x3 r16 0))
noncomputable def b_X12_show_69 (o : OO) (x1 : Int) (x4 : Int) (y0 : Int) (y1 : Int) : Option ((Int × Int) ⊕ ((Int))) := qNm (y0 + y1) (fun n18 => some (.inl (n18, x4 + 1)))
noncomputable def b_X12_show_68 (o : OO) (x1 : Int) (x4 : Int) (y0 : Int) : Option ((Int × Int) ⊕ ((Int))) := b_X12_show_69 o x1 x4 y0 0
noncomputable def l_X12_show_29 (o : OO) (x1 : Int) (x3 : Int) (x4 : Int) : Option ((Int × Int) ⊕ ((Int))) := qLt x4 (o.1 0 17) (qIn x4 32 (qNm (o.1 16 x4.toNat) (fun n20 => qEq n20 0 (qIn x4 32 (qNm (o.1 13 x4.toNat) (fun n22 => qB (s_X12_isNear o x1 n22) (fun r23 => qEq r23 0 (b_X12_show_68 o x1 x4 x3) (b_X12_show_69 o x1 x4 x3 1))))) (b_X12_show_68 o x1 x4 x3)))) (some (.inr (x3)))
noncomputable def e_X12_show_29 (o : OO) (x1 : Int) (x3 : Int) (x4 : Int) : Option (Int × OO) := qB (loopW (fun s => l_X12_show_29 o x1 s.1 s.2) (x3, x4)) (fun r => b_X12_show_77 o x1 r)
noncomputable def s_X12_show (o : OO) (x1 : Int) : Option (Int × OO) := qB2 (s_X12_askedLine o x1) (fun r25 o27 => qLt r25 0 (some (r25, o27)) (qIn x1 24 (qNm (o27.1 29 x1.toNat) (fun n29 => qLt n29 0 (e_X12_show_29 o27 x1 0 0) (some ((-4), o27))))))
set_option maxHeartbeats 4000000 in
set_option maxRecDepth 100000 in
theorem c_X12_show (l : Launch) (g : GG) (ad : Nat → Nat) (o : OO) (x1 : Int) (v : Int × OO) (h : s_X12_show o x1 = some v) : CI l g yX12_show cX12_show 8 (some .int) 3 71 (wM g ad o) [.ref (ad 0), iv x1] v.1 (wM g ad v.2) := by
  refine met_I (by decide) (Nat.le_of_ble_eq_true rfl) ?_
  intro X E hQ
  show Go X 0 (wM g ad o) [(0, .ref (ad 0)), (1, iv x1)] []
  have j184 : ∀ (o : OO) (x1 : Int) (x3 : Int), b_X12_show_184 o x1 x3 = some v → Go X 184 (wM g ad o) [(0, .ref (ad 0)), (1, iv x1), (3, iv x3)] [] := by
    intro o x1 x3 h
    unfold b_X12_show_184 at h
    refine g_aload_n E gdX12_show_184 rfl 0 rfl ?_
    refine g_get (T := TX12) E fw_X12 0 (wM_0 g ad o) rfl 37 (by decide) w_1503 rfl rfl gdX12_show_185 ?_
    refine g_iload_n E gdX12_show_188 rfl 1 rfl ?_
    refine g_aload_n E gdX12_show_189 rfl 0 rfl ?_
    refine g_get (T := TX12) E fw_X12 0 (wM_0 g ad o) rfl 4 (by decide) w_1470 rfl rfl gdX12_show_190 ?_
    obtain ⟨hi1, h⟩ := qIn_of h
    obtain ⟨o2, e_o2, h⟩ := qNm_of h
    refine g_iast (ws' := wM g ad o2) E 29 (wM_29 g ad o) (by decide) hi1 (by rw [e_o2]; exact wM_s29 g ad o _ _) gdX12_show_193 ?_
    refine g_iload_n E gdX12_show_194 rfl 2 rfl ?_
    exact g_iret E hQ (by rw [← Option.some.inj h]) (by rw [← Option.some.inj h]) gdX12_show_195
  have j178 : ∀ (o : OO) (x1 : Int) (x3 : Int) (x4 : Int) (x5 : Int) (v : (OO × Int) ⊕ ((OO))), b_X12_show_178 o x1 x3 x4 x5 = some v → (∀ (o : OO) (x5 : Int), v = .inl (o, x5) → Go X 101 (wM g ad o) [(0, .ref (ad 0)), (1, iv x1), (3, iv x3), (4, iv x4), (5, iv x5)] []) → (∀ (o : OO), v = .inr (o) → Go X 184 (wM g ad o) [(0, .ref (ad 0)), (1, iv x1), (3, iv x3)] []) → Go X 178 (wM g ad o) [(0, .ref (ad 0)), (1, iv x1), (3, iv x3), (4, iv x4), (5, iv x5)] [] := by
    intro o x1 x3 x4 x5 v h k0 k1
    unfold b_X12_show_178 at h
    refine g_iinc E [(5, iv (x5 + 1)), (0, .ref (ad 0)), (1, iv x1), (3, iv x3), (4, iv x4)] gdX12_show_178 4 rfl (by decide) rfl ?_
    refine g_goto E 101 gdX12_show_181 (by decide) ?_
    refine g_sub E [1, 2, 3, 4, 0] rfl ?_
    exact k0 o (x5 + 1) (Option.some.inj h).symm
  have j175 : ∀ (o : OO) (x1 : Int) (x3 : Int) (x4 : Int) (x5 : Int) (y1 : Int) (y2 : Int) (v : (OO × Int) ⊕ ((OO))), b_X12_show_175 o x1 x3 x4 x5 y1 y2 = some v → (∀ (o : OO) (x5 : Int), v = .inl (o, x5) → Go X 101 (wM g ad o) [(0, .ref (ad 0)), (1, iv x1), (3, iv x3), (4, iv x4), (5, iv x5)] []) → (∀ (o : OO), v = .inr (o) → Go X 184 (wM g ad o) [(0, .ref (ad 0)), (1, iv x1), (3, iv x3)] []) → Go X 175 (wM g ad o) [(0, .ref (ad 0)), (1, iv x1), (3, iv x3), (4, iv x4), (5, iv x5)] [iv y2, iv y1, .ref (ad 0)] := by
    intro o x1 x3 x4 x5 y1 y2 v h k0 k1
    unfold b_X12_show_175 at h
    obtain ⟨o5, hc4, h⟩ := qB_of h
    refine g_Vv (As := [iv y1, iv y2]) (rest := []) (w := wM g ad o5) E (c_X12_tell l g ad o y1 y2 o5 hc4) okm_X12_tell okw_X12_tell w_1803 rfl (wM_0 g ad o) rfl rfl (Nat.le_of_ble_eq_true rfl) ⟨Nat.le_of_ble_eq_true rfl, Nat.le_of_ble_eq_true rfl⟩ gdX12_show_175 ?_
    exact j178 o5 x1 x3 x4 x5 v h k0 k1
  have l101 : ∀ (x1 : Int) (x3 : Int) (x4 : Int) (r : (OO)) (s0 : OO × Int), loopW (fun s => l_X12_show_101 x1 x3 x4 s.1 s.2) s0 = some r → (∀ (o : OO), r = (o) → Go X 184 (wM g ad o) [(0, .ref (ad 0)), (1, iv x1), (3, iv x3)] []) → Go X 101 (wM g ad s0.1) [(0, .ref (ad 0)), (1, iv x1), (3, iv x3), (4, iv x4), (5, iv s0.2)] [] := by
    intro x1 x3 x4 r s0 h k1
    refine loop_rule (Head := fun s0 => Go X 101 (wM g ad s0.1) [(0, .ref (ad 0)), (1, iv x1), (3, iv x3), (4, iv x4), (5, iv s0.2)] []) h ?_
    intro s v h kk kx
    obtain ⟨o, x5⟩ := s
    have h : l_X12_show_101 x1 x3 x4 o x5 = some v := h
    have k0 : ∀ (o : OO) (x5 : Int), v = .inl (o, x5) → Go X 101 (wM g ad o) [(0, .ref (ad 0)), (1, iv x1), (3, iv x3), (4, iv x4), (5, iv x5)] [] := fun o x5 e => kk (o, x5) e
    have k1 : ∀ (o : OO), v = .inr (o) → Go X 184 (wM g ad o) [(0, .ref (ad 0)), (1, iv x1), (3, iv x3)] [] := fun o e => k1 o (kx _ e).symm
    unfold l_X12_show_101 at h
    refine g_iload E gdX12_show_101 4 rfl ?_
    refine g_aload_n E gdX12_show_103 rfl 0 rfl ?_
    refine g_get (T := TX12) E fw_X12 0 (wM_0 g ad o) rfl 17 (by decide) w_1483 rfl rfl gdX12_show_104 ?_
    refine g_icmp_ge E 184 gdX12_show_107 (by decide) h (fun h => ?_) (fun h => ?_)
    ·
      refine g_sub E [0, 1, 2] rfl ?_
      exact k1 o (Option.some.inj h).symm
    ·
      refine g_aload_n E gdX12_show_110 rfl 0 rfl ?_
      refine g_get (T := TX12) E fw_X12 0 (wM_0 g ad o) rfl 21 (by decide) w_1487 rfl rfl gdX12_show_111 ?_
      refine g_iload E gdX12_show_114 4 rfl ?_
      obtain ⟨hi6, h⟩ := qIn_of h
      refine g_zald E 16 (wM_16 g ad o) (by decide) hi6 gdX12_show_116 ?_
      obtain ⟨n7, e_n7, h⟩ := qNm_of h
      refine g_nmi e_n7 ?_
      refine g_if_ne E 178 gdX12_show_117 (by decide) h (fun h => ?_) (fun h => ?_)
      ·
        exact j178 o x1 x3 x4 x5 v h k0 k1
      ·
        refine g_aload_n E gdX12_show_120 rfl 0 rfl ?_
        refine g_iload_n E gdX12_show_121 rfl 1 rfl ?_
        refine g_aload_n E gdX12_show_122 rfl 0 rfl ?_
        refine g_get (T := TX12) E fw_X12 0 (wM_0 g ad o) rfl 18 (by decide) w_1484 rfl rfl gdX12_show_123 ?_
        refine g_iload E gdX12_show_126 4 rfl ?_
        obtain ⟨hi8, h⟩ := qIn_of h
        refine g_iald E 13 (wM_13 g ad o) (by decide) hi8 gdX12_show_128 ?_
        obtain ⟨n9, e_n9, h⟩ := qNm_of h
        refine g_nmi e_n9 ?_
        obtain ⟨r10, hc11, h⟩ := qB_of h
        refine g_Vi (r := r10) (As := [iv x1, iv n9]) (rest := []) (w := wM g ad o) E (c_X12_isNear l g ad o x1 n9 r10 hc11) okm_X12_isNear okw_X12_isNear w_1933 rfl (wM_0 g ad o) rfl rfl (Nat.le_of_ble_eq_true rfl) ⟨Nat.le_of_ble_eq_true rfl, Nat.le_of_ble_eq_true rfl⟩ gdX12_show_129 ?_
        refine g_if_eq E 178 gdX12_show_132 (by decide) h (fun h => ?_) (fun h => ?_)
        ·
          exact j178 o x1 x3 x4 x5 v h k0 k1
        ·
          refine g_aload_n E gdX12_show_135 rfl 0 rfl ?_
          refine g_iload E gdX12_show_136 4 rfl ?_
          refine g_aload_n E gdX12_show_138 rfl 0 rfl ?_
          refine g_get (T := TX12) E fw_X12 0 (wM_0 g ad o) rfl 4 (by decide) w_1470 rfl rfl gdX12_show_139 ?_
          obtain ⟨r12, hc13, h⟩ := qB_of h
          refine g_Vi (r := r12) (As := [iv x5, iv (o.1 0 4)]) (rest := []) (w := wM g ad o) E (c_X12_valueOf l g ad o x5 (o.1 0 4) r12 hc13) okm_X12_valueOf okw_X12_valueOf w_1815 rfl (wM_0 g ad o) rfl rfl (Nat.le_of_ble_eq_true rfl) ⟨Nat.le_of_ble_eq_true rfl, Nat.le_of_ble_eq_true rfl⟩ gdX12_show_142 ?_
          refine g_istore E [(6, iv r12), (0, .ref (ad 0)), (1, iv x1), (3, iv x3), (4, iv x4), (5, iv x5)] gdX12_show_145 (by decide) rfl ?_
          refine g_iload E gdX12_show_147 0 rfl ?_
          refine g_iload E gdX12_show_149 0 rfl ?_
          refine g_iload E gdX12_show_151 4 rfl ?_
          refine g_imul E gdX12_show_153 ?_
          refine g_bipush E gdX12_show_154 (by decide) ?_
          obtain ⟨hd14, h⟩ := qDv_of h
          refine g_idiv E hd14 gdX12_show_156 ?_
          refine g_isub E gdX12_show_157 ?_
          obtain ⟨n15, e_n15, h⟩ := qNm_of h
          refine g_nmi e_n15 ?_
          refine g_istore E [(7, iv n15), (6, iv r12), (0, .ref (ad 0)), (1, iv x1), (3, iv x3), (4, iv x4), (5, iv x5)] gdX12_show_158 (by decide) rfl ?_
          refine g_aload_n E gdX12_show_160 rfl 2 rfl ?_
          refine g_iload E gdX12_show_161 6 rfl ?_
          refine g_iload E gdX12_show_163 0 rfl ?_
          refine g_iconst E gdX12_show_165 ?_
          refine g_icmp_ge E 173 gdX12_show_166 (by decide) h (fun h => ?_) (fun h => ?_)
          ·
            refine g_iload E gdX12_show_173 0 rfl ?_
            refine g_sub E [2, 3, 4, 5, 6] rfl ?_
            exact j175 o x1 x3 x4 x5 x5 n15 v h k0 k1
          ·
            refine g_iconst E gdX12_show_169 ?_
            refine g_goto E 175 gdX12_show_170 (by decide) ?_
            refine g_sub E [2, 3, 4, 5, 6] rfl ?_
            exact j175 o x1 x3 x4 x5 x5 1 v h k0 k1
  have j101 : ∀ (o : OO) (x1 : Int) (x3 : Int) (x4 : Int) (x5 : Int), e_X12_show_101 o x1 x3 x4 x5 = some v → Go X 101 (wM g ad o) [(0, .ref (ad 0)), (1, iv x1), (3, iv x3), (4, iv x4), (5, iv x5)] [] := by
    intro o x1 x3 x4 x5 h
    unfold e_X12_show_101 at h
    obtain ⟨r, hr, h⟩ := qB_of h
    refine l101 x1 x3 x4 r _ hr ?_
    ·
      intro u0 e
      have e := e.symm
      subst e
      have h : b_X12_show_184 u0 x1 x3 = some v := h
      exact j184 u0 x1 x3 h
  have j77 : ∀ (o : OO) (x1 : Int) (x3 : Int), b_X12_show_77 o x1 x3 = some v → Go X 77 (wM g ad o) [(0, .ref (ad 0)), (1, iv x1), (3, iv x3)] [] := by
    intro o x1 x3 h
    unfold b_X12_show_77 at h
    refine g_aload_n E gdX12_show_77 rfl 0 rfl ?_
    refine g_get (T := TX12) E fw_X12 0 (wM_0 g ad o) rfl 23 (by decide) w_1489 rfl rfl gdX12_show_78 ?_
    refine g_iload_n E gdX12_show_81 rfl 2 rfl ?_
    refine g_iadd E gdX12_show_82 ?_
    refine g_bipush E gdX12_show_83 (by decide) ?_
    refine g_icmp_le E 91 gdX12_show_85 (by decide) h (fun h => ?_) (fun h => ?_)
    ·
      refine g_aload_n E gdX12_show_91 rfl 0 rfl ?_
      refine g_iconst E gdX12_show_92 ?_
      obtain ⟨r16, hc17, h⟩ := qB_of h
      refine g_Vi (r := r16) (As := [iv 1]) (rest := []) (w := wM g ad o) E (c_X12_nowInForce l g ad o 1 r16 hc17) okm_X12_nowInForce okw_X12_nowInForce w_1871 rfl (wM_0 g ad o) rfl rfl (Nat.le_of_ble_eq_true rfl) ⟨Nat.le_of_ble_eq_true rfl, Nat.le_of_ble_eq_true rfl⟩ gdX12_show_93 ?_
      refine g_istore E [(4, iv r16), (0, .ref (ad 0)), (1, iv x1), (3, iv x3)] gdX12_show_96 (by decide) rfl ?_
      refine g_iconst E gdX12_show_98 ?_
      refine g_istore E [(5, iv 0), (4, iv r16), (0, .ref (ad 0)), (1, iv x1), (3, iv x3)] gdX12_show_99 (by decide) rfl ?_
      refine g_sub E [2, 3, 4, 1, 0] rfl ?_
      exact j101 o x1 x3 r16 0 h
    ·
      refine g_bipush E gdX12_show_88 (by decide) ?_
      exact g_iret E hQ (by rw [← Option.some.inj h]) (by rw [← Option.some.inj h]) gdX12_show_90
  have j69 : ∀ (o : OO) (x1 : Int) (x4 : Int) (y0 : Int) (y1 : Int) (v : (Int × Int) ⊕ ((Int))), b_X12_show_69 o x1 x4 y0 y1 = some v → (∀ (x3 : Int) (x4 : Int), v = .inl (x3, x4) → Go X 29 (wM g ad o) [(0, .ref (ad 0)), (1, iv x1), (3, iv x3), (4, iv x4)] []) → (∀ (x3 : Int), v = .inr (x3) → Go X 77 (wM g ad o) [(0, .ref (ad 0)), (1, iv x1), (3, iv x3)] []) → Go X 69 (wM g ad o) [(0, .ref (ad 0)), (1, iv x1), (4, iv x4)] [iv y1, iv y0] := by
    intro o x1 x4 y0 y1 v h k0 k1
    unfold b_X12_show_69 at h
    refine g_iadd E gdX12_show_69 ?_
    obtain ⟨n18, e_n18, h⟩ := qNm_of h
    refine g_nmi e_n18 ?_
    refine g_istore_n E [(3, iv n18), (0, .ref (ad 0)), (1, iv x1), (4, iv x4)] gdX12_show_70 rfl (by decide) rfl ?_
    refine g_iinc E [(4, iv (x4 + 1)), (3, iv n18), (0, .ref (ad 0)), (1, iv x1)] gdX12_show_71 3 rfl (by decide) rfl ?_
    refine g_goto E 29 gdX12_show_74 (by decide) ?_
    refine g_sub E [2, 3, 1, 0] rfl ?_
    exact k0 n18 (x4 + 1) (Option.some.inj h).symm
  have j68 : ∀ (o : OO) (x1 : Int) (x4 : Int) (y0 : Int) (v : (Int × Int) ⊕ ((Int))), b_X12_show_68 o x1 x4 y0 = some v → (∀ (x3 : Int) (x4 : Int), v = .inl (x3, x4) → Go X 29 (wM g ad o) [(0, .ref (ad 0)), (1, iv x1), (3, iv x3), (4, iv x4)] []) → (∀ (x3 : Int), v = .inr (x3) → Go X 77 (wM g ad o) [(0, .ref (ad 0)), (1, iv x1), (3, iv x3)] []) → Go X 68 (wM g ad o) [(0, .ref (ad 0)), (1, iv x1), (4, iv x4)] [iv y0] := by
    intro o x1 x4 y0 v h k0 k1
    unfold b_X12_show_68 at h
    refine g_iconst E gdX12_show_68 ?_
    exact j69 o x1 x4 y0 0 v h k0 k1
  have l29 : ∀ (o : OO) (x1 : Int) (r : (Int)) (s0 : Int × Int), loopW (fun s => l_X12_show_29 o x1 s.1 s.2) s0 = some r → (∀ (x3 : Int), r = (x3) → Go X 77 (wM g ad o) [(0, .ref (ad 0)), (1, iv x1), (3, iv x3)] []) → Go X 29 (wM g ad o) [(0, .ref (ad 0)), (1, iv x1), (3, iv s0.1), (4, iv s0.2)] [] := by
    intro o x1 r s0 h k1
    refine loop_rule (Head := fun s0 => Go X 29 (wM g ad o) [(0, .ref (ad 0)), (1, iv x1), (3, iv s0.1), (4, iv s0.2)] []) h ?_
    intro s v h kk kx
    obtain ⟨x3, x4⟩ := s
    have h : l_X12_show_29 o x1 x3 x4 = some v := h
    have k0 : ∀ (x3 : Int) (x4 : Int), v = .inl (x3, x4) → Go X 29 (wM g ad o) [(0, .ref (ad 0)), (1, iv x1), (3, iv x3), (4, iv x4)] [] := fun x3 x4 e => kk (x3, x4) e
    have k1 : ∀ (x3 : Int), v = .inr (x3) → Go X 77 (wM g ad o) [(0, .ref (ad 0)), (1, iv x1), (3, iv x3)] [] := fun x3 e => k1 x3 (kx _ e).symm
    unfold l_X12_show_29 at h
    refine g_iload E gdX12_show_29 3 rfl ?_
    refine g_aload_n E gdX12_show_31 rfl 0 rfl ?_
    refine g_get (T := TX12) E fw_X12 0 (wM_0 g ad o) rfl 17 (by decide) w_1483 rfl rfl gdX12_show_32 ?_
    refine g_icmp_ge E 77 gdX12_show_35 (by decide) h (fun h => ?_) (fun h => ?_)
    ·
      refine g_sub E [0, 1, 2] rfl ?_
      exact k1 x3 (Option.some.inj h).symm
    ·
      refine g_iload_n E gdX12_show_38 rfl 2 rfl ?_
      refine g_aload_n E gdX12_show_39 rfl 0 rfl ?_
      refine g_get (T := TX12) E fw_X12 0 (wM_0 g ad o) rfl 21 (by decide) w_1487 rfl rfl gdX12_show_40 ?_
      refine g_iload E gdX12_show_43 3 rfl ?_
      obtain ⟨hi19, h⟩ := qIn_of h
      refine g_zald E 16 (wM_16 g ad o) (by decide) hi19 gdX12_show_45 ?_
      obtain ⟨n20, e_n20, h⟩ := qNm_of h
      refine g_nmi e_n20 ?_
      refine g_if_ne E 68 gdX12_show_46 (by decide) h (fun h => ?_) (fun h => ?_)
      ·
        refine g_sub E [0, 1, 3] rfl ?_
        exact j68 o x1 x4 x3 v h k0 k1
      ·
        refine g_aload_n E gdX12_show_49 rfl 0 rfl ?_
        refine g_iload_n E gdX12_show_50 rfl 1 rfl ?_
        refine g_aload_n E gdX12_show_51 rfl 0 rfl ?_
        refine g_get (T := TX12) E fw_X12 0 (wM_0 g ad o) rfl 18 (by decide) w_1484 rfl rfl gdX12_show_52 ?_
        refine g_iload E gdX12_show_55 3 rfl ?_
        obtain ⟨hi21, h⟩ := qIn_of h
        refine g_iald E 13 (wM_13 g ad o) (by decide) hi21 gdX12_show_57 ?_
        obtain ⟨n22, e_n22, h⟩ := qNm_of h
        refine g_nmi e_n22 ?_
        obtain ⟨r23, hc24, h⟩ := qB_of h
        refine g_Vi (r := r23) (As := [iv x1, iv n22]) (rest := [iv x3]) (w := wM g ad o) E (c_X12_isNear l g ad o x1 n22 r23 hc24) okm_X12_isNear okw_X12_isNear w_1933 rfl (wM_0 g ad o) rfl rfl (Nat.le_of_ble_eq_true rfl) ⟨Nat.le_of_ble_eq_true rfl, Nat.le_of_ble_eq_true rfl⟩ gdX12_show_58 ?_
        refine g_if_eq E 68 gdX12_show_61 (by decide) h (fun h => ?_) (fun h => ?_)
        ·
          refine g_sub E [0, 1, 3] rfl ?_
          exact j68 o x1 x4 x3 v h k0 k1
        ·
          refine g_iconst E gdX12_show_64 ?_
          refine g_goto E 69 gdX12_show_65 (by decide) ?_
          refine g_sub E [0, 1, 3] rfl ?_
          exact j69 o x1 x4 x3 1 v h k0 k1
  have j29 : ∀ (o : OO) (x1 : Int) (x3 : Int) (x4 : Int), e_X12_show_29 o x1 x3 x4 = some v → Go X 29 (wM g ad o) [(0, .ref (ad 0)), (1, iv x1), (3, iv x3), (4, iv x4)] [] := by
    intro o x1 x3 x4 h
    unfold e_X12_show_29 at h
    obtain ⟨r, hr, h⟩ := qB_of h
    refine l29 o x1 r _ hr ?_
    ·
      intro u0 e
      have e := e.symm
      subst e
      have h : b_X12_show_77 o x1 u0 = some v := h
      exact j77 o x1 u0 h
  unfold s_X12_show at h
  refine g_aload_n E gdX12_show_0 rfl 0 rfl ?_
  refine g_iload_n E gdX12_show_1 rfl 1 rfl ?_
  obtain ⟨r25, o27, hc26, h⟩ := qB2_of h
  refine g_Vi (r := r25) (As := [iv x1]) (rest := []) (w := wM g ad o27) E (c_X12_askedLine l g ad o x1 (r25, o27) hc26) okm_X12_askedLine okw_X12_askedLine w_1925 rfl (wM_0 g ad o) rfl rfl (Nat.le_of_ble_eq_true rfl) ⟨Nat.le_of_ble_eq_true rfl, Nat.le_of_ble_eq_true rfl⟩ gdX12_show_2 ?_
  refine g_istore_n E [(2, iv r25), (0, .ref (ad 0)), (1, iv x1)] gdX12_show_5 rfl (by decide) rfl ?_
  refine g_iload_n E gdX12_show_6 rfl 0 rfl ?_
  refine g_if_ge E 12 gdX12_show_7 (by decide) h (fun h => ?_) (fun h => ?_)
  ·
    refine g_aload_n E gdX12_show_12 rfl 1 rfl ?_
    refine g_get (T := TX12) E fw_X12 0 (wM_0 g ad o27) rfl 37 (by decide) w_1503 rfl rfl gdX12_show_13 ?_
    refine g_iload_n E gdX12_show_16 rfl 2 rfl ?_
    obtain ⟨hi28, h⟩ := qIn_of h
    refine g_iald E 29 (wM_29 g ad o27) (by decide) hi28 gdX12_show_17 ?_
    obtain ⟨n29, e_n29, h⟩ := qNm_of h
    refine g_nmi e_n29 ?_
    refine g_if_lt E 24 gdX12_show_18 (by decide) h (fun h => ?_) (fun h => ?_)
    ·
      refine g_iconst E gdX12_show_24 ?_
      refine g_istore_n E [(3, iv 0), (2, iv r25), (0, .ref (ad 0)), (1, iv x1)] gdX12_show_25 rfl (by decide) rfl ?_
      refine g_iconst E gdX12_show_26 ?_
      refine g_istore E [(4, iv 0), (3, iv 0), (2, iv r25), (0, .ref (ad 0)), (1, iv x1)] gdX12_show_27 (by decide) rfl ?_
      refine g_sub E [3, 4, 1, 0] rfl ?_
      exact j29 o27 x1 0 0 h
    ·
      refine g_bipush E gdX12_show_21 (by decide) ?_
      exact g_iret E hQ (by rw [← Option.some.inj h]) (by rw [← Option.some.inj h]) gdX12_show_23
  ·
    refine g_iload_n E gdX12_show_10 rfl 0 rfl ?_
    exact g_iret E hQ (by rw [← Option.some.inj h]) (by rw [← Option.some.inj h]) gdX12_show_11
noncomputable def b_X12_shown_20 (o : OO) (y0 : Int) : Option (Int × OO) := some (y0, o)
noncomputable def s_X12_shown (o : OO) (x1 : Int) : Option (Int × OO) := qB2 (s_X12_askedLine o x1) (fun r1 o3 => qLt r1 0 (b_X12_shown_20 o3 r1) (qIn x1 24 (qNm (o3.1 29 x1.toNat) (fun n5 => b_X12_shown_20 o3 n5))))
set_option maxHeartbeats 4000000 in
set_option maxRecDepth 100000 in
theorem c_X12_shown (l : Launch) (g : GG) (ad : Nat → Nat) (o : OO) (x1 : Int) (v : Int × OO) (h : s_X12_shown o x1 = some v) : CI l g yX12_shown cX12_shown 3 (some .int) 3 64 (wM g ad o) [.ref (ad 0), iv x1] v.1 (wM g ad v.2) := by
  refine met_I (by decide) (Nat.le_of_ble_eq_true rfl) ?_
  intro X E hQ
  show Go X 0 (wM g ad o) [(0, .ref (ad 0)), (1, iv x1)] []
  have j20 : ∀ (o : OO) (y0 : Int), b_X12_shown_20 o y0 = some v → Go X 20 (wM g ad o) [] [iv y0] := by
    intro o y0 h
    unfold b_X12_shown_20 at h
    exact g_iret E hQ (by rw [← Option.some.inj h]) (by rw [← Option.some.inj h]) gdX12_shown_20
  unfold s_X12_shown at h
  refine g_aload_n E gdX12_shown_0 rfl 0 rfl ?_
  refine g_iload_n E gdX12_shown_1 rfl 1 rfl ?_
  obtain ⟨r1, o3, hc2, h⟩ := qB2_of h
  refine g_Vi (r := r1) (As := [iv x1]) (rest := []) (w := wM g ad o3) E (c_X12_askedLine l g ad o x1 (r1, o3) hc2) okm_X12_askedLine okw_X12_askedLine w_1925 rfl (wM_0 g ad o) rfl rfl (Nat.le_of_ble_eq_true rfl) ⟨Nat.le_of_ble_eq_true rfl, Nat.le_of_ble_eq_true rfl⟩ gdX12_shown_2 ?_
  refine g_istore_n E [(2, iv r1), (0, .ref (ad 0)), (1, iv x1)] gdX12_shown_5 rfl (by decide) rfl ?_
  refine g_iload_n E gdX12_shown_6 rfl 0 rfl ?_
  refine g_if_ge E 14 gdX12_shown_7 (by decide) h (fun h => ?_) (fun h => ?_)
  ·
    refine g_aload_n E gdX12_shown_14 rfl 1 rfl ?_
    refine g_get (T := TX12) E fw_X12 0 (wM_0 g ad o3) rfl 37 (by decide) w_1503 rfl rfl gdX12_shown_15 ?_
    refine g_iload_n E gdX12_shown_18 rfl 2 rfl ?_
    obtain ⟨hi4, h⟩ := qIn_of h
    refine g_iald E 29 (wM_29 g ad o3) (by decide) hi4 gdX12_shown_19 ?_
    obtain ⟨n5, e_n5, h⟩ := qNm_of h
    refine g_nmi e_n5 ?_
    refine g_sub E [] rfl ?_
    exact j20 o3 n5 h
  ·
    refine g_iload_n E gdX12_shown_10 rfl 0 rfl ?_
    refine g_goto E 20 gdX12_shown_11 (by decide) ?_
    refine g_sub E [] rfl ?_
    exact j20 o3 r1 h
noncomputable def b_X12_comes_118 (o : OO) (x2 : Int) (z5 : Int64) : Option (Int) := qB (s_X12_has z5 x2) (fun r1 => qZ r1 (some r1))
noncomputable def b_X12_comes_115 (o : OO) (x2 : Int) (x3 : Int) (x4 : Int) (z5 : Int64) (x7 : Int) : Option ((Int64 × Int) ⊕ ((Int64))) := some (.inl (z5, x7))
noncomputable def b_X12_comes_109 (o : OO) (x2 : Int) (x3 : Int) (x4 : Int) (z5 : Int64) (x7 : Int) (x8 : Int) : Option ((Int64 × Int × Int) ⊕ ((Int64 × Int))) := some (.inl (z5, x7, x8 + 1))
noncomputable def b_X12_comes_103 (o : OO) (x2 : Int) (x3 : Int) (x4 : Int) (z5 : Int64) (x7 : Int) (x8 : Int) (x9 : Int) : Option ((Int64 × Int × Int) ⊕ ((Int64 × Int))) := some (.inl (z5, x7, x9 + 1))
noncomputable def b_X12_comes_91 (o : OO) (x2 : Int) (x3 : Int) (x4 : Int) (z5 : Int64) (x8 : Int) (x9 : Int) (x10 : Int) : Option ((Int64 × Int × Int) ⊕ ((Int64 × Int))) := qNm (z5 ||| (jshl (1 : Int64) (Int32.ofInt x10))) (fun m3 => b_X12_comes_103 o x2 x3 x4 m3 1 x8 x9)
noncomputable def l_X12_comes_29 (o : OO) (x2 : Int) (x3 : Int) (x4 : Int) (x8 : Int) (z5 : Int64) (x7 : Int) (x9 : Int) : Option ((Int64 × Int × Int) ⊕ ((Int64 × Int))) := qLt x9 4 (qB (s_X12_beside x8 x9) (fun r4 => qB (s_X12_has z5 x8) (fun r6 => qEq r6 0 (b_X12_comes_103 o x2 x3 x4 z5 x7 x8 x9) (qB (s_X12_leads o x8 r4 x3) (fun r8 => qEq r8 0 (b_X12_comes_103 o x2 x3 x4 z5 x7 x8 x9) (qB (s_X12_has z5 r4) (fun r10 => qEq r10 0 (qEq x4 0 (qIn r4 64 (qNm (o.1 58 r4.toNat) (fun n13 => qEq n13 0 (b_X12_comes_91 o x2 x3 x4 z5 x8 x9 r4) (b_X12_comes_103 o x2 x3 x4 z5 x7 x8 x9)))) (b_X12_comes_91 o x2 x3 x4 z5 x8 x9 r4)) (b_X12_comes_103 o x2 x3 x4 z5 x7 x8 x9)))))))) (some (.inr ((z5, x7))))
noncomputable def e_X12_comes_29 (o : OO) (x2 : Int) (x3 : Int) (x4 : Int) (z5 : Int64) (x7 : Int) (x8 : Int) (x9 : Int) : Option ((Int64 × Int × Int) ⊕ ((Int64 × Int))) := qB (loopW (fun s => l_X12_comes_29 o x2 x3 x4 x8 s.1 s.2.1 s.2.2) (z5, x7, x9)) (fun r => b_X12_comes_109 o x2 x3 x4 r.1 r.2 x8)
noncomputable def l_X12_comes_19 (o : OO) (x2 : Int) (x3 : Int) (x4 : Int) (z5 : Int64) (x7 : Int) (x8 : Int) : Option ((Int64 × Int × Int) ⊕ ((Int64 × Int))) := qLt x8 64 (e_X12_comes_29 o x2 x3 x4 z5 x7 x8 0) (some (.inr ((z5, x7))))
noncomputable def e_X12_comes_19 (o : OO) (x2 : Int) (x3 : Int) (x4 : Int) (z5 : Int64) (x7 : Int) (x8 : Int) : Option ((Int64 × Int) ⊕ ((Int64))) := qB (loopW (fun s => l_X12_comes_19 o x2 x3 x4 s.1 s.2.1 s.2.2) (z5, x7, x8)) (fun r => b_X12_comes_115 o x2 x3 x4 r.1 r.2)
noncomputable def l_X12_comes_8 (o : OO) (x2 : Int) (x3 : Int) (x4 : Int) (z5 : Int64) (x7 : Int) : Option ((Int64 × Int) ⊕ ((Int64))) := qEq x7 0 (some (.inr (z5))) (e_X12_comes_19 o x2 x3 x4 z5 0 0)
noncomputable def e_X12_comes_8 (o : OO) (x2 : Int) (x3 : Int) (x4 : Int) (z5 : Int64) (x7 : Int) : Option (Int) := qB (loopW (fun s => l_X12_comes_8 o x2 x3 x4 s.1 s.2) (z5, x7)) (fun r => b_X12_comes_118 o x2 r)
noncomputable def s_X12_comes (o : OO) (x1 : Int) (x2 : Int) (x3 : Int) (x4 : Int) : Option (Int) := qNm (jshl (1 : Int64) (Int32.ofInt x1)) (fun m14 => e_X12_comes_8 o x2 x3 x4 m14 1)
set_option maxHeartbeats 4000000 in
set_option maxRecDepth 100000 in
theorem c_X12_comes (l : Launch) (g : GG) (ad : Nat → Nat) (o : OO) (x1 : Int) (x2 : Int) (x3 : Int) (x4 : Int) (v : Int) (h : s_X12_comes o x1 x2 x3 x4 = some v) : CI l g yX12_comes cX12_comes 11 (some .boolean) 2 46 (wM g ad o) [.ref (ad 0), iv x1, iv x2, iv x3, iv x4] v (wM g ad o) := by
  refine met_I (by decide) (Nat.le_of_ble_eq_true rfl) ?_
  intro X E hQ
  show Go X 0 (wM g ad o) [(0, .ref (ad 0)), (1, iv x1), (2, iv x2), (3, iv x3), (4, iv x4)] []
  have j118 : ∀ (x2 : Int) (z5 : Int64), b_X12_comes_118 o x2 z5 = some v → Go X 118 (wM g ad o) [(2, iv x2), (5, .long z5)] [] := by
    intro x2 z5 h
    unfold b_X12_comes_118 at h
    refine g_lload E gdX12_comes_118 1 rfl ?_
    refine g_iload_n E gdX12_comes_120 rfl 0 rfl ?_
    obtain ⟨r1, hc2, h⟩ := qB_of h
    refine g_Si (r := r1) (As := [.long z5, iv x2]) (rest := []) (w := wM g ad o) E (c_X12_has l g (wM g ad o) z5 x2 r1 hc2) okm_X12_has w_1919 w_1918 rfl rfl (Nat.le_of_ble_eq_true rfl) ⟨Nat.le_of_ble_eq_true rfl, Nat.le_of_ble_eq_true rfl⟩ gdX12_comes_121 ?_
    obtain ⟨hz, h⟩ := qZ_of h
    exact g_zret E hQ hz (Option.some.inj h) rfl gdX12_comes_124
  have j115 : ∀ (x2 : Int) (x3 : Int) (x4 : Int) (z5 : Int64) (x7 : Int) (v : (Int64 × Int) ⊕ ((Int64))), b_X12_comes_115 o x2 x3 x4 z5 x7 = some v → (∀ (z5 : Int64) (x7 : Int), v = .inl (z5, x7) → Go X 8 (wM g ad o) [(0, .ref (ad 0)), (2, iv x2), (3, iv x3), (4, iv x4), (5, .long z5), (7, iv x7)] []) → (∀ (z5 : Int64), v = .inr (z5) → Go X 118 (wM g ad o) [(2, iv x2), (5, .long z5)] []) → Go X 115 (wM g ad o) [(0, .ref (ad 0)), (2, iv x2), (3, iv x3), (4, iv x4), (5, .long z5), (7, iv x7)] [] := by
    intro x2 x3 x4 z5 x7 v h k0 k1
    unfold b_X12_comes_115 at h
    refine g_goto E 8 gdX12_comes_115 (by decide) ?_
    exact k0 z5 x7 (Option.some.inj h).symm
  have j109 : ∀ (x2 : Int) (x3 : Int) (x4 : Int) (z5 : Int64) (x7 : Int) (x8 : Int) (v : (Int64 × Int × Int) ⊕ ((Int64 × Int))), b_X12_comes_109 o x2 x3 x4 z5 x7 x8 = some v → (∀ (z5 : Int64) (x7 : Int) (x8 : Int), v = .inl (z5, x7, x8) → Go X 19 (wM g ad o) [(0, .ref (ad 0)), (2, iv x2), (3, iv x3), (4, iv x4), (5, .long z5), (7, iv x7), (8, iv x8)] []) → (∀ (z5 : Int64) (x7 : Int), v = .inr ((z5, x7)) → Go X 115 (wM g ad o) [(0, .ref (ad 0)), (2, iv x2), (3, iv x3), (4, iv x4), (5, .long z5), (7, iv x7)] []) → Go X 109 (wM g ad o) [(0, .ref (ad 0)), (2, iv x2), (3, iv x3), (4, iv x4), (5, .long z5), (7, iv x7), (8, iv x8)] [] := by
    intro x2 x3 x4 z5 x7 x8 v h k0 k1
    unfold b_X12_comes_109 at h
    refine g_iinc E [(8, iv (x8 + 1)), (0, .ref (ad 0)), (2, iv x2), (3, iv x3), (4, iv x4), (5, .long z5), (7, iv x7)] gdX12_comes_109 6 rfl (by decide) rfl ?_
    refine g_goto E 19 gdX12_comes_112 (by decide) ?_
    refine g_sub E [1, 2, 3, 4, 5, 6, 0] rfl ?_
    exact k0 z5 x7 (x8 + 1) (Option.some.inj h).symm
  have j103 : ∀ (x2 : Int) (x3 : Int) (x4 : Int) (z5 : Int64) (x7 : Int) (x8 : Int) (x9 : Int) (v : (Int64 × Int × Int) ⊕ ((Int64 × Int))), b_X12_comes_103 o x2 x3 x4 z5 x7 x8 x9 = some v → (∀ (z5 : Int64) (x7 : Int) (x9 : Int), v = .inl (z5, x7, x9) → Go X 29 (wM g ad o) [(0, .ref (ad 0)), (2, iv x2), (3, iv x3), (4, iv x4), (5, .long z5), (7, iv x7), (8, iv x8), (9, iv x9)] []) → (∀ (z5 : Int64) (x7 : Int), v = .inr ((z5, x7)) → Go X 109 (wM g ad o) [(0, .ref (ad 0)), (2, iv x2), (3, iv x3), (4, iv x4), (5, .long z5), (7, iv x7), (8, iv x8)] []) → Go X 103 (wM g ad o) [(0, .ref (ad 0)), (2, iv x2), (3, iv x3), (4, iv x4), (5, .long z5), (7, iv x7), (8, iv x8), (9, iv x9)] [] := by
    intro x2 x3 x4 z5 x7 x8 x9 v h k0 k1
    unfold b_X12_comes_103 at h
    refine g_iinc E [(9, iv (x9 + 1)), (0, .ref (ad 0)), (2, iv x2), (3, iv x3), (4, iv x4), (5, .long z5), (7, iv x7), (8, iv x8)] gdX12_comes_103 7 rfl (by decide) rfl ?_
    refine g_goto E 29 gdX12_comes_106 (by decide) ?_
    refine g_sub E [1, 2, 3, 4, 5, 6, 7, 0] rfl ?_
    exact k0 z5 x7 (x9 + 1) (Option.some.inj h).symm
  have j91 : ∀ (x2 : Int) (x3 : Int) (x4 : Int) (z5 : Int64) (x8 : Int) (x9 : Int) (x10 : Int) (v : (Int64 × Int × Int) ⊕ ((Int64 × Int))), b_X12_comes_91 o x2 x3 x4 z5 x8 x9 x10 = some v → (∀ (z5 : Int64) (x7 : Int) (x9 : Int), v = .inl (z5, x7, x9) → Go X 29 (wM g ad o) [(0, .ref (ad 0)), (2, iv x2), (3, iv x3), (4, iv x4), (5, .long z5), (7, iv x7), (8, iv x8), (9, iv x9)] []) → (∀ (z5 : Int64) (x7 : Int), v = .inr ((z5, x7)) → Go X 109 (wM g ad o) [(0, .ref (ad 0)), (2, iv x2), (3, iv x3), (4, iv x4), (5, .long z5), (7, iv x7), (8, iv x8)] []) → Go X 91 (wM g ad o) [(0, .ref (ad 0)), (2, iv x2), (3, iv x3), (4, iv x4), (5, .long z5), (8, iv x8), (9, iv x9), (10, iv x10)] [] := by
    intro x2 x3 x4 z5 x8 x9 x10 v h k0 k1
    unfold b_X12_comes_91 at h
    refine g_lload E gdX12_comes_91 4 rfl ?_
    refine g_lconst (v := 1) E gdX12_comes_93 (by decide) ?_
    refine g_iload E gdX12_comes_94 7 rfl ?_
    refine g_lshl E gdX12_comes_96 ?_
    refine g_lor E gdX12_comes_97 ?_
    obtain ⟨m3, e_m3, h⟩ := qNm_of h
    refine g_nml e_m3 ?_
    refine g_lstore E [(5, .long m3), (0, .ref (ad 0)), (2, iv x2), (3, iv x3), (4, iv x4), (8, iv x8), (9, iv x9), (10, iv x10)] gdX12_comes_98 (by decide) rfl ?_
    refine g_iconst E gdX12_comes_100 ?_
    refine g_istore E [(7, iv 1), (5, .long m3), (0, .ref (ad 0)), (2, iv x2), (3, iv x3), (4, iv x4), (8, iv x8), (9, iv x9), (10, iv x10)] gdX12_comes_101 (by decide) rfl ?_
    refine g_sub E [2, 3, 4, 5, 1, 0, 6, 7] rfl ?_
    exact j103 x2 x3 x4 m3 1 x8 x9 v h k0 k1
  have l29 : ∀ (x2 : Int) (x3 : Int) (x4 : Int) (x8 : Int) (r : (Int64 × Int)) (s0 : Int64 × Int × Int), loopW (fun s => l_X12_comes_29 o x2 x3 x4 x8 s.1 s.2.1 s.2.2) s0 = some r → (∀ (z5 : Int64) (x7 : Int), r = ((z5, x7)) → Go X 109 (wM g ad o) [(0, .ref (ad 0)), (2, iv x2), (3, iv x3), (4, iv x4), (5, .long z5), (7, iv x7), (8, iv x8)] []) → Go X 29 (wM g ad o) [(0, .ref (ad 0)), (2, iv x2), (3, iv x3), (4, iv x4), (5, .long s0.1), (7, iv s0.2.1), (8, iv x8), (9, iv s0.2.2)] [] := by
    intro x2 x3 x4 x8 r s0 h k1
    refine loop_rule (Head := fun s0 => Go X 29 (wM g ad o) [(0, .ref (ad 0)), (2, iv x2), (3, iv x3), (4, iv x4), (5, .long s0.1), (7, iv s0.2.1), (8, iv x8), (9, iv s0.2.2)] []) h ?_
    intro s v h kk kx
    obtain ⟨z5, x7, x9⟩ := s
    have h : l_X12_comes_29 o x2 x3 x4 x8 z5 x7 x9 = some v := h
    have k0 : ∀ (z5 : Int64) (x7 : Int) (x9 : Int), v = .inl (z5, x7, x9) → Go X 29 (wM g ad o) [(0, .ref (ad 0)), (2, iv x2), (3, iv x3), (4, iv x4), (5, .long z5), (7, iv x7), (8, iv x8), (9, iv x9)] [] := fun z5 x7 x9 e => kk (z5, x7, x9) e
    have k1 : ∀ (z5 : Int64) (x7 : Int), v = .inr ((z5, x7)) → Go X 109 (wM g ad o) [(0, .ref (ad 0)), (2, iv x2), (3, iv x3), (4, iv x4), (5, .long z5), (7, iv x7), (8, iv x8)] [] := fun z5 x7 e => k1 z5 x7 (kx _ e).symm
    unfold l_X12_comes_29 at h
    refine g_iload E gdX12_comes_29 7 rfl ?_
    refine g_iconst E gdX12_comes_31 ?_
    refine g_icmp_ge E 109 gdX12_comes_32 (by decide) h (fun h => ?_) (fun h => ?_)
    ·
      refine g_sub E [0, 1, 2, 3, 4, 5, 6] rfl ?_
      exact k1 z5 x7 (Option.some.inj h).symm
    ·
      refine g_iload E gdX12_comes_35 6 rfl ?_
      refine g_iload E gdX12_comes_37 7 rfl ?_
      obtain ⟨r4, hc5, h⟩ := qB_of h
      refine g_Si (r := r4) (As := [iv x8, iv x9]) (rest := []) (w := wM g ad o) E (c_X12_beside l g (wM g ad o) x8 x9 r4 hc5) okm_X12_beside w_1881 w_1880 rfl rfl (Nat.le_of_ble_eq_true rfl) ⟨Nat.le_of_ble_eq_true rfl, Nat.le_of_ble_eq_true rfl⟩ gdX12_comes_39 ?_
      refine g_istore E [(10, iv r4), (0, .ref (ad 0)), (2, iv x2), (3, iv x3), (4, iv x4), (5, .long z5), (7, iv x7), (8, iv x8), (9, iv x9)] gdX12_comes_42 (by decide) rfl ?_
      refine g_lload E gdX12_comes_44 5 rfl ?_
      refine g_iload E gdX12_comes_46 7 rfl ?_
      obtain ⟨r6, hc7, h⟩ := qB_of h
      refine g_Si (r := r6) (As := [.long z5, iv x8]) (rest := []) (w := wM g ad o) E (c_X12_has l g (wM g ad o) z5 x8 r6 hc7) okm_X12_has w_1919 w_1918 rfl rfl (Nat.le_of_ble_eq_true rfl) ⟨Nat.le_of_ble_eq_true rfl, Nat.le_of_ble_eq_true rfl⟩ gdX12_comes_48 ?_
      refine g_if_eq E 103 gdX12_comes_51 (by decide) h (fun h => ?_) (fun h => ?_)
      ·
        refine g_sub E [1, 2, 3, 4, 5, 6, 7, 8] rfl ?_
        exact j103 x2 x3 x4 z5 x7 x8 x9 v h k0 k1
      ·
        refine g_aload_n E gdX12_comes_54 rfl 1 rfl ?_
        refine g_iload E gdX12_comes_55 7 rfl ?_
        refine g_iload E gdX12_comes_57 0 rfl ?_
        refine g_iload_n E gdX12_comes_59 rfl 3 rfl ?_
        obtain ⟨r8, hc9, h⟩ := qB_of h
        refine g_Vi (r := r8) (As := [iv x8, iv r4, iv x3]) (rest := []) (w := wM g ad o) E (c_X12_leads l g ad o x8 r4 x3 r8 hc9) okm_X12_leads okw_X12_leads w_1883 rfl (wM_0 g ad o) rfl rfl (Nat.le_of_ble_eq_true rfl) ⟨Nat.le_of_ble_eq_true rfl, Nat.le_of_ble_eq_true rfl⟩ gdX12_comes_60 ?_
        refine g_if_eq E 103 gdX12_comes_63 (by decide) h (fun h => ?_) (fun h => ?_)
        ·
          refine g_sub E [1, 2, 3, 4, 5, 6, 7, 8] rfl ?_
          exact j103 x2 x3 x4 z5 x7 x8 x9 v h k0 k1
        ·
          refine g_lload E gdX12_comes_66 5 rfl ?_
          refine g_iload E gdX12_comes_68 0 rfl ?_
          obtain ⟨r10, hc11, h⟩ := qB_of h
          refine g_Si (r := r10) (As := [.long z5, iv r4]) (rest := []) (w := wM g ad o) E (c_X12_has l g (wM g ad o) z5 r4 r10 hc11) okm_X12_has w_1919 w_1918 rfl rfl (Nat.le_of_ble_eq_true rfl) ⟨Nat.le_of_ble_eq_true rfl, Nat.le_of_ble_eq_true rfl⟩ gdX12_comes_70 ?_
          refine g_if_ne E 103 gdX12_comes_73 (by decide) h (fun h => ?_) (fun h => ?_)
          ·
            refine g_sub E [1, 2, 3, 4, 5, 6, 7, 8] rfl ?_
            exact j103 x2 x3 x4 z5 x7 x8 x9 v h k0 k1
          ·
            refine g_iload E gdX12_comes_76 4 rfl ?_
            refine g_if_ne E 91 gdX12_comes_78 (by decide) h (fun h => ?_) (fun h => ?_)
            ·
              refine g_sub E [1, 2, 3, 4, 5, 7, 8, 0] rfl ?_
              exact j91 x2 x3 x4 z5 x8 x9 r4 v h k0 k1
            ·
              refine g_aload_n E gdX12_comes_81 rfl 1 rfl ?_
              refine g_get (T := TX12) E fw_X12 0 (wM_0 g ad o) rfl 71 (by decide) w_1537 rfl rfl gdX12_comes_82 ?_
              refine g_iload E gdX12_comes_85 0 rfl ?_
              obtain ⟨hi12, h⟩ := qIn_of h
              refine g_zald E 58 (wM_58 g ad o) (by decide) hi12 gdX12_comes_87 ?_
              obtain ⟨n13, e_n13, h⟩ := qNm_of h
              refine g_nmi e_n13 ?_
              refine g_if_ne E 103 gdX12_comes_88 (by decide) h (fun h => ?_) (fun h => ?_)
              ·
                refine g_sub E [1, 2, 3, 4, 5, 6, 7, 8] rfl ?_
                exact j103 x2 x3 x4 z5 x7 x8 x9 v h k0 k1
              ·
                refine g_sub E [1, 2, 3, 4, 5, 7, 8, 0] rfl ?_
                exact j91 x2 x3 x4 z5 x8 x9 r4 v h k0 k1
  have j29 : ∀ (x2 : Int) (x3 : Int) (x4 : Int) (z5 : Int64) (x7 : Int) (x8 : Int) (x9 : Int) (v : (Int64 × Int × Int) ⊕ ((Int64 × Int))), e_X12_comes_29 o x2 x3 x4 z5 x7 x8 x9 = some v → (∀ (z5 : Int64) (x7 : Int) (x8 : Int), v = .inl (z5, x7, x8) → Go X 19 (wM g ad o) [(0, .ref (ad 0)), (2, iv x2), (3, iv x3), (4, iv x4), (5, .long z5), (7, iv x7), (8, iv x8)] []) → (∀ (z5 : Int64) (x7 : Int), v = .inr ((z5, x7)) → Go X 115 (wM g ad o) [(0, .ref (ad 0)), (2, iv x2), (3, iv x3), (4, iv x4), (5, .long z5), (7, iv x7)] []) → Go X 29 (wM g ad o) [(0, .ref (ad 0)), (2, iv x2), (3, iv x3), (4, iv x4), (5, .long z5), (7, iv x7), (8, iv x8), (9, iv x9)] [] := by
    intro x2 x3 x4 z5 x7 x8 x9 v h k0 k1
    unfold e_X12_comes_29 at h
    obtain ⟨r, hr, h⟩ := qB_of h
    refine l29 x2 x3 x4 x8 r _ hr ?_
    ·
      intro u0 u1 e
      subst e
      have h : b_X12_comes_109 o x2 x3 x4 u0 u1 x8 = some v := h
      exact j109 x2 x3 x4 u0 u1 x8 v h k0 k1
  have l19 : ∀ (x2 : Int) (x3 : Int) (x4 : Int) (r : (Int64 × Int)) (s0 : Int64 × Int × Int), loopW (fun s => l_X12_comes_19 o x2 x3 x4 s.1 s.2.1 s.2.2) s0 = some r → (∀ (z5 : Int64) (x7 : Int), r = ((z5, x7)) → Go X 115 (wM g ad o) [(0, .ref (ad 0)), (2, iv x2), (3, iv x3), (4, iv x4), (5, .long z5), (7, iv x7)] []) → Go X 19 (wM g ad o) [(0, .ref (ad 0)), (2, iv x2), (3, iv x3), (4, iv x4), (5, .long s0.1), (7, iv s0.2.1), (8, iv s0.2.2)] [] := by
    intro x2 x3 x4 r s0 h k1
    refine loop_rule (Head := fun s0 => Go X 19 (wM g ad o) [(0, .ref (ad 0)), (2, iv x2), (3, iv x3), (4, iv x4), (5, .long s0.1), (7, iv s0.2.1), (8, iv s0.2.2)] []) h ?_
    intro s v h kk kx
    obtain ⟨z5, x7, x8⟩ := s
    have h : l_X12_comes_19 o x2 x3 x4 z5 x7 x8 = some v := h
    have k0 : ∀ (z5 : Int64) (x7 : Int) (x8 : Int), v = .inl (z5, x7, x8) → Go X 19 (wM g ad o) [(0, .ref (ad 0)), (2, iv x2), (3, iv x3), (4, iv x4), (5, .long z5), (7, iv x7), (8, iv x8)] [] := fun z5 x7 x8 e => kk (z5, x7, x8) e
    have k1 : ∀ (z5 : Int64) (x7 : Int), v = .inr ((z5, x7)) → Go X 115 (wM g ad o) [(0, .ref (ad 0)), (2, iv x2), (3, iv x3), (4, iv x4), (5, .long z5), (7, iv x7)] [] := fun z5 x7 e => k1 z5 x7 (kx _ e).symm
    unfold l_X12_comes_19 at h
    refine g_iload E gdX12_comes_19 6 rfl ?_
    refine g_bipush E gdX12_comes_21 (by decide) ?_
    refine g_icmp_ge E 115 gdX12_comes_23 (by decide) h (fun h => ?_) (fun h => ?_)
    ·
      refine g_sub E [0, 1, 2, 3, 4, 5] rfl ?_
      exact k1 z5 x7 (Option.some.inj h).symm
    ·
      refine g_iconst E gdX12_comes_26 ?_
      refine g_istore E [(9, iv 0), (0, .ref (ad 0)), (2, iv x2), (3, iv x3), (4, iv x4), (5, .long z5), (7, iv x7), (8, iv x8)] gdX12_comes_27 (by decide) rfl ?_
      refine g_sub E [1, 2, 3, 4, 5, 6, 7, 0] rfl ?_
      exact j29 x2 x3 x4 z5 x7 x8 0 v h k0 k1
  have j19 : ∀ (x2 : Int) (x3 : Int) (x4 : Int) (z5 : Int64) (x7 : Int) (x8 : Int) (v : (Int64 × Int) ⊕ ((Int64))), e_X12_comes_19 o x2 x3 x4 z5 x7 x8 = some v → (∀ (z5 : Int64) (x7 : Int), v = .inl (z5, x7) → Go X 8 (wM g ad o) [(0, .ref (ad 0)), (2, iv x2), (3, iv x3), (4, iv x4), (5, .long z5), (7, iv x7)] []) → (∀ (z5 : Int64), v = .inr (z5) → Go X 118 (wM g ad o) [(2, iv x2), (5, .long z5)] []) → Go X 19 (wM g ad o) [(0, .ref (ad 0)), (2, iv x2), (3, iv x3), (4, iv x4), (5, .long z5), (7, iv x7), (8, iv x8)] [] := by
    intro x2 x3 x4 z5 x7 x8 v h k0 k1
    unfold e_X12_comes_19 at h
    obtain ⟨r, hr, h⟩ := qB_of h
    refine l19 x2 x3 x4 r _ hr ?_
    ·
      intro u0 u1 e
      subst e
      have h : b_X12_comes_115 o x2 x3 x4 u0 u1 = some v := h
      exact j115 x2 x3 x4 u0 u1 v h k0 k1
  have l8 : ∀ (x2 : Int) (x3 : Int) (x4 : Int) (r : (Int64)) (s0 : Int64 × Int), loopW (fun s => l_X12_comes_8 o x2 x3 x4 s.1 s.2) s0 = some r → (∀ (z5 : Int64), r = (z5) → Go X 118 (wM g ad o) [(2, iv x2), (5, .long z5)] []) → Go X 8 (wM g ad o) [(0, .ref (ad 0)), (2, iv x2), (3, iv x3), (4, iv x4), (5, .long s0.1), (7, iv s0.2)] [] := by
    intro x2 x3 x4 r s0 h k1
    refine loop_rule (Head := fun s0 => Go X 8 (wM g ad o) [(0, .ref (ad 0)), (2, iv x2), (3, iv x3), (4, iv x4), (5, .long s0.1), (7, iv s0.2)] []) h ?_
    intro s v h kk kx
    obtain ⟨z5, x7⟩ := s
    have h : l_X12_comes_8 o x2 x3 x4 z5 x7 = some v := h
    have k0 : ∀ (z5 : Int64) (x7 : Int), v = .inl (z5, x7) → Go X 8 (wM g ad o) [(0, .ref (ad 0)), (2, iv x2), (3, iv x3), (4, iv x4), (5, .long z5), (7, iv x7)] [] := fun z5 x7 e => kk (z5, x7) e
    have k1 : ∀ (z5 : Int64), v = .inr (z5) → Go X 118 (wM g ad o) [(2, iv x2), (5, .long z5)] [] := fun z5 e => k1 z5 (kx _ e).symm
    unfold l_X12_comes_8 at h
    refine g_iload E gdX12_comes_8 5 rfl ?_
    refine g_if_eq E 118 gdX12_comes_10 (by decide) h (fun h => ?_) (fun h => ?_)
    ·
      refine g_sub E [1, 4] rfl ?_
      exact k1 z5 (Option.some.inj h).symm
    ·
      refine g_iconst E gdX12_comes_13 ?_
      refine g_istore E [(7, iv 0), (0, .ref (ad 0)), (2, iv x2), (3, iv x3), (4, iv x4), (5, .long z5)] gdX12_comes_14 (by decide) rfl ?_
      refine g_iconst E gdX12_comes_16 ?_
      refine g_istore E [(8, iv 0), (7, iv 0), (0, .ref (ad 0)), (2, iv x2), (3, iv x3), (4, iv x4), (5, .long z5)] gdX12_comes_17 (by decide) rfl ?_
      refine g_sub E [2, 3, 4, 5, 6, 1, 0] rfl ?_
      exact j19 x2 x3 x4 z5 0 0 v h k0 k1
  have j8 : ∀ (x2 : Int) (x3 : Int) (x4 : Int) (z5 : Int64) (x7 : Int), e_X12_comes_8 o x2 x3 x4 z5 x7 = some v → Go X 8 (wM g ad o) [(0, .ref (ad 0)), (2, iv x2), (3, iv x3), (4, iv x4), (5, .long z5), (7, iv x7)] [] := by
    intro x2 x3 x4 z5 x7 h
    unfold e_X12_comes_8 at h
    obtain ⟨r, hr, h⟩ := qB_of h
    refine l8 x2 x3 x4 r _ hr ?_
    ·
      intro u0 e
      have e := e.symm
      subst e
      have h : b_X12_comes_118 o x2 u0 = some v := h
      exact j118 x2 u0 h
  unfold s_X12_comes at h
  refine g_lconst (v := 1) E gdX12_comes_0 (by decide) ?_
  refine g_iload_n E gdX12_comes_1 rfl 1 rfl ?_
  refine g_lshl E gdX12_comes_2 ?_
  obtain ⟨m14, e_m14, h⟩ := qNm_of h
  refine g_nml e_m14 ?_
  refine g_lstore E [(5, .long m14), (0, .ref (ad 0)), (1, iv x1), (2, iv x2), (3, iv x3), (4, iv x4)] gdX12_comes_3 (by decide) rfl ?_
  refine g_iconst E gdX12_comes_5 ?_
  refine g_istore E [(7, iv 1), (5, .long m14), (0, .ref (ad 0)), (1, iv x1), (2, iv x2), (3, iv x3), (4, iv x4)] gdX12_comes_6 (by decide) rfl ?_
  refine g_sub E [2, 4, 5, 6, 1, 0] rfl ?_
  exact j8 x2 x3 x4 m14 1 h
noncomputable def b_X12_finds_346 (o : OO) (y0 : Int) : Option (Int × OO) := qZ y0 (some (y0, o))
noncomputable def b_X12_finds_330 (o : OO) (x2 : Int) : Option (Int × OO) := qIn (2 * x2) 128 (qNm (o.1 61 (2 * x2).toNat) (fun n2 => qLt n2 0 (b_X12_finds_346 o 0) (b_X12_finds_346 o 1)))
noncomputable def b_X12_finds_327 (o : OO) (x2 : Int) (x3 : Int) (x4 : Int) (x5 : Int) : Option ((OO × Int × Int) ⊕ ((OO))) := some (.inl (o, x4, x5))
noncomputable def b_X12_finds_283 (o : OO) (x2 : Int) (x3 : Int) (x4 : Int) (x5 : Int) (x6 : Int) (x7 : Int) (x8 : Int) (y0 : Int) : Option ((OO × Int × Int) ⊕ ((OO))) := qEq x8 0 (b_X12_finds_327 o x2 x3 x4 x5) (qEq x7 x2 (b_X12_finds_327 o x2 x3 x4 x5) (qIn y0 128 (qNm (o.1 61 y0.toNat) (fun n4 => qLt n4 0 (qIn y0 128 (qNm (st1 o 61 y0.toNat x6) (fun o6 => qIn x5 128 (qNm (st1 o6 62 x5.toNat y0) (fun o8 => b_X12_finds_327 o8 x2 x3 x4 (x5 + 1)))))) (b_X12_finds_327 o x2 x3 x4 x5)))))
noncomputable def b_X12_finds_263 (o : OO) (x2 : Int) (x3 : Int) (x4 : Int) (x5 : Int) (x6 : Int) (x7 : Int) (y0 : Int) : Option ((OO × Int × Int) ⊕ ((OO))) := qDv x6 2 (qEq (x6 - jq x6 2 * 2) 0 (b_X12_finds_283 o x2 x3 x4 x5 x6 x7 y0 (x6 + 1)) (b_X12_finds_283 o x2 x3 x4 x5 x6 x7 y0 (x6 - 1)))
noncomputable def b_X12_finds_240 (o : OO) (x2 : Int) (x3 : Int) (x4 : Int) (x5 : Int) (x6 : Int) (x7 : Int) : Option ((OO × Int × Int) ⊕ ((OO))) := b_X12_finds_263 o x2 x3 x4 x5 x6 x7 1
noncomputable def b_X12_finds_213 (o : OO) (x2 : Int) (x3 : Int) (x4 : Int) (x5 : Int) (x6 : Int) (x7 : Int) : Option ((OO × Int × Int) ⊕ ((OO))) := qDv x6 2 (qEq (x6 - jq x6 2 * 2) 0 (qIn x7 64 (qNm (o.1 58 x7.toNat) (fun n14 => qEq n14 0 (b_X12_finds_240 o x2 x3 x4 x5 x6 x7) (qIn x7 64 (qNm (o.1 59 x7.toNat) (fun n16 => qEq n16 0 (b_X12_finds_240 o x2 x3 x4 x5 x6 x7) (b_X12_finds_263 o x2 x3 x4 x5 x6 x7 0))))))) (qIn x7 64 (qNm (o.1 59 x7.toNat) (fun n12 => qLt 0 n12 (b_X12_finds_263 o x2 x3 x4 x5 x6 x7 1) (b_X12_finds_263 o x2 x3 x4 x5 x6 x7 0)))))
noncomputable def b_X12_finds_207 (o : OO) (x2 : Int) (x3 : Int) (x4 : Int) (x5 : Int) (x6 : Int) (x7 : Int) (x8 : Int) : Option ((OO × Int × Int) ⊕ ((OO × Int))) := some (.inl (o, x5, x8 + 1))
noncomputable def b_X12_finds_169 (o : OO) (x2 : Int) (x3 : Int) (x4 : Int) (x5 : Int) (x6 : Int) (x7 : Int) (x8 : Int) (y0 : Int) : Option ((OO × Int × Int) ⊕ ((OO × Int))) := qLt y0 0 (b_X12_finds_207 o x2 x3 x4 x5 x6 x7 x8) (qIn y0 128 (qNm (o.1 61 y0.toNat) (fun n18 => qLt n18 0 (qIn y0 128 (qNm (st1 o 61 y0.toNat x6) (fun o20 => qIn x5 128 (qNm (st1 o20 62 x5.toNat y0) (fun o22 => b_X12_finds_207 o22 x2 x3 x4 (x5 + 1) x6 x7 x8))))) (b_X12_finds_207 o x2 x3 x4 x5 x6 x7 x8))))
noncomputable def l_X12_finds_86 (x2 : Int) (x3 : Int) (x4 : Int) (x6 : Int) (x7 : Int) (o : OO) (x5 : Int) (x8 : Int) : Option ((OO × Int × Int) ⊕ ((OO × Int))) := qLt x8 4 (qB (s_X12_beside x7 x8) (fun r23 => qLt r23 0 (b_X12_finds_207 o x2 x3 x4 x5 x6 x7 x8) (qDv x6 2 (qEq (x6 - jq x6 2 * 2) 1 (qB (s_X12_leads o x7 r23 x3) (fun r28 => qEq r28 0 (b_X12_finds_169 o x2 x3 x4 x5 x6 x7 x8 (-9)) (b_X12_finds_169 o x2 x3 x4 x5 x6 x7 x8 (2 * r23)))) (qIn (((4 * r23) + 3) - x8) 256 (qNm (o.1 60 (((4 * r23) + 3) - x8).toNat) (fun n27 => qLt 0 n27 (b_X12_finds_169 o x2 x3 x4 x5 x6 x7 x8 ((2 * r23) + 1)) (b_X12_finds_169 o x2 x3 x4 x5 x6 x7 x8 (-9))))))))) (some (.inr ((o, x5))))
noncomputable def e_X12_finds_86 (o : OO) (x2 : Int) (x3 : Int) (x4 : Int) (x5 : Int) (x6 : Int) (x7 : Int) (x8 : Int) : Option ((OO × Int × Int) ⊕ ((OO))) := qB (loopW (fun s => l_X12_finds_86 x2 x3 x4 x6 x7 s.1 s.2.1 s.2.2) (o, x5, x8)) (fun r => b_X12_finds_213 r.1 x2 x3 x4 r.2 x6 x7)
noncomputable def l_X12_finds_58 (x2 : Int) (x3 : Int) (o : OO) (x4 : Int) (x5 : Int) : Option ((OO × Int × Int) ⊕ ((OO))) := qLt x4 x5 (qIn x4 128 (qNm (o.1 62 x4.toNat) (fun n31 => qDv n31 2 (qNm (jq n31 2) (fun n33 => e_X12_finds_86 o x2 x3 (x4 + 1) x5 n31 n33 0))))) (some (.inr (o)))
noncomputable def e_X12_finds_58 (o : OO) (x2 : Int) (x3 : Int) (x4 : Int) (x5 : Int) : Option (Int × OO) := qB (loopW (fun s => l_X12_finds_58 x2 x3 s.1 s.2.1 s.2.2) (o, x4, x5)) (fun r => b_X12_finds_330 r x2)
noncomputable def b_X12_finds_26 (o : OO) (x1 : Int) (x2 : Int) (x3 : Int) : Option (Int × OO) := qNm (st1 o 62 ((0 : Int).toNat) ((2 * x1) + 1)) (fun o34 => qIn ((2 * x1) + 1) 128 (qNm (st1 o34 61 (((2 * x1) + 1).toNat) ((2 * x1) + 1)) (fun o36 => e_X12_finds_58 o36 x2 x3 0 1)))
noncomputable def l_X12_finds_3 (x1 : Int) (x2 : Int) (x3 : Int) (o : OO) (x4 : Int) : Option ((OO × Int) ⊕ ((OO))) := qLt x4 128 (qIn x4 128 (qNm (st1 o 61 x4.toNat (-9)) (fun o38 => some (.inl (o38, x4 + 1))))) (some (.inr (o)))
noncomputable def e_X12_finds_3 (o : OO) (x1 : Int) (x2 : Int) (x3 : Int) (x4 : Int) : Option (Int × OO) := qB (loopW (fun s => l_X12_finds_3 x1 x2 x3 s.1 s.2) (o, x4)) (fun r => b_X12_finds_26 r x1 x2 x3)
noncomputable def s_X12_finds (o : OO) (x1 : Int) (x2 : Int) (x3 : Int) : Option (Int × OO) := e_X12_finds_3 o x1 x2 x3 0
set_option maxHeartbeats 4000000 in
set_option maxRecDepth 100000 in
theorem c_X12_finds (l : Launch) (g : GG) (ad : Nat → Nat) (o : OO) (x1 : Int) (x2 : Int) (x3 : Int) (v : Int × OO) (h : s_X12_finds o x1 x2 x3 = some v) : CI l g yX12_finds cX12_finds 11 (some .boolean) 2 46 (wM g ad o) [.ref (ad 0), iv x1, iv x2, iv x3] v.1 (wM g ad v.2) := by
  refine met_I (by decide) (Nat.le_of_ble_eq_true rfl) ?_
  intro X E hQ
  show Go X 0 (wM g ad o) [(0, .ref (ad 0)), (1, iv x1), (2, iv x2), (3, iv x3)] []
  have j346 : ∀ (o : OO) (y0 : Int), b_X12_finds_346 o y0 = some v → Go X 346 (wM g ad o) [] [iv y0] := by
    intro o y0 h
    unfold b_X12_finds_346 at h
    obtain ⟨hz, h⟩ := qZ_of h
    exact g_zret E hQ hz (by rw [← Option.some.inj h]) (by rw [← Option.some.inj h]) gdX12_finds_346
  have j330 : ∀ (o : OO) (x2 : Int), b_X12_finds_330 o x2 = some v → Go X 330 (wM g ad o) [(0, .ref (ad 0)), (2, iv x2)] [] := by
    intro o x2 h
    unfold b_X12_finds_330 at h
    refine g_aload_n E gdX12_finds_330 rfl 0 rfl ?_
    refine g_get (T := TX12) E fw_X12 0 (wM_0 g ad o) rfl 74 (by decide) w_1540 rfl rfl gdX12_finds_331 ?_
    refine g_iconst E gdX12_finds_334 ?_
    refine g_iload_n E gdX12_finds_335 rfl 1 rfl ?_
    refine g_imul E gdX12_finds_336 ?_
    obtain ⟨hi1, h⟩ := qIn_of h
    refine g_iald E 61 (wM_61 g ad o) (by decide) hi1 gdX12_finds_337 ?_
    obtain ⟨n2, e_n2, h⟩ := qNm_of h
    refine g_nmi e_n2 ?_
    refine g_if_lt E 345 gdX12_finds_338 (by decide) h (fun h => ?_) (fun h => ?_)
    ·
      refine g_iconst E gdX12_finds_345 ?_
      refine g_sub E [] rfl ?_
      exact j346 o 0 h
    ·
      refine g_iconst E gdX12_finds_341 ?_
      refine g_goto E 346 gdX12_finds_342 (by decide) ?_
      refine g_sub E [] rfl ?_
      exact j346 o 1 h
  have j327 : ∀ (o : OO) (x2 : Int) (x3 : Int) (x4 : Int) (x5 : Int) (v : (OO × Int × Int) ⊕ ((OO))), b_X12_finds_327 o x2 x3 x4 x5 = some v → (∀ (o : OO) (x4 : Int) (x5 : Int), v = .inl (o, x4, x5) → Go X 58 (wM g ad o) [(0, .ref (ad 0)), (2, iv x2), (3, iv x3), (4, iv x4), (5, iv x5)] []) → (∀ (o : OO), v = .inr (o) → Go X 330 (wM g ad o) [(0, .ref (ad 0)), (2, iv x2)] []) → Go X 327 (wM g ad o) [(0, .ref (ad 0)), (2, iv x2), (3, iv x3), (4, iv x4), (5, iv x5)] [] := by
    intro o x2 x3 x4 x5 v h k0 k1
    unfold b_X12_finds_327 at h
    refine g_goto E 58 gdX12_finds_327 (by decide) ?_
    exact k0 o x4 x5 (Option.some.inj h).symm
  have j283 : ∀ (o : OO) (x2 : Int) (x3 : Int) (x4 : Int) (x5 : Int) (x6 : Int) (x7 : Int) (x8 : Int) (y0 : Int) (v : (OO × Int × Int) ⊕ ((OO))), b_X12_finds_283 o x2 x3 x4 x5 x6 x7 x8 y0 = some v → (∀ (o : OO) (x4 : Int) (x5 : Int), v = .inl (o, x4, x5) → Go X 58 (wM g ad o) [(0, .ref (ad 0)), (2, iv x2), (3, iv x3), (4, iv x4), (5, iv x5)] []) → (∀ (o : OO), v = .inr (o) → Go X 330 (wM g ad o) [(0, .ref (ad 0)), (2, iv x2)] []) → Go X 283 (wM g ad o) [(0, .ref (ad 0)), (2, iv x2), (3, iv x3), (4, iv x4), (5, iv x5), (6, iv x6), (7, iv x7), (8, iv x8)] [iv y0] := by
    intro o x2 x3 x4 x5 x6 x7 x8 y0 v h k0 k1
    unfold b_X12_finds_283 at h
    refine g_istore E [(9, iv y0), (0, .ref (ad 0)), (2, iv x2), (3, iv x3), (4, iv x4), (5, iv x5), (6, iv x6), (7, iv x7), (8, iv x8)] gdX12_finds_283 (by decide) rfl ?_
    refine g_iload E gdX12_finds_285 8 rfl ?_
    refine g_if_eq E 327 gdX12_finds_287 (by decide) h (fun h => ?_) (fun h => ?_)
    ·
      refine g_sub E [1, 2, 3, 4, 5] rfl ?_
      exact j327 o x2 x3 x4 x5 v h k0 k1
    ·
      refine g_iload E gdX12_finds_290 7 rfl ?_
      refine g_iload_n E gdX12_finds_292 rfl 2 rfl ?_
      refine g_icmp_eq E 327 gdX12_finds_293 (by decide) h (fun h => ?_) (fun h => ?_)
      ·
        refine g_sub E [1, 2, 3, 4, 5] rfl ?_
        exact j327 o x2 x3 x4 x5 v h k0 k1
      ·
        refine g_aload_n E gdX12_finds_296 rfl 1 rfl ?_
        refine g_get (T := TX12) E fw_X12 0 (wM_0 g ad o) rfl 74 (by decide) w_1540 rfl rfl gdX12_finds_297 ?_
        refine g_iload E gdX12_finds_300 0 rfl ?_
        obtain ⟨hi3, h⟩ := qIn_of h
        refine g_iald E 61 (wM_61 g ad o) (by decide) hi3 gdX12_finds_302 ?_
        obtain ⟨n4, e_n4, h⟩ := qNm_of h
        refine g_nmi e_n4 ?_
        refine g_if_ge E 327 gdX12_finds_303 (by decide) h (fun h => ?_) (fun h => ?_)
        ·
          refine g_sub E [1, 2, 3, 4, 5] rfl ?_
          exact j327 o x2 x3 x4 x5 v h k0 k1
        ·
          refine g_aload_n E gdX12_finds_306 rfl 1 rfl ?_
          refine g_get (T := TX12) E fw_X12 0 (wM_0 g ad o) rfl 74 (by decide) w_1540 rfl rfl gdX12_finds_307 ?_
          refine g_iload E gdX12_finds_310 0 rfl ?_
          refine g_iload E gdX12_finds_312 6 rfl ?_
          obtain ⟨hi5, h⟩ := qIn_of h
          obtain ⟨o6, e_o6, h⟩ := qNm_of h
          refine g_iast (ws' := wM g ad o6) E 61 (wM_61 g ad o) (by decide) hi5 (by rw [e_o6]; exact wM_s61 g ad o _ _) gdX12_finds_314 ?_
          refine g_aload_n E gdX12_finds_315 rfl 1 rfl ?_
          refine g_get (T := TX12) E fw_X12 0 (wM_0 g ad o6) rfl 75 (by decide) w_1541 rfl rfl gdX12_finds_316 ?_
          refine g_iload E gdX12_finds_319 5 rfl ?_
          refine g_iload E gdX12_finds_321 0 rfl ?_
          obtain ⟨hi7, h⟩ := qIn_of h
          obtain ⟨o8, e_o8, h⟩ := qNm_of h
          refine g_iast (ws' := wM g ad o8) E 62 (wM_62 g ad o6) (by decide) hi7 (by rw [e_o8]; exact wM_s62 g ad o6 _ _) gdX12_finds_323 ?_
          refine g_iinc E [(5, iv (x5 + 1)), (9, iv y0), (0, .ref (ad 0)), (2, iv x2), (3, iv x3), (4, iv x4), (6, iv x6), (7, iv x7), (8, iv x8)] gdX12_finds_324 5 rfl (by decide) rfl ?_
          refine g_sub E [2, 3, 4, 5, 0] rfl ?_
          exact j327 o8 x2 x3 x4 (x5 + 1) v h k0 k1
  have j263 : ∀ (o : OO) (x2 : Int) (x3 : Int) (x4 : Int) (x5 : Int) (x6 : Int) (x7 : Int) (y0 : Int) (v : (OO × Int × Int) ⊕ ((OO))), b_X12_finds_263 o x2 x3 x4 x5 x6 x7 y0 = some v → (∀ (o : OO) (x4 : Int) (x5 : Int), v = .inl (o, x4, x5) → Go X 58 (wM g ad o) [(0, .ref (ad 0)), (2, iv x2), (3, iv x3), (4, iv x4), (5, iv x5)] []) → (∀ (o : OO), v = .inr (o) → Go X 330 (wM g ad o) [(0, .ref (ad 0)), (2, iv x2)] []) → Go X 263 (wM g ad o) [(0, .ref (ad 0)), (2, iv x2), (3, iv x3), (4, iv x4), (5, iv x5), (6, iv x6), (7, iv x7)] [iv y0] := by
    intro o x2 x3 x4 x5 x6 x7 y0 v h k0 k1
    unfold b_X12_finds_263 at h
    refine g_istore E [(8, iv y0), (0, .ref (ad 0)), (2, iv x2), (3, iv x3), (4, iv x4), (5, iv x5), (6, iv x6), (7, iv x7)] gdX12_finds_263 (by decide) rfl ?_
    refine g_iload E gdX12_finds_265 6 rfl ?_
    refine g_iconst E gdX12_finds_267 ?_
    obtain ⟨hd9, h⟩ := qDv_of h
    refine g_irem E hd9 gdX12_finds_268 ?_
    refine g_if_ne E 279 gdX12_finds_269 (by decide) h (fun h => ?_) (fun h => ?_)
    ·
      refine g_iload E gdX12_finds_279 6 rfl ?_
      refine g_iconst E gdX12_finds_281 ?_
      refine g_isub E gdX12_finds_282 ?_
      refine g_sub E [1, 2, 3, 4, 5, 6, 7, 0] rfl ?_
      exact j283 o x2 x3 x4 x5 x6 x7 y0 (x6 - 1) v h k0 k1
    ·
      refine g_iload E gdX12_finds_272 6 rfl ?_
      refine g_iconst E gdX12_finds_274 ?_
      refine g_iadd E gdX12_finds_275 ?_
      refine g_goto E 283 gdX12_finds_276 (by decide) ?_
      refine g_sub E [1, 2, 3, 4, 5, 6, 7, 0] rfl ?_
      exact j283 o x2 x3 x4 x5 x6 x7 y0 (x6 + 1) v h k0 k1
  have j240 : ∀ (o : OO) (x2 : Int) (x3 : Int) (x4 : Int) (x5 : Int) (x6 : Int) (x7 : Int) (v : (OO × Int × Int) ⊕ ((OO))), b_X12_finds_240 o x2 x3 x4 x5 x6 x7 = some v → (∀ (o : OO) (x4 : Int) (x5 : Int), v = .inl (o, x4, x5) → Go X 58 (wM g ad o) [(0, .ref (ad 0)), (2, iv x2), (3, iv x3), (4, iv x4), (5, iv x5)] []) → (∀ (o : OO), v = .inr (o) → Go X 330 (wM g ad o) [(0, .ref (ad 0)), (2, iv x2)] []) → Go X 240 (wM g ad o) [(0, .ref (ad 0)), (2, iv x2), (3, iv x3), (4, iv x4), (5, iv x5), (6, iv x6), (7, iv x7)] [] := by
    intro o x2 x3 x4 x5 x6 x7 v h k0 k1
    unfold b_X12_finds_240 at h
    refine g_iconst E gdX12_finds_240 ?_
    refine g_goto E 263 gdX12_finds_241 (by decide) ?_
    exact j263 o x2 x3 x4 x5 x6 x7 1 v h k0 k1
  have j213 : ∀ (o : OO) (x2 : Int) (x3 : Int) (x4 : Int) (x5 : Int) (x6 : Int) (x7 : Int) (v : (OO × Int × Int) ⊕ ((OO))), b_X12_finds_213 o x2 x3 x4 x5 x6 x7 = some v → (∀ (o : OO) (x4 : Int) (x5 : Int), v = .inl (o, x4, x5) → Go X 58 (wM g ad o) [(0, .ref (ad 0)), (2, iv x2), (3, iv x3), (4, iv x4), (5, iv x5)] []) → (∀ (o : OO), v = .inr (o) → Go X 330 (wM g ad o) [(0, .ref (ad 0)), (2, iv x2)] []) → Go X 213 (wM g ad o) [(0, .ref (ad 0)), (2, iv x2), (3, iv x3), (4, iv x4), (5, iv x5), (6, iv x6), (7, iv x7)] [] := by
    intro o x2 x3 x4 x5 x6 x7 v h k0 k1
    unfold b_X12_finds_213 at h
    refine g_iload E gdX12_finds_213 5 rfl ?_
    refine g_iconst E gdX12_finds_215 ?_
    obtain ⟨hd10, h⟩ := qDv_of h
    refine g_irem E hd10 gdX12_finds_216 ?_
    refine g_if_ne E 248 gdX12_finds_217 (by decide) h (fun h => ?_) (fun h => ?_)
    ·
      refine g_aload_n E gdX12_finds_248 rfl 0 rfl ?_
      refine g_get (T := TX12) E fw_X12 0 (wM_0 g ad o) rfl 72 (by decide) w_1538 rfl rfl gdX12_finds_249 ?_
      refine g_iload E gdX12_finds_252 6 rfl ?_
      obtain ⟨hi11, h⟩ := qIn_of h
      refine g_iald E 59 (wM_59 g ad o) (by decide) hi11 gdX12_finds_254 ?_
      obtain ⟨n12, e_n12, h⟩ := qNm_of h
      refine g_nmi e_n12 ?_
      refine g_if_le E 262 gdX12_finds_255 (by decide) h (fun h => ?_) (fun h => ?_)
      ·
        refine g_iconst E gdX12_finds_262 ?_
        exact j263 o x2 x3 x4 x5 x6 x7 0 v h k0 k1
      ·
        refine g_iconst E gdX12_finds_258 ?_
        refine g_goto E 263 gdX12_finds_259 (by decide) ?_
        exact j263 o x2 x3 x4 x5 x6 x7 1 v h k0 k1
    ·
      refine g_aload_n E gdX12_finds_220 rfl 0 rfl ?_
      refine g_get (T := TX12) E fw_X12 0 (wM_0 g ad o) rfl 71 (by decide) w_1537 rfl rfl gdX12_finds_221 ?_
      refine g_iload E gdX12_finds_224 6 rfl ?_
      obtain ⟨hi13, h⟩ := qIn_of h
      refine g_zald E 58 (wM_58 g ad o) (by decide) hi13 gdX12_finds_226 ?_
      obtain ⟨n14, e_n14, h⟩ := qNm_of h
      refine g_nmi e_n14 ?_
      refine g_if_eq E 240 gdX12_finds_227 (by decide) h (fun h => ?_) (fun h => ?_)
      ·
        exact j240 o x2 x3 x4 x5 x6 x7 v h k0 k1
      ·
        refine g_aload_n E gdX12_finds_230 rfl 0 rfl ?_
        refine g_get (T := TX12) E fw_X12 0 (wM_0 g ad o) rfl 72 (by decide) w_1538 rfl rfl gdX12_finds_231 ?_
        refine g_iload E gdX12_finds_234 6 rfl ?_
        obtain ⟨hi15, h⟩ := qIn_of h
        refine g_iald E 59 (wM_59 g ad o) (by decide) hi15 gdX12_finds_236 ?_
        obtain ⟨n16, e_n16, h⟩ := qNm_of h
        refine g_nmi e_n16 ?_
        refine g_if_ne E 244 gdX12_finds_237 (by decide) h (fun h => ?_) (fun h => ?_)
        ·
          refine g_iconst E gdX12_finds_244 ?_
          refine g_goto E 263 gdX12_finds_245 (by decide) ?_
          exact j263 o x2 x3 x4 x5 x6 x7 0 v h k0 k1
        ·
          exact j240 o x2 x3 x4 x5 x6 x7 v h k0 k1
  have j207 : ∀ (o : OO) (x2 : Int) (x3 : Int) (x4 : Int) (x5 : Int) (x6 : Int) (x7 : Int) (x8 : Int) (v : (OO × Int × Int) ⊕ ((OO × Int))), b_X12_finds_207 o x2 x3 x4 x5 x6 x7 x8 = some v → (∀ (o : OO) (x5 : Int) (x8 : Int), v = .inl (o, x5, x8) → Go X 86 (wM g ad o) [(0, .ref (ad 0)), (2, iv x2), (3, iv x3), (4, iv x4), (5, iv x5), (6, iv x6), (7, iv x7), (8, iv x8)] []) → (∀ (o : OO) (x5 : Int), v = .inr ((o, x5)) → Go X 213 (wM g ad o) [(0, .ref (ad 0)), (2, iv x2), (3, iv x3), (4, iv x4), (5, iv x5), (6, iv x6), (7, iv x7)] []) → Go X 207 (wM g ad o) [(0, .ref (ad 0)), (2, iv x2), (3, iv x3), (4, iv x4), (5, iv x5), (6, iv x6), (7, iv x7), (8, iv x8)] [] := by
    intro o x2 x3 x4 x5 x6 x7 x8 v h k0 k1
    unfold b_X12_finds_207 at h
    refine g_iinc E [(8, iv (x8 + 1)), (0, .ref (ad 0)), (2, iv x2), (3, iv x3), (4, iv x4), (5, iv x5), (6, iv x6), (7, iv x7)] gdX12_finds_207 7 rfl (by decide) rfl ?_
    refine g_goto E 86 gdX12_finds_210 (by decide) ?_
    refine g_sub E [1, 2, 3, 4, 5, 6, 7, 0] rfl ?_
    exact k0 o x5 (x8 + 1) (Option.some.inj h).symm
  have j169 : ∀ (o : OO) (x2 : Int) (x3 : Int) (x4 : Int) (x5 : Int) (x6 : Int) (x7 : Int) (x8 : Int) (y0 : Int) (v : (OO × Int × Int) ⊕ ((OO × Int))), b_X12_finds_169 o x2 x3 x4 x5 x6 x7 x8 y0 = some v → (∀ (o : OO) (x5 : Int) (x8 : Int), v = .inl (o, x5, x8) → Go X 86 (wM g ad o) [(0, .ref (ad 0)), (2, iv x2), (3, iv x3), (4, iv x4), (5, iv x5), (6, iv x6), (7, iv x7), (8, iv x8)] []) → (∀ (o : OO) (x5 : Int), v = .inr ((o, x5)) → Go X 213 (wM g ad o) [(0, .ref (ad 0)), (2, iv x2), (3, iv x3), (4, iv x4), (5, iv x5), (6, iv x6), (7, iv x7)] []) → Go X 169 (wM g ad o) [(0, .ref (ad 0)), (2, iv x2), (3, iv x3), (4, iv x4), (5, iv x5), (6, iv x6), (7, iv x7), (8, iv x8)] [iv y0] := by
    intro o x2 x3 x4 x5 x6 x7 x8 y0 v h k0 k1
    unfold b_X12_finds_169 at h
    refine g_istore E [(10, iv y0), (0, .ref (ad 0)), (2, iv x2), (3, iv x3), (4, iv x4), (5, iv x5), (6, iv x6), (7, iv x7), (8, iv x8)] gdX12_finds_169 (by decide) rfl ?_
    refine g_iload E gdX12_finds_171 0 rfl ?_
    refine g_if_lt E 207 gdX12_finds_173 (by decide) h (fun h => ?_) (fun h => ?_)
    ·
      refine g_sub E [1, 2, 3, 4, 5, 6, 7, 8] rfl ?_
      exact j207 o x2 x3 x4 x5 x6 x7 x8 v h k0 k1
    ·
      refine g_aload_n E gdX12_finds_176 rfl 1 rfl ?_
      refine g_get (T := TX12) E fw_X12 0 (wM_0 g ad o) rfl 74 (by decide) w_1540 rfl rfl gdX12_finds_177 ?_
      refine g_iload E gdX12_finds_180 0 rfl ?_
      obtain ⟨hi17, h⟩ := qIn_of h
      refine g_iald E 61 (wM_61 g ad o) (by decide) hi17 gdX12_finds_182 ?_
      obtain ⟨n18, e_n18, h⟩ := qNm_of h
      refine g_nmi e_n18 ?_
      refine g_if_ge E 207 gdX12_finds_183 (by decide) h (fun h => ?_) (fun h => ?_)
      ·
        refine g_sub E [1, 2, 3, 4, 5, 6, 7, 8] rfl ?_
        exact j207 o x2 x3 x4 x5 x6 x7 x8 v h k0 k1
      ·
        refine g_aload_n E gdX12_finds_186 rfl 1 rfl ?_
        refine g_get (T := TX12) E fw_X12 0 (wM_0 g ad o) rfl 74 (by decide) w_1540 rfl rfl gdX12_finds_187 ?_
        refine g_iload E gdX12_finds_190 0 rfl ?_
        refine g_iload E gdX12_finds_192 6 rfl ?_
        obtain ⟨hi19, h⟩ := qIn_of h
        obtain ⟨o20, e_o20, h⟩ := qNm_of h
        refine g_iast (ws' := wM g ad o20) E 61 (wM_61 g ad o) (by decide) hi19 (by rw [e_o20]; exact wM_s61 g ad o _ _) gdX12_finds_194 ?_
        refine g_aload_n E gdX12_finds_195 rfl 1 rfl ?_
        refine g_get (T := TX12) E fw_X12 0 (wM_0 g ad o20) rfl 75 (by decide) w_1541 rfl rfl gdX12_finds_196 ?_
        refine g_iload E gdX12_finds_199 5 rfl ?_
        refine g_iload E gdX12_finds_201 0 rfl ?_
        obtain ⟨hi21, h⟩ := qIn_of h
        obtain ⟨o22, e_o22, h⟩ := qNm_of h
        refine g_iast (ws' := wM g ad o22) E 62 (wM_62 g ad o20) (by decide) hi21 (by rw [e_o22]; exact wM_s62 g ad o20 _ _) gdX12_finds_203 ?_
        refine g_iinc E [(5, iv (x5 + 1)), (10, iv y0), (0, .ref (ad 0)), (2, iv x2), (3, iv x3), (4, iv x4), (6, iv x6), (7, iv x7), (8, iv x8)] gdX12_finds_204 5 rfl (by decide) rfl ?_
        refine g_sub E [2, 3, 4, 5, 0, 6, 7, 8] rfl ?_
        exact j207 o22 x2 x3 x4 (x5 + 1) x6 x7 x8 v h k0 k1
  have l86 : ∀ (x2 : Int) (x3 : Int) (x4 : Int) (x6 : Int) (x7 : Int) (r : (OO × Int)) (s0 : OO × Int × Int), loopW (fun s => l_X12_finds_86 x2 x3 x4 x6 x7 s.1 s.2.1 s.2.2) s0 = some r → (∀ (o : OO) (x5 : Int), r = ((o, x5)) → Go X 213 (wM g ad o) [(0, .ref (ad 0)), (2, iv x2), (3, iv x3), (4, iv x4), (5, iv x5), (6, iv x6), (7, iv x7)] []) → Go X 86 (wM g ad s0.1) [(0, .ref (ad 0)), (2, iv x2), (3, iv x3), (4, iv x4), (5, iv s0.2.1), (6, iv x6), (7, iv x7), (8, iv s0.2.2)] [] := by
    intro x2 x3 x4 x6 x7 r s0 h k1
    refine loop_rule (Head := fun s0 => Go X 86 (wM g ad s0.1) [(0, .ref (ad 0)), (2, iv x2), (3, iv x3), (4, iv x4), (5, iv s0.2.1), (6, iv x6), (7, iv x7), (8, iv s0.2.2)] []) h ?_
    intro s v h kk kx
    obtain ⟨o, x5, x8⟩ := s
    have h : l_X12_finds_86 x2 x3 x4 x6 x7 o x5 x8 = some v := h
    have k0 : ∀ (o : OO) (x5 : Int) (x8 : Int), v = .inl (o, x5, x8) → Go X 86 (wM g ad o) [(0, .ref (ad 0)), (2, iv x2), (3, iv x3), (4, iv x4), (5, iv x5), (6, iv x6), (7, iv x7), (8, iv x8)] [] := fun o x5 x8 e => kk (o, x5, x8) e
    have k1 : ∀ (o : OO) (x5 : Int), v = .inr ((o, x5)) → Go X 213 (wM g ad o) [(0, .ref (ad 0)), (2, iv x2), (3, iv x3), (4, iv x4), (5, iv x5), (6, iv x6), (7, iv x7)] [] := fun o x5 e => k1 o x5 (kx _ e).symm
    unfold l_X12_finds_86 at h
    refine g_iload E gdX12_finds_86 7 rfl ?_
    refine g_iconst E gdX12_finds_88 ?_
    refine g_icmp_ge E 213 gdX12_finds_89 (by decide) h (fun h => ?_) (fun h => ?_)
    ·
      refine g_sub E [0, 1, 2, 3, 4, 5, 6] rfl ?_
      exact k1 o x5 (Option.some.inj h).symm
    ·
      refine g_iload E gdX12_finds_92 6 rfl ?_
      refine g_iload E gdX12_finds_94 7 rfl ?_
      obtain ⟨r23, hc24, h⟩ := qB_of h
      refine g_Si (r := r23) (As := [iv x7, iv x8]) (rest := []) (w := wM g ad o) E (c_X12_beside l g (wM g ad o) x7 x8 r23 hc24) okm_X12_beside w_1881 w_1880 rfl rfl (Nat.le_of_ble_eq_true rfl) ⟨Nat.le_of_ble_eq_true rfl, Nat.le_of_ble_eq_true rfl⟩ gdX12_finds_96 ?_
      refine g_istore E [(9, iv r23), (0, .ref (ad 0)), (2, iv x2), (3, iv x3), (4, iv x4), (5, iv x5), (6, iv x6), (7, iv x7), (8, iv x8)] gdX12_finds_99 (by decide) rfl ?_
      refine g_iload E gdX12_finds_101 0 rfl ?_
      refine g_if_ge E 109 gdX12_finds_103 (by decide) h (fun h => ?_) (fun h => ?_)
      ·
        refine g_iload E gdX12_finds_109 6 rfl ?_
        refine g_iconst E gdX12_finds_111 ?_
        obtain ⟨hd25, h⟩ := qDv_of h
        refine g_irem E hd25 gdX12_finds_112 ?_
        refine g_iconst E gdX12_finds_113 ?_
        refine g_icmp_ne E 141 gdX12_finds_114 (by decide) h (fun h => ?_) (fun h => ?_)
        ·
          refine g_aload_n E gdX12_finds_141 rfl 1 rfl ?_
          refine g_get (T := TX12) E fw_X12 0 (wM_0 g ad o) rfl 73 (by decide) w_1539 rfl rfl gdX12_finds_142 ?_
          refine g_iconst E gdX12_finds_145 ?_
          refine g_iload E gdX12_finds_146 0 rfl ?_
          refine g_imul E gdX12_finds_148 ?_
          refine g_iconst E gdX12_finds_149 ?_
          refine g_iadd E gdX12_finds_150 ?_
          refine g_iload E gdX12_finds_151 8 rfl ?_
          refine g_isub E gdX12_finds_153 ?_
          obtain ⟨hi26, h⟩ := qIn_of h
          refine g_iald E 60 (wM_60 g ad o) (by decide) hi26 gdX12_finds_154 ?_
          obtain ⟨n27, e_n27, h⟩ := qNm_of h
          refine g_nmi e_n27 ?_
          refine g_if_le E 167 gdX12_finds_155 (by decide) h (fun h => ?_) (fun h => ?_)
          ·
            refine g_bipush E gdX12_finds_167 (by decide) ?_
            refine g_sub E [1, 2, 3, 4, 5, 6, 7, 8] rfl ?_
            exact j169 o x2 x3 x4 x5 x6 x7 x8 (-9) v h k0 k1
          ·
            refine g_iconst E gdX12_finds_158 ?_
            refine g_iload E gdX12_finds_159 0 rfl ?_
            refine g_imul E gdX12_finds_161 ?_
            refine g_iconst E gdX12_finds_162 ?_
            refine g_iadd E gdX12_finds_163 ?_
            refine g_goto E 169 gdX12_finds_164 (by decide) ?_
            refine g_sub E [1, 2, 3, 4, 5, 6, 7, 8] rfl ?_
            exact j169 o x2 x3 x4 x5 x6 x7 x8 ((2 * r23) + 1) v h k0 k1
        ·
          refine g_aload_n E gdX12_finds_117 rfl 1 rfl ?_
          refine g_iload E gdX12_finds_118 7 rfl ?_
          refine g_iload E gdX12_finds_120 0 rfl ?_
          refine g_iload_n E gdX12_finds_122 rfl 3 rfl ?_
          obtain ⟨r28, hc29, h⟩ := qB_of h
          refine g_Vi (r := r28) (As := [iv x7, iv r23, iv x3]) (rest := []) (w := wM g ad o) E (c_X12_leads l g ad o x7 r23 x3 r28 hc29) okm_X12_leads okw_X12_leads w_1883 rfl (wM_0 g ad o) rfl rfl (Nat.le_of_ble_eq_true rfl) ⟨Nat.le_of_ble_eq_true rfl, Nat.le_of_ble_eq_true rfl⟩ gdX12_finds_123 ?_
          refine g_if_eq E 136 gdX12_finds_126 (by decide) h (fun h => ?_) (fun h => ?_)
          ·
            refine g_bipush E gdX12_finds_136 (by decide) ?_
            refine g_goto E 169 gdX12_finds_138 (by decide) ?_
            refine g_sub E [1, 2, 3, 4, 5, 6, 7, 8] rfl ?_
            exact j169 o x2 x3 x4 x5 x6 x7 x8 (-9) v h k0 k1
          ·
            refine g_iconst E gdX12_finds_129 ?_
            refine g_iload E gdX12_finds_130 0 rfl ?_
            refine g_imul E gdX12_finds_132 ?_
            refine g_goto E 169 gdX12_finds_133 (by decide) ?_
            refine g_sub E [1, 2, 3, 4, 5, 6, 7, 8] rfl ?_
            exact j169 o x2 x3 x4 x5 x6 x7 x8 (2 * r23) v h k0 k1
      ·
        refine g_goto E 207 gdX12_finds_106 (by decide) ?_
        refine g_sub E [1, 2, 3, 4, 5, 6, 7, 8] rfl ?_
        exact j207 o x2 x3 x4 x5 x6 x7 x8 v h k0 k1
  have j86 : ∀ (o : OO) (x2 : Int) (x3 : Int) (x4 : Int) (x5 : Int) (x6 : Int) (x7 : Int) (x8 : Int) (v : (OO × Int × Int) ⊕ ((OO))), e_X12_finds_86 o x2 x3 x4 x5 x6 x7 x8 = some v → (∀ (o : OO) (x4 : Int) (x5 : Int), v = .inl (o, x4, x5) → Go X 58 (wM g ad o) [(0, .ref (ad 0)), (2, iv x2), (3, iv x3), (4, iv x4), (5, iv x5)] []) → (∀ (o : OO), v = .inr (o) → Go X 330 (wM g ad o) [(0, .ref (ad 0)), (2, iv x2)] []) → Go X 86 (wM g ad o) [(0, .ref (ad 0)), (2, iv x2), (3, iv x3), (4, iv x4), (5, iv x5), (6, iv x6), (7, iv x7), (8, iv x8)] [] := by
    intro o x2 x3 x4 x5 x6 x7 x8 v h k0 k1
    unfold e_X12_finds_86 at h
    obtain ⟨r, hr, h⟩ := qB_of h
    refine l86 x2 x3 x4 x6 x7 r _ hr ?_
    ·
      intro u0 u1 e
      subst e
      have h : b_X12_finds_213 u0 x2 x3 x4 u1 x6 x7 = some v := h
      exact j213 u0 x2 x3 x4 u1 x6 x7 v h k0 k1
  have l58 : ∀ (x2 : Int) (x3 : Int) (r : (OO)) (s0 : OO × Int × Int), loopW (fun s => l_X12_finds_58 x2 x3 s.1 s.2.1 s.2.2) s0 = some r → (∀ (o : OO), r = (o) → Go X 330 (wM g ad o) [(0, .ref (ad 0)), (2, iv x2)] []) → Go X 58 (wM g ad s0.1) [(0, .ref (ad 0)), (2, iv x2), (3, iv x3), (4, iv s0.2.1), (5, iv s0.2.2)] [] := by
    intro x2 x3 r s0 h k1
    refine loop_rule (Head := fun s0 => Go X 58 (wM g ad s0.1) [(0, .ref (ad 0)), (2, iv x2), (3, iv x3), (4, iv s0.2.1), (5, iv s0.2.2)] []) h ?_
    intro s v h kk kx
    obtain ⟨o, x4, x5⟩ := s
    have h : l_X12_finds_58 x2 x3 o x4 x5 = some v := h
    have k0 : ∀ (o : OO) (x4 : Int) (x5 : Int), v = .inl (o, x4, x5) → Go X 58 (wM g ad o) [(0, .ref (ad 0)), (2, iv x2), (3, iv x3), (4, iv x4), (5, iv x5)] [] := fun o x4 x5 e => kk (o, x4, x5) e
    have k1 : ∀ (o : OO), v = .inr (o) → Go X 330 (wM g ad o) [(0, .ref (ad 0)), (2, iv x2)] [] := fun o e => k1 o (kx _ e).symm
    unfold l_X12_finds_58 at h
    refine g_iload E gdX12_finds_58 3 rfl ?_
    refine g_iload E gdX12_finds_60 4 rfl ?_
    refine g_icmp_ge E 330 gdX12_finds_62 (by decide) h (fun h => ?_) (fun h => ?_)
    ·
      refine g_sub E [0, 1] rfl ?_
      exact k1 o (Option.some.inj h).symm
    ·
      refine g_aload_n E gdX12_finds_65 rfl 0 rfl ?_
      refine g_get (T := TX12) E fw_X12 0 (wM_0 g ad o) rfl 75 (by decide) w_1541 rfl rfl gdX12_finds_66 ?_
      refine g_iload E gdX12_finds_69 3 rfl ?_
      obtain ⟨hi30, h⟩ := qIn_of h
      refine g_iald E 62 (wM_62 g ad o) (by decide) hi30 gdX12_finds_71 ?_
      obtain ⟨n31, e_n31, h⟩ := qNm_of h
      refine g_nmi e_n31 ?_
      refine g_istore E [(6, iv n31), (0, .ref (ad 0)), (2, iv x2), (3, iv x3), (4, iv x4), (5, iv x5)] gdX12_finds_72 (by decide) rfl ?_
      refine g_iload E gdX12_finds_74 0 rfl ?_
      refine g_iconst E gdX12_finds_76 ?_
      obtain ⟨hd32, h⟩ := qDv_of h
      refine g_idiv E hd32 gdX12_finds_77 ?_
      obtain ⟨n33, e_n33, h⟩ := qNm_of h
      refine g_nmi e_n33 ?_
      refine g_istore E [(7, iv n33), (6, iv n31), (0, .ref (ad 0)), (2, iv x2), (3, iv x3), (4, iv x4), (5, iv x5)] gdX12_finds_78 (by decide) rfl ?_
      refine g_iinc E [(4, iv (x4 + 1)), (7, iv n33), (6, iv n31), (0, .ref (ad 0)), (2, iv x2), (3, iv x3), (5, iv x5)] gdX12_finds_80 5 rfl (by decide) rfl ?_
      refine g_iconst E gdX12_finds_83 ?_
      refine g_istore E [(8, iv 0), (4, iv (x4 + 1)), (7, iv n33), (6, iv n31), (0, .ref (ad 0)), (2, iv x2), (3, iv x3), (5, iv x5)] gdX12_finds_84 (by decide) rfl ?_
      refine g_sub E [4, 5, 6, 1, 7, 3, 2, 0] rfl ?_
      exact j86 o x2 x3 (x4 + 1) x5 n31 n33 0 v h k0 k1
  have j58 : ∀ (o : OO) (x2 : Int) (x3 : Int) (x4 : Int) (x5 : Int), e_X12_finds_58 o x2 x3 x4 x5 = some v → Go X 58 (wM g ad o) [(0, .ref (ad 0)), (2, iv x2), (3, iv x3), (4, iv x4), (5, iv x5)] [] := by
    intro o x2 x3 x4 x5 h
    unfold e_X12_finds_58 at h
    obtain ⟨r, hr, h⟩ := qB_of h
    refine l58 x2 x3 r _ hr ?_
    ·
      intro u0 e
      have e := e.symm
      subst e
      have h : b_X12_finds_330 u0 x2 = some v := h
      exact j330 u0 x2 h
  have j26 : ∀ (o : OO) (x1 : Int) (x2 : Int) (x3 : Int), b_X12_finds_26 o x1 x2 x3 = some v → Go X 26 (wM g ad o) [(0, .ref (ad 0)), (1, iv x1), (2, iv x2), (3, iv x3)] [] := by
    intro o x1 x2 x3 h
    unfold b_X12_finds_26 at h
    refine g_iconst E gdX12_finds_26 ?_
    refine g_istore E [(4, iv 0), (0, .ref (ad 0)), (1, iv x1), (2, iv x2), (3, iv x3)] gdX12_finds_27 (by decide) rfl ?_
    refine g_iconst E gdX12_finds_29 ?_
    refine g_istore E [(5, iv 1), (4, iv 0), (0, .ref (ad 0)), (1, iv x1), (2, iv x2), (3, iv x3)] gdX12_finds_30 (by decide) rfl ?_
    refine g_aload_n E gdX12_finds_32 rfl 2 rfl ?_
    refine g_get (T := TX12) E fw_X12 0 (wM_0 g ad o) rfl 75 (by decide) w_1541 rfl rfl gdX12_finds_33 ?_
    refine g_iconst E gdX12_finds_36 ?_
    refine g_iconst E gdX12_finds_37 ?_
    refine g_iload_n E gdX12_finds_38 rfl 3 rfl ?_
    refine g_imul E gdX12_finds_39 ?_
    refine g_iconst E gdX12_finds_40 ?_
    refine g_iadd E gdX12_finds_41 ?_
    obtain ⟨o34, e_o34, h⟩ := qNm_of h
    refine g_iast (ws' := wM g ad o34) E 62 (wM_62 g ad o) (by decide) ⟨by decide, by decide⟩ (by rw [e_o34]; exact wM_s62 g ad o _ _) gdX12_finds_42 ?_
    refine g_aload_n E gdX12_finds_43 rfl 2 rfl ?_
    refine g_get (T := TX12) E fw_X12 0 (wM_0 g ad o34) rfl 74 (by decide) w_1540 rfl rfl gdX12_finds_44 ?_
    refine g_iconst E gdX12_finds_47 ?_
    refine g_iload_n E gdX12_finds_48 rfl 3 rfl ?_
    refine g_imul E gdX12_finds_49 ?_
    refine g_iconst E gdX12_finds_50 ?_
    refine g_iadd E gdX12_finds_51 ?_
    refine g_iconst E gdX12_finds_52 ?_
    refine g_iload_n E gdX12_finds_53 rfl 3 rfl ?_
    refine g_imul E gdX12_finds_54 ?_
    refine g_iconst E gdX12_finds_55 ?_
    refine g_iadd E gdX12_finds_56 ?_
    obtain ⟨hi35, h⟩ := qIn_of h
    obtain ⟨o36, e_o36, h⟩ := qNm_of h
    refine g_iast (ws' := wM g ad o36) E 61 (wM_61 g ad o34) (by decide) hi35 (by rw [e_o36]; exact wM_s61 g ad o34 _ _) gdX12_finds_57 ?_
    refine g_sub E [2, 4, 5, 1, 0] rfl ?_
    exact j58 o36 x2 x3 0 1 h
  have l3 : ∀ (x1 : Int) (x2 : Int) (x3 : Int) (r : (OO)) (s0 : OO × Int), loopW (fun s => l_X12_finds_3 x1 x2 x3 s.1 s.2) s0 = some r → (∀ (o : OO), r = (o) → Go X 26 (wM g ad o) [(0, .ref (ad 0)), (1, iv x1), (2, iv x2), (3, iv x3)] []) → Go X 3 (wM g ad s0.1) [(0, .ref (ad 0)), (1, iv x1), (2, iv x2), (3, iv x3), (4, iv s0.2)] [] := by
    intro x1 x2 x3 r s0 h k1
    refine loop_rule (Head := fun s0 => Go X 3 (wM g ad s0.1) [(0, .ref (ad 0)), (1, iv x1), (2, iv x2), (3, iv x3), (4, iv s0.2)] []) h ?_
    intro s v h kk kx
    obtain ⟨o, x4⟩ := s
    have h : l_X12_finds_3 x1 x2 x3 o x4 = some v := h
    have k0 : ∀ (o : OO) (x4 : Int), v = .inl (o, x4) → Go X 3 (wM g ad o) [(0, .ref (ad 0)), (1, iv x1), (2, iv x2), (3, iv x3), (4, iv x4)] [] := fun o x4 e => kk (o, x4) e
    have k1 : ∀ (o : OO), v = .inr (o) → Go X 26 (wM g ad o) [(0, .ref (ad 0)), (1, iv x1), (2, iv x2), (3, iv x3)] [] := fun o e => k1 o (kx _ e).symm
    unfold l_X12_finds_3 at h
    refine g_iload E gdX12_finds_3 4 rfl ?_
    refine g_sipush E gdX12_finds_5 (by decide) ?_
    refine g_icmp_ge E 26 gdX12_finds_8 (by decide) h (fun h => ?_) (fun h => ?_)
    ·
      refine g_sub E [0, 1, 2, 3] rfl ?_
      exact k1 o (Option.some.inj h).symm
    ·
      refine g_aload_n E gdX12_finds_11 rfl 0 rfl ?_
      refine g_get (T := TX12) E fw_X12 0 (wM_0 g ad o) rfl 74 (by decide) w_1540 rfl rfl gdX12_finds_12 ?_
      refine g_iload E gdX12_finds_15 4 rfl ?_
      refine g_bipush E gdX12_finds_17 (by decide) ?_
      obtain ⟨hi37, h⟩ := qIn_of h
      obtain ⟨o38, e_o38, h⟩ := qNm_of h
      refine g_iast (ws' := wM g ad o38) E 61 (wM_61 g ad o) (by decide) hi37 (by rw [e_o38]; exact wM_s61 g ad o _ _) gdX12_finds_19 ?_
      refine g_iinc E [(4, iv (x4 + 1)), (0, .ref (ad 0)), (1, iv x1), (2, iv x2), (3, iv x3)] gdX12_finds_20 4 rfl (by decide) rfl ?_
      refine g_goto E 3 gdX12_finds_23 (by decide) ?_
      refine g_sub E [1, 2, 3, 4, 0] rfl ?_
      exact k0 o38 (x4 + 1) (Option.some.inj h).symm
  have j3 : ∀ (o : OO) (x1 : Int) (x2 : Int) (x3 : Int) (x4 : Int), e_X12_finds_3 o x1 x2 x3 x4 = some v → Go X 3 (wM g ad o) [(0, .ref (ad 0)), (1, iv x1), (2, iv x2), (3, iv x3), (4, iv x4)] [] := by
    intro o x1 x2 x3 x4 h
    unfold e_X12_finds_3 at h
    obtain ⟨r, hr, h⟩ := qB_of h
    refine l3 x1 x2 x3 r _ hr ?_
    ·
      intro u0 e
      have e := e.symm
      subst e
      have h : b_X12_finds_26 u0 x1 x2 x3 = some v := h
      exact j26 u0 x1 x2 x3 h
  unfold s_X12_finds at h
  refine g_iconst E gdX12_finds_0 ?_
  refine g_istore E [(4, iv 0), (0, .ref (ad 0)), (1, iv x1), (2, iv x2), (3, iv x3)] gdX12_finds_1 (by decide) rfl ?_
  refine g_sub E [1, 2, 3, 4, 0] rfl ?_
  exact j3 o x1 x2 x3 0 h
noncomputable def b_X12_wayTo_17 (x2 : Int) : Option (Int) := some x2
noncomputable def l_X12_wayTo_2 (x0 : Int) (x1 : Int) (x2 : Int) : Option ((Int) ⊕ ((Int))) := qB (s_X12_beside x0 x2) (fun r1 => qEq r1 x1 (some (.inr (x2))) (some (.inl (x2 + 1))))
noncomputable def e_X12_wayTo_2 (x0 : Int) (x1 : Int) (x2 : Int) : Option (Int) := qB (loopW (fun s => l_X12_wayTo_2 x0 x1 s) x2) (fun r => b_X12_wayTo_17 r)
noncomputable def s_X12_wayTo (x0 : Int) (x1 : Int) : Option (Int) := e_X12_wayTo_2 x0 x1 0
set_option maxHeartbeats 4000000 in
set_option maxRecDepth 100000 in
theorem c_X12_wayTo (l : Launch) (g : GG) (ws : va_W) (x0 : Int) (x1 : Int) (v : Int) (h : s_X12_wayTo x0 x1 = some v) : CI l g yX12_wayTo cX12_wayTo 3 (some .int) 1 21 ws [iv x0, iv x1] v ws := by
  refine met_I (by decide) (Nat.le_of_ble_eq_true rfl) ?_
  intro X E hQ
  show Go X 0 ws [(0, iv x0), (1, iv x1)] []
  have j17 : ∀ (x2 : Int), b_X12_wayTo_17 x2 = some v → Go X 17 ws [(2, iv x2)] [] := by
    intro x2 h
    unfold b_X12_wayTo_17 at h
    refine g_iload_n E gdX12_wayTo_17 rfl 0 rfl ?_
    exact g_iret E hQ (Option.some.inj h) rfl gdX12_wayTo_18
  have l2 : ∀ (x0 : Int) (x1 : Int) (r : (Int)) (s0 : Int), loopW (fun s => l_X12_wayTo_2 x0 x1 s) s0 = some r → (∀ (x2 : Int), r = (x2) → Go X 17 ws [(2, iv x2)] []) → Go X 2 ws [(0, iv x0), (1, iv x1), (2, iv s0)] [] := by
    intro x0 x1 r s0 h k1
    refine loop_rule (Head := fun s0 => Go X 2 ws [(0, iv x0), (1, iv x1), (2, iv s0)] []) h ?_
    intro s v h kk kx
    obtain ⟨x2, hs⟩ : ∃ q, q = s := ⟨_, rfl⟩
    subst hs
    have h : l_X12_wayTo_2 x0 x1 x2 = some v := h
    have k0 : ∀ (x2 : Int), v = .inl x2 → Go X 2 ws [(0, iv x0), (1, iv x1), (2, iv x2)] [] := fun x2 e => kk x2 e
    have k1 : ∀ (x2 : Int), v = .inr (x2) → Go X 17 ws [(2, iv x2)] [] := fun x2 e => k1 x2 (kx _ e).symm
    unfold l_X12_wayTo_2 at h
    refine g_iload_n E gdX12_wayTo_2 rfl 0 rfl ?_
    refine g_iload_n E gdX12_wayTo_3 rfl 2 rfl ?_
    obtain ⟨r1, hc2, h⟩ := qB_of h
    refine g_Si (r := r1) (As := [iv x0, iv x2]) (rest := []) (w := ws) E (c_X12_beside l g ws x0 x2 r1 hc2) okm_X12_beside w_1881 w_1880 rfl rfl (Nat.le_of_ble_eq_true rfl) ⟨Nat.le_of_ble_eq_true rfl, Nat.le_of_ble_eq_true rfl⟩ gdX12_wayTo_4 ?_
    refine g_iload_n E gdX12_wayTo_7 rfl 1 rfl ?_
    refine g_icmp_eq E 17 gdX12_wayTo_8 (by decide) h (fun h => ?_) (fun h => ?_)
    ·
      refine g_sub E [2] rfl ?_
      exact k1 x2 (Option.some.inj h).symm
    ·
      refine g_iinc E [(2, iv (x2 + 1)), (0, iv x0), (1, iv x1)] gdX12_wayTo_11 2 rfl (by decide) rfl ?_
      refine g_goto E 2 gdX12_wayTo_14 (by decide) ?_
      refine g_sub E [1, 2, 0] rfl ?_
      exact k0 (x2 + 1) (Option.some.inj h).symm
  have j2 : ∀ (x0 : Int) (x1 : Int) (x2 : Int), e_X12_wayTo_2 x0 x1 x2 = some v → Go X 2 ws [(0, iv x0), (1, iv x1), (2, iv x2)] [] := by
    intro x0 x1 x2 h
    unfold e_X12_wayTo_2 at h
    obtain ⟨r, hr, h⟩ := qB_of h
    refine l2 x0 x1 r _ hr ?_
    ·
      intro u0 e
      have e := e.symm
      subst e
      have h : b_X12_wayTo_17 u0 = some v := h
      exact j17 u0 h
  unfold s_X12_wayTo at h
  refine g_iconst E gdX12_wayTo_0 ?_
  refine g_istore_n E [(2, iv 0), (0, iv x0), (1, iv x1)] gdX12_wayTo_1 rfl (by decide) rfl ?_
  refine g_sub E [1, 2, 0] rfl ?_
  exact j2 x0 x1 0 h
noncomputable def b_X12_goAlong_123 (o : OO) : Option (OO) := some o
noncomputable def b_X12_goAlong_117 (o : OO) (x1 : Int) (x4 : Int) : Option ((OO × Int) ⊕ ((OO))) := some (.inl (o, x4))
noncomputable def b_X12_goAlong_59 (o : OO) (x1 : Int) (x4 : Int) (y1 : Int) (y2 : Int) (y3 : Int) : Option ((OO × Int) ⊕ ((OO))) := qIn y1 64 (qNm (st1 o 59 y1.toNat (y2 + y3)) (fun o2 => b_X12_goAlong_117 o2 x1 x4))
noncomputable def l_X12_goAlong_4 (x1 : Int) (o : OO) (x3 : Int) : Option ((OO × Int) ⊕ ((OO))) := qEq x3 ((2 * x1) + 1) (some (.inr (o))) (qIn x3 128 (qNm (o.1 61 x3.toNat) (fun n4 => qDv n4 2 (qNm (jq n4 2) (fun n6 => qDv x3 2 (qNm (jq x3 2) (fun n8 => qEq n6 n8 (qIn n6 64 (qNm (o.1 59 n6.toNat) (fun n25 => qDv x3 2 (qEq (x3 - jq x3 2 * 2) 1 (b_X12_goAlong_59 o x1 n4 n6 n25 1) (b_X12_goAlong_59 o x1 n4 n6 n25 (-1)))))) (qDv n4 2 (qEq (n4 - jq n4 2 * 2) 1 (qB (s_X12_wayTo n6 n8) (fun r17 => qNm ((4 * n6) + r17) (fun n19 => qIn n19 256 (qNm (o.1 60 n19.toNat) (fun n21 => qIn n19 256 (qNm (st1 o 60 n19.toNat (n21 + 1)) (fun o23 => b_X12_goAlong_117 o23 x1 n4))))))) (qB (s_X12_wayTo n8 n6) (fun r10 => qNm ((4 * n8) + r10) (fun n12 => qIn n12 256 (qNm (o.1 60 n12.toNat) (fun n14 => qIn n12 256 (qNm (st1 o 60 n12.toNat (n14 - 1)) (fun o16 => b_X12_goAlong_117 o16 x1 n4))))))))))))))))
noncomputable def e_X12_goAlong_4 (o : OO) (x1 : Int) (x3 : Int) : Option (OO) := qB (loopW (fun s => l_X12_goAlong_4 x1 s.1 s.2) (o, x3)) (fun r => b_X12_goAlong_123 r)
noncomputable def s_X12_goAlong (o : OO) (x1 : Int) (x2 : Int) : Option (OO) := qNm (2 * x2) (fun n27 => e_X12_goAlong_4 o x1 n27)
set_option maxHeartbeats 4000000 in
set_option maxRecDepth 100000 in
theorem c_X12_goAlong (l : Launch) (g : GG) (ad : Nat → Nat) (o : OO) (x1 : Int) (x2 : Int) (v : OO) (h : s_X12_goAlong o x1 x2 = some v) : CV l g yX12_goAlong cX12_goAlong 7 2 43 (wM g ad o) [.ref (ad 0), iv x1, iv x2] (wM g ad v) := by
  refine met_V (by decide) (Nat.le_of_ble_eq_true rfl) ?_
  intro X E hQ
  show Go X 0 (wM g ad o) [(0, .ref (ad 0)), (1, iv x1), (2, iv x2)] []
  have j123 : ∀ (o : OO), b_X12_goAlong_123 o = some v → Go X 123 (wM g ad o) [] [] := by
    intro o h
    unfold b_X12_goAlong_123 at h
    exact g_vret E hQ (by rw [← Option.some.inj h]) gdX12_goAlong_123
  have j117 : ∀ (o : OO) (x1 : Int) (x4 : Int) (v : (OO × Int) ⊕ ((OO))), b_X12_goAlong_117 o x1 x4 = some v → (∀ (o : OO) (x3 : Int), v = .inl (o, x3) → Go X 4 (wM g ad o) [(0, .ref (ad 0)), (1, iv x1), (3, iv x3)] []) → (∀ (o : OO), v = .inr (o) → Go X 123 (wM g ad o) [] []) → Go X 117 (wM g ad o) [(0, .ref (ad 0)), (1, iv x1), (4, iv x4)] [] := by
    intro o x1 x4 v h k0 k1
    unfold b_X12_goAlong_117 at h
    refine g_iload E gdX12_goAlong_117 2 rfl ?_
    refine g_istore_n E [(3, iv x4), (0, .ref (ad 0)), (1, iv x1), (4, iv x4)] gdX12_goAlong_119 rfl (by decide) rfl ?_
    refine g_goto E 4 gdX12_goAlong_120 (by decide) ?_
    refine g_sub E [1, 2, 0] rfl ?_
    exact k0 o x4 (Option.some.inj h).symm
  have j59 : ∀ (o : OO) (x1 : Int) (x4 : Int) (y1 : Int) (y2 : Int) (y3 : Int) (v : (OO × Int) ⊕ ((OO))), b_X12_goAlong_59 o x1 x4 y1 y2 y3 = some v → (∀ (o : OO) (x3 : Int), v = .inl (o, x3) → Go X 4 (wM g ad o) [(0, .ref (ad 0)), (1, iv x1), (3, iv x3)] []) → (∀ (o : OO), v = .inr (o) → Go X 123 (wM g ad o) [] []) → Go X 59 (wM g ad o) [(0, .ref (ad 0)), (1, iv x1), (4, iv x4)] [iv y3, iv y2, iv y1, .ref (ad 59)] := by
    intro o x1 x4 y1 y2 y3 v h k0 k1
    unfold b_X12_goAlong_59 at h
    refine g_iadd E gdX12_goAlong_59 ?_
    obtain ⟨hi1, h⟩ := qIn_of h
    obtain ⟨o2, e_o2, h⟩ := qNm_of h
    refine g_iast (ws' := wM g ad o2) E 59 (wM_59 g ad o) (by decide) hi1 (by rw [e_o2]; exact wM_s59 g ad o _ _) gdX12_goAlong_60 ?_
    refine g_goto E 117 gdX12_goAlong_61 (by decide) ?_
    exact j117 o2 x1 x4 v h k0 k1
  have l4 : ∀ (x1 : Int) (r : (OO)) (s0 : OO × Int), loopW (fun s => l_X12_goAlong_4 x1 s.1 s.2) s0 = some r → (∀ (o : OO), r = (o) → Go X 123 (wM g ad o) [] []) → Go X 4 (wM g ad s0.1) [(0, .ref (ad 0)), (1, iv x1), (3, iv s0.2)] [] := by
    intro x1 r s0 h k1
    refine loop_rule (Head := fun s0 => Go X 4 (wM g ad s0.1) [(0, .ref (ad 0)), (1, iv x1), (3, iv s0.2)] []) h ?_
    intro s v h kk kx
    obtain ⟨o, x3⟩ := s
    have h : l_X12_goAlong_4 x1 o x3 = some v := h
    have k0 : ∀ (o : OO) (x3 : Int), v = .inl (o, x3) → Go X 4 (wM g ad o) [(0, .ref (ad 0)), (1, iv x1), (3, iv x3)] [] := fun o x3 e => kk (o, x3) e
    have k1 : ∀ (o : OO), v = .inr (o) → Go X 123 (wM g ad o) [] [] := fun o e => k1 o (kx _ e).symm
    unfold l_X12_goAlong_4 at h
    refine g_iload_n E gdX12_goAlong_4 rfl 2 rfl ?_
    refine g_iconst E gdX12_goAlong_5 ?_
    refine g_iload_n E gdX12_goAlong_6 rfl 1 rfl ?_
    refine g_imul E gdX12_goAlong_7 ?_
    refine g_iconst E gdX12_goAlong_8 ?_
    refine g_iadd E gdX12_goAlong_9 ?_
    refine g_icmp_eq E 123 gdX12_goAlong_10 (by decide) h (fun h => ?_) (fun h => ?_)
    ·
      refine g_sub E [] rfl ?_
      exact k1 o (Option.some.inj h).symm
    ·
      refine g_aload_n E gdX12_goAlong_13 rfl 0 rfl ?_
      refine g_get (T := TX12) E fw_X12 0 (wM_0 g ad o) rfl 74 (by decide) w_1540 rfl rfl gdX12_goAlong_14 ?_
      refine g_iload_n E gdX12_goAlong_17 rfl 2 rfl ?_
      obtain ⟨hi3, h⟩ := qIn_of h
      refine g_iald E 61 (wM_61 g ad o) (by decide) hi3 gdX12_goAlong_18 ?_
      obtain ⟨n4, e_n4, h⟩ := qNm_of h
      refine g_nmi e_n4 ?_
      refine g_istore E [(4, iv n4), (0, .ref (ad 0)), (1, iv x1), (3, iv x3)] gdX12_goAlong_19 (by decide) rfl ?_
      refine g_iload E gdX12_goAlong_21 0 rfl ?_
      refine g_iconst E gdX12_goAlong_23 ?_
      obtain ⟨hd5, h⟩ := qDv_of h
      refine g_idiv E hd5 gdX12_goAlong_24 ?_
      obtain ⟨n6, e_n6, h⟩ := qNm_of h
      refine g_nmi e_n6 ?_
      refine g_istore E [(5, iv n6), (4, iv n4), (0, .ref (ad 0)), (1, iv x1), (3, iv x3)] gdX12_goAlong_25 (by decide) rfl ?_
      refine g_iload_n E gdX12_goAlong_27 rfl 4 rfl ?_
      refine g_iconst E gdX12_goAlong_28 ?_
      obtain ⟨hd7, h⟩ := qDv_of h
      refine g_idiv E hd7 gdX12_goAlong_29 ?_
      obtain ⟨n8, e_n8, h⟩ := qNm_of h
      refine g_nmi e_n8 ?_
      refine g_istore E [(6, iv n8), (5, iv n6), (4, iv n4), (0, .ref (ad 0)), (1, iv x1), (3, iv x3)] gdX12_goAlong_30 (by decide) rfl ?_
      refine g_iload E gdX12_goAlong_32 1 rfl ?_
      refine g_iload E gdX12_goAlong_34 0 rfl ?_
      refine g_icmp_ne E 64 gdX12_goAlong_36 (by decide) h (fun h => ?_) (fun h => ?_)
      ·
        refine g_iload E gdX12_goAlong_64 2 rfl ?_
        refine g_iconst E gdX12_goAlong_66 ?_
        obtain ⟨hd9, h⟩ := qDv_of h
        refine g_irem E hd9 gdX12_goAlong_67 ?_
        refine g_iconst E gdX12_goAlong_68 ?_
        refine g_icmp_ne E 96 gdX12_goAlong_69 (by decide) h (fun h => ?_) (fun h => ?_)
        ·
          refine g_aload_n E gdX12_goAlong_96 rfl 3 rfl ?_
          refine g_get (T := TX12) E fw_X12 0 (wM_0 g ad o) rfl 73 (by decide) w_1539 rfl rfl gdX12_goAlong_97 ?_
          refine g_iconst E gdX12_goAlong_100 ?_
          refine g_iload E gdX12_goAlong_101 0 rfl ?_
          refine g_imul E gdX12_goAlong_103 ?_
          refine g_iload E gdX12_goAlong_104 0 rfl ?_
          refine g_iload E gdX12_goAlong_106 1 rfl ?_
          obtain ⟨r10, hc11, h⟩ := qB_of h
          refine g_Si (r := r10) (As := [iv n8, iv n6]) (rest := [iv (4 * n8), .ref (ad 60)]) (w := wM g ad o) E (c_X12_wayTo l g (wM g ad o) n8 n6 r10 hc11) okm_X12_wayTo w_2104 w_2103 rfl rfl (Nat.le_of_ble_eq_true rfl) ⟨Nat.le_of_ble_eq_true rfl, Nat.le_of_ble_eq_true rfl⟩ gdX12_goAlong_108 ?_
          refine g_iadd E gdX12_goAlong_111 ?_
          obtain ⟨n12, e_n12, h⟩ := qNm_of h
          refine g_nmi e_n12 ?_
          refine g_dup2 E gdX12_goAlong_112 rfl rfl ?_
          obtain ⟨hi13, h⟩ := qIn_of h
          refine g_iald E 60 (wM_60 g ad o) (by decide) hi13 gdX12_goAlong_113 ?_
          obtain ⟨n14, e_n14, h⟩ := qNm_of h
          refine g_nmi e_n14 ?_
          refine g_iconst E gdX12_goAlong_114 ?_
          refine g_isub E gdX12_goAlong_115 ?_
          obtain ⟨hi15, h⟩ := qIn_of h
          obtain ⟨o16, e_o16, h⟩ := qNm_of h
          refine g_iast (ws' := wM g ad o16) E 60 (wM_60 g ad o) (by decide) hi15 (by rw [e_o16]; exact wM_s60 g ad o _ _) gdX12_goAlong_116 ?_
          refine g_sub E [3, 4, 2] rfl ?_
          exact j117 o16 x1 n4 v h k0 k1
        ·
          refine g_aload_n E gdX12_goAlong_72 rfl 3 rfl ?_
          refine g_get (T := TX12) E fw_X12 0 (wM_0 g ad o) rfl 73 (by decide) w_1539 rfl rfl gdX12_goAlong_73 ?_
          refine g_iconst E gdX12_goAlong_76 ?_
          refine g_iload E gdX12_goAlong_77 1 rfl ?_
          refine g_imul E gdX12_goAlong_79 ?_
          refine g_iload E gdX12_goAlong_80 1 rfl ?_
          refine g_iload E gdX12_goAlong_82 0 rfl ?_
          obtain ⟨r17, hc18, h⟩ := qB_of h
          refine g_Si (r := r17) (As := [iv n6, iv n8]) (rest := [iv (4 * n6), .ref (ad 60)]) (w := wM g ad o) E (c_X12_wayTo l g (wM g ad o) n6 n8 r17 hc18) okm_X12_wayTo w_2104 w_2103 rfl rfl (Nat.le_of_ble_eq_true rfl) ⟨Nat.le_of_ble_eq_true rfl, Nat.le_of_ble_eq_true rfl⟩ gdX12_goAlong_84 ?_
          refine g_iadd E gdX12_goAlong_87 ?_
          obtain ⟨n19, e_n19, h⟩ := qNm_of h
          refine g_nmi e_n19 ?_
          refine g_dup2 E gdX12_goAlong_88 rfl rfl ?_
          obtain ⟨hi20, h⟩ := qIn_of h
          refine g_iald E 60 (wM_60 g ad o) (by decide) hi20 gdX12_goAlong_89 ?_
          obtain ⟨n21, e_n21, h⟩ := qNm_of h
          refine g_nmi e_n21 ?_
          refine g_iconst E gdX12_goAlong_90 ?_
          refine g_iadd E gdX12_goAlong_91 ?_
          obtain ⟨hi22, h⟩ := qIn_of h
          obtain ⟨o23, e_o23, h⟩ := qNm_of h
          refine g_iast (ws' := wM g ad o23) E 60 (wM_60 g ad o) (by decide) hi22 (by rw [e_o23]; exact wM_s60 g ad o _ _) gdX12_goAlong_92 ?_
          refine g_goto E 117 gdX12_goAlong_93 (by decide) ?_
          refine g_sub E [3, 4, 2] rfl ?_
          exact j117 o23 x1 n4 v h k0 k1
      ·
        refine g_aload_n E gdX12_goAlong_39 rfl 3 rfl ?_
        refine g_get (T := TX12) E fw_X12 0 (wM_0 g ad o) rfl 72 (by decide) w_1538 rfl rfl gdX12_goAlong_40 ?_
        refine g_iload E gdX12_goAlong_43 1 rfl ?_
        refine g_dup2 E gdX12_goAlong_45 rfl rfl ?_
        obtain ⟨hi24, h⟩ := qIn_of h
        refine g_iald E 59 (wM_59 g ad o) (by decide) hi24 gdX12_goAlong_46 ?_
        obtain ⟨n25, e_n25, h⟩ := qNm_of h
        refine g_nmi e_n25 ?_
        refine g_iload_n E gdX12_goAlong_47 rfl 5 rfl ?_
        refine g_iconst E gdX12_goAlong_48 ?_
        obtain ⟨hd26, h⟩ := qDv_of h
        refine g_irem E hd26 gdX12_goAlong_49 ?_
        refine g_iconst E gdX12_goAlong_50 ?_
        refine g_icmp_ne E 58 gdX12_goAlong_51 (by decide) h (fun h => ?_) (fun h => ?_)
        ·
          refine g_iconst E gdX12_goAlong_58 ?_
          refine g_sub E [3, 4, 2] rfl ?_
          exact j59 o x1 n4 n6 n25 (-1) v h k0 k1
        ·
          refine g_iconst E gdX12_goAlong_54 ?_
          refine g_goto E 59 gdX12_goAlong_55 (by decide) ?_
          refine g_sub E [3, 4, 2] rfl ?_
          exact j59 o x1 n4 n6 n25 1 v h k0 k1
  have j4 : ∀ (o : OO) (x1 : Int) (x3 : Int), e_X12_goAlong_4 o x1 x3 = some v → Go X 4 (wM g ad o) [(0, .ref (ad 0)), (1, iv x1), (3, iv x3)] [] := by
    intro o x1 x3 h
    unfold e_X12_goAlong_4 at h
    obtain ⟨r, hr, h⟩ := qB_of h
    refine l4 x1 r _ hr ?_
    ·
      intro u0 e
      have e := e.symm
      subst e
      have h : b_X12_goAlong_123 u0 = some v := h
      exact j123 u0 h
  unfold s_X12_goAlong at h
  refine g_iconst E gdX12_goAlong_0 ?_
  refine g_iload_n E gdX12_goAlong_1 rfl 2 rfl ?_
  refine g_imul E gdX12_goAlong_2 ?_
  obtain ⟨n27, e_n27, h⟩ := qNm_of h
  refine g_nmi e_n27 ?_
  refine g_istore_n E [(3, iv n27), (0, .ref (ad 0)), (1, iv x1), (2, iv x2)] gdX12_goAlong_3 rfl (by decide) rfl ?_
  refine g_sub E [1, 2, 0] rfl ?_
  exact j4 o x1 n27 h
noncomputable def b_X12_stop_19 (o : OO) : Option (Int × OO) := some ((-1), o)
noncomputable def b_X12_stop_41 (o : OO) : Option (Int × OO) := some ((-4), o)
noncomputable def b_X12_stop_277 (o : OO) (x4 : Int) : Option (Int × OO) := some (x4, o)
noncomputable def b_X12_stop_267 (o : OO) (x4 : Int) (x5 : Int) (y1 : Int64) (y2 : Int64) : Option ((OO × Int) ⊕ ((OO))) := qNm (st2 o 0 3 (y1 ||| y2)) (fun o1 => some (.inl (o1, x5 + 1)))
noncomputable def b_X12_stop_247 (o : OO) (x4 : Int) (x5 : Int) (y0 : Int) : Option ((OO × Int) ⊕ ((OO))) := qEq y0 0 (b_X12_stop_267 o x4 x5 (o.2 0 3) (0 : Int64)) (b_X12_stop_267 o x4 x5 (o.2 0 3) (jshl (1 : Int64) (Int32.ofInt x5)))
noncomputable def b_X12_stop_246 (o : OO) (x4 : Int) (x5 : Int) : Option ((OO × Int) ⊕ ((OO))) := b_X12_stop_247 o x4 x5 0
noncomputable def l_X12_stop_199 (x4 : Int) (o : OO) (x5 : Int) : Option ((OO × Int) ⊕ ((OO))) := qLt x5 64 (qIn x5 64 (qNm (o.1 58 x5.toNat) (fun n3 => qEq n3 0 (b_X12_stop_246 o x4 x5) (qIn (2 * x5) 128 (qNm (o.1 61 (2 * x5).toNat) (fun n5 => qLt n5 0 (b_X12_stop_246 o x4 x5) (qIn ((2 * x5) + 1) 128 (qNm (o.1 61 ((2 * x5) + 1).toNat) (fun n7 => qLt n7 0 (b_X12_stop_247 o x4 x5 1) (b_X12_stop_246 o x4 x5)))))))))) (some (.inr (o)))
noncomputable def e_X12_stop_199 (o : OO) (x4 : Int) (x5 : Int) : Option (Int × OO) := qB (loopW (fun s => l_X12_stop_199 x4 s.1 s.2) (o, x5)) (fun r => b_X12_stop_277 r x4)
noncomputable def b_X12_stop_191 (o : OO) (x4 : Int) : Option (Int × OO) := qNm (st2 o 0 3 (0 : Int64)) (fun o8 => e_X12_stop_199 o8 x4 0)
noncomputable def l_X12_stop_169 (x1 : Int) (x2 : Int) (x3 : Int) (o : OO) (x4 : Int) : Option ((OO × Int) ⊕ ((OO × Int))) := qB2 (s_X12_finds o x1 x2 x3) (fun r9 o11 => qEq r9 0 (some (.inr ((o11, x4)))) (qB (s_X12_goAlong o11 x1 x2) (fun o14 => some (.inl (o14, x4 + 1)))))
noncomputable def e_X12_stop_169 (o : OO) (x1 : Int) (x2 : Int) (x3 : Int) (x4 : Int) : Option (Int × OO) := qB (loopW (fun s => l_X12_stop_169 x1 x2 x3 s.1 s.2) (o, x4)) (fun r => b_X12_stop_191 r.1 r.2)
noncomputable def b_X12_stop_135 (o : OO) (x1 : Int) (x2 : Int) (x3 : Int) : Option (Int × OO) := qB (s_X12_comes o x1 x2 x3 1) (fun r15 => qEq r15 0 (qB2 (s_X12_meets o 1) (fun r19 o21 => some (r19, o21))) (qB (s_X12_comes o x1 x2 x3 0) (fun r17 => qEq r17 0 (e_X12_stop_169 o x1 x2 x3 0) (some ((-9), o)))))
noncomputable def b_X12_stop_129 (o : OO) (x1 : Int) (x2 : Int) (x3 : Int) (x4 : Int) : Option ((OO × Int) ⊕ ((OO))) := some (.inl (o, x4 + 1))
noncomputable def l_X12_stop_104 (x1 : Int) (x2 : Int) (x3 : Int) (x4 : Int) (o : OO) (x5 : Int) : Option ((OO × Int) ⊕ ((OO))) := qLt x5 4 (qIn ((4 * x4) + x5) 256 (qNm (st1 o 60 (((4 * x4) + x5).toNat) 0) (fun o23 => some (.inl (o23, x5 + 1))))) (some (.inr (o)))
noncomputable def e_X12_stop_104 (o : OO) (x1 : Int) (x2 : Int) (x3 : Int) (x4 : Int) (x5 : Int) : Option ((OO × Int) ⊕ ((OO))) := qB (loopW (fun s => l_X12_stop_104 x1 x2 x3 x4 s.1 s.2) (o, x5)) (fun r => b_X12_stop_129 r x1 x2 x3 x4)
noncomputable def b_X12_stop_92 (o : OO) (x1 : Int) (x2 : Int) (x3 : Int) (x4 : Int) (y1 : Int) (y2 : Int) : Option ((OO × Int) ⊕ ((OO))) := qIn y1 64 (qZ y2 (qNm (st1 o 58 y1.toNat y2) (fun o26 => qIn x4 64 (qNm (st1 o26 59 x4.toNat 0) (fun o28 => e_X12_stop_104 o28 x1 x2 x3 x4 0)))))
noncomputable def b_X12_stop_91 (o : OO) (x1 : Int) (x2 : Int) (x3 : Int) (x4 : Int) (y1 : Int) : Option ((OO × Int) ⊕ ((OO))) := b_X12_stop_92 o x1 x2 x3 x4 y1 0
noncomputable def l_X12_stop_53 (x1 : Int) (x2 : Int) (x3 : Int) (o : OO) (x4 : Int) : Option ((OO × Int) ⊕ ((OO))) := qLt x4 64 (qEq x4 x1 (b_X12_stop_91 o x1 x2 x3 x4 x4) (qEq x4 x2 (b_X12_stop_91 o x1 x2 x3 x4 x4) (qB (s_X12_on o x4) (fun r29 => qLt r29 0 (b_X12_stop_91 o x1 x2 x3 x4 x4) (b_X12_stop_92 o x1 x2 x3 x4 x4 1))))) (some (.inr (o)))
noncomputable def e_X12_stop_53 (o : OO) (x1 : Int) (x2 : Int) (x3 : Int) (x4 : Int) : Option (Int × OO) := qB (loopW (fun s => l_X12_stop_53 x1 x2 x3 s.1 s.2) (o, x4)) (fun r => b_X12_stop_135 r x1 x2 x3)
noncomputable def s_X12_stop (o : OO) (x1 : Int) (x2 : Int) : Option (Int × OO) := qB (s_X12_isCell x1) (fun r31 => qEq r31 0 (b_X12_stop_19 o) (qB (s_X12_isCell x2) (fun r33 => qEq r33 0 (b_X12_stop_19 o) (qEq x1 x2 (b_X12_stop_19 o) (qIn x1 64 (qNm (o.1 11 x1.toNat) (fun n36 => qEq n36 4 (b_X12_stop_41 o) (qIn x2 64 (qNm (o.1 11 x2.toNat) (fun n38 => qEq n38 4 (b_X12_stop_41 o) (qB (s_X12_nowInForce o 0) (fun r39 => e_X12_stop_53 o x1 x2 r39 0))))))))))))
set_option maxHeartbeats 4000000 in
set_option maxRecDepth 100000 in
theorem c_X12_stop (l : Launch) (g : GG) (ad : Nat → Nat) (o : OO) (x1 : Int) (x2 : Int) (v : Int × OO) (h : s_X12_stop o x1 x2 = some v) : CI l g yX12_stop cX12_stop 7 (some .int) 3 76 (wM g ad o) [.ref (ad 0), iv x1, iv x2] v.1 (wM g ad v.2) := by
  refine met_I (by decide) (Nat.le_of_ble_eq_true rfl) ?_
  intro X E hQ
  show Go X 0 (wM g ad o) [(0, .ref (ad 0)), (1, iv x1), (2, iv x2)] []
  have j19 : ∀ (o : OO), b_X12_stop_19 o = some v → Go X 19 (wM g ad o) [] [] := by
    intro o h
    unfold b_X12_stop_19 at h
    refine g_iconst E gdX12_stop_19 ?_
    exact g_iret E hQ (by rw [← Option.some.inj h]) (by rw [← Option.some.inj h]) gdX12_stop_20
  have j41 : ∀ (o : OO), b_X12_stop_41 o = some v → Go X 41 (wM g ad o) [] [] := by
    intro o h
    unfold b_X12_stop_41 at h
    refine g_bipush E gdX12_stop_41 (by decide) ?_
    exact g_iret E hQ (by rw [← Option.some.inj h]) (by rw [← Option.some.inj h]) gdX12_stop_43
  have j277 : ∀ (o : OO) (x4 : Int), b_X12_stop_277 o x4 = some v → Go X 277 (wM g ad o) [(4, iv x4)] [] := by
    intro o x4 h
    unfold b_X12_stop_277 at h
    refine g_iload E gdX12_stop_277 0 rfl ?_
    exact g_iret E hQ (by rw [← Option.some.inj h]) (by rw [← Option.some.inj h]) gdX12_stop_279
  have j267 : ∀ (o : OO) (x4 : Int) (x5 : Int) (y1 : Int64) (y2 : Int64) (v : (OO × Int) ⊕ ((OO))), b_X12_stop_267 o x4 x5 y1 y2 = some v → (∀ (o : OO) (x5 : Int), v = .inl (o, x5) → Go X 199 (wM g ad o) [(0, .ref (ad 0)), (4, iv x4), (5, iv x5)] []) → (∀ (o : OO), v = .inr (o) → Go X 277 (wM g ad o) [(4, iv x4)] []) → Go X 267 (wM g ad o) [(0, .ref (ad 0)), (4, iv x4), (5, iv x5)] [.long y2, .long y1, .ref (ad 0)] := by
    intro o x4 x5 y1 y2 v h k0 k1
    unfold b_X12_stop_267 at h
    refine g_lor E gdX12_stop_267 ?_
    obtain ⟨o1, e_o1, h⟩ := qNm_of h
    refine g_putl (T := TX12) (ws' := wM g ad o1) E fw_X12 tyX12 tyX12_ok nmX12 0 (wM_0 g ad o) rfl 3 (by decide) w_1469 rfl rfl (by decide +kernel) (Nat.le_of_ble_eq_true rfl) (by rw [e_o1]; exact wM_p0_3 g ad o _) gdX12_stop_268 ?_
    refine g_iinc E [(5, iv (x5 + 1)), (0, .ref (ad 0)), (4, iv x4)] gdX12_stop_271 2 rfl (by decide) rfl ?_
    refine g_goto E 199 gdX12_stop_274 (by decide) ?_
    refine g_sub E [1, 2, 0] rfl ?_
    exact k0 o1 (x5 + 1) (Option.some.inj h).symm
  have j247 : ∀ (o : OO) (x4 : Int) (x5 : Int) (y0 : Int) (v : (OO × Int) ⊕ ((OO))), b_X12_stop_247 o x4 x5 y0 = some v → (∀ (o : OO) (x5 : Int), v = .inl (o, x5) → Go X 199 (wM g ad o) [(0, .ref (ad 0)), (4, iv x4), (5, iv x5)] []) → (∀ (o : OO), v = .inr (o) → Go X 277 (wM g ad o) [(4, iv x4)] []) → Go X 247 (wM g ad o) [(0, .ref (ad 0)), (4, iv x4), (5, iv x5)] [iv y0] := by
    intro o x4 x5 y0 v h k0 k1
    unfold b_X12_stop_247 at h
    refine g_istore E [(6, iv y0), (0, .ref (ad 0)), (4, iv x4), (5, iv x5)] gdX12_stop_247 (by decide) rfl ?_
    refine g_aload_n E gdX12_stop_249 rfl 1 rfl ?_
    refine g_dup E gdX12_stop_250 rfl ?_
    refine g_get (T := TX12) E fw_X12 0 (wM_0 g ad o) rfl 3 (by decide) w_1469 rfl rfl gdX12_stop_251 ?_
    refine g_iload E gdX12_stop_254 0 rfl ?_
    refine g_if_eq E 266 gdX12_stop_256 (by decide) h (fun h => ?_) (fun h => ?_)
    ·
      refine g_lconst (v := 0) E gdX12_stop_266 (by decide) ?_
      refine g_sub E [1, 2, 3] rfl ?_
      exact j267 o x4 x5 (o.2 0 3) (0 : Int64) v h k0 k1
    ·
      refine g_lconst (v := 1) E gdX12_stop_259 (by decide) ?_
      refine g_iload E gdX12_stop_260 3 rfl ?_
      refine g_lshl E gdX12_stop_262 ?_
      refine g_goto E 267 gdX12_stop_263 (by decide) ?_
      refine g_sub E [1, 2, 3] rfl ?_
      exact j267 o x4 x5 (o.2 0 3) (jshl (1 : Int64) (Int32.ofInt x5)) v h k0 k1
  have j246 : ∀ (o : OO) (x4 : Int) (x5 : Int) (v : (OO × Int) ⊕ ((OO))), b_X12_stop_246 o x4 x5 = some v → (∀ (o : OO) (x5 : Int), v = .inl (o, x5) → Go X 199 (wM g ad o) [(0, .ref (ad 0)), (4, iv x4), (5, iv x5)] []) → (∀ (o : OO), v = .inr (o) → Go X 277 (wM g ad o) [(4, iv x4)] []) → Go X 246 (wM g ad o) [(0, .ref (ad 0)), (4, iv x4), (5, iv x5)] [] := by
    intro o x4 x5 v h k0 k1
    unfold b_X12_stop_246 at h
    refine g_iconst E gdX12_stop_246 ?_
    exact j247 o x4 x5 0 v h k0 k1
  have l199 : ∀ (x4 : Int) (r : (OO)) (s0 : OO × Int), loopW (fun s => l_X12_stop_199 x4 s.1 s.2) s0 = some r → (∀ (o : OO), r = (o) → Go X 277 (wM g ad o) [(4, iv x4)] []) → Go X 199 (wM g ad s0.1) [(0, .ref (ad 0)), (4, iv x4), (5, iv s0.2)] [] := by
    intro x4 r s0 h k1
    refine loop_rule (Head := fun s0 => Go X 199 (wM g ad s0.1) [(0, .ref (ad 0)), (4, iv x4), (5, iv s0.2)] []) h ?_
    intro s v h kk kx
    obtain ⟨o, x5⟩ := s
    have h : l_X12_stop_199 x4 o x5 = some v := h
    have k0 : ∀ (o : OO) (x5 : Int), v = .inl (o, x5) → Go X 199 (wM g ad o) [(0, .ref (ad 0)), (4, iv x4), (5, iv x5)] [] := fun o x5 e => kk (o, x5) e
    have k1 : ∀ (o : OO), v = .inr (o) → Go X 277 (wM g ad o) [(4, iv x4)] [] := fun o e => k1 o (kx _ e).symm
    unfold l_X12_stop_199 at h
    refine g_iload E gdX12_stop_199 2 rfl ?_
    refine g_bipush E gdX12_stop_201 (by decide) ?_
    refine g_icmp_ge E 277 gdX12_stop_203 (by decide) h (fun h => ?_) (fun h => ?_)
    ·
      refine g_sub E [1] rfl ?_
      exact k1 o (Option.some.inj h).symm
    ·
      refine g_aload_n E gdX12_stop_206 rfl 0 rfl ?_
      refine g_get (T := TX12) E fw_X12 0 (wM_0 g ad o) rfl 71 (by decide) w_1537 rfl rfl gdX12_stop_207 ?_
      refine g_iload E gdX12_stop_210 2 rfl ?_
      obtain ⟨hi2, h⟩ := qIn_of h
      refine g_zald E 58 (wM_58 g ad o) (by decide) hi2 gdX12_stop_212 ?_
      obtain ⟨n3, e_n3, h⟩ := qNm_of h
      refine g_nmi e_n3 ?_
      refine g_if_eq E 246 gdX12_stop_213 (by decide) h (fun h => ?_) (fun h => ?_)
      ·
        exact j246 o x4 x5 v h k0 k1
      ·
        refine g_aload_n E gdX12_stop_216 rfl 0 rfl ?_
        refine g_get (T := TX12) E fw_X12 0 (wM_0 g ad o) rfl 74 (by decide) w_1540 rfl rfl gdX12_stop_217 ?_
        refine g_iconst E gdX12_stop_220 ?_
        refine g_iload E gdX12_stop_221 2 rfl ?_
        refine g_imul E gdX12_stop_223 ?_
        obtain ⟨hi4, h⟩ := qIn_of h
        refine g_iald E 61 (wM_61 g ad o) (by decide) hi4 gdX12_stop_224 ?_
        obtain ⟨n5, e_n5, h⟩ := qNm_of h
        refine g_nmi e_n5 ?_
        refine g_if_lt E 246 gdX12_stop_225 (by decide) h (fun h => ?_) (fun h => ?_)
        ·
          exact j246 o x4 x5 v h k0 k1
        ·
          refine g_aload_n E gdX12_stop_228 rfl 0 rfl ?_
          refine g_get (T := TX12) E fw_X12 0 (wM_0 g ad o) rfl 74 (by decide) w_1540 rfl rfl gdX12_stop_229 ?_
          refine g_iconst E gdX12_stop_232 ?_
          refine g_iload E gdX12_stop_233 2 rfl ?_
          refine g_imul E gdX12_stop_235 ?_
          refine g_iconst E gdX12_stop_236 ?_
          refine g_iadd E gdX12_stop_237 ?_
          obtain ⟨hi6, h⟩ := qIn_of h
          refine g_iald E 61 (wM_61 g ad o) (by decide) hi6 gdX12_stop_238 ?_
          obtain ⟨n7, e_n7, h⟩ := qNm_of h
          refine g_nmi e_n7 ?_
          refine g_if_ge E 246 gdX12_stop_239 (by decide) h (fun h => ?_) (fun h => ?_)
          ·
            exact j246 o x4 x5 v h k0 k1
          ·
            refine g_iconst E gdX12_stop_242 ?_
            refine g_goto E 247 gdX12_stop_243 (by decide) ?_
            exact j247 o x4 x5 1 v h k0 k1
  have j199 : ∀ (o : OO) (x4 : Int) (x5 : Int), e_X12_stop_199 o x4 x5 = some v → Go X 199 (wM g ad o) [(0, .ref (ad 0)), (4, iv x4), (5, iv x5)] [] := by
    intro o x4 x5 h
    unfold e_X12_stop_199 at h
    obtain ⟨r, hr, h⟩ := qB_of h
    refine l199 x4 r _ hr ?_
    ·
      intro u0 e
      have e := e.symm
      subst e
      have h : b_X12_stop_277 u0 x4 = some v := h
      exact j277 u0 x4 h
  have j191 : ∀ (o : OO) (x4 : Int), b_X12_stop_191 o x4 = some v → Go X 191 (wM g ad o) [(0, .ref (ad 0)), (4, iv x4)] [] := by
    intro o x4 h
    unfold b_X12_stop_191 at h
    refine g_aload_n E gdX12_stop_191 rfl 0 rfl ?_
    refine g_lconst (v := 0) E gdX12_stop_192 (by decide) ?_
    obtain ⟨o8, e_o8, h⟩ := qNm_of h
    refine g_putl (T := TX12) (ws' := wM g ad o8) E fw_X12 tyX12 tyX12_ok nmX12 0 (wM_0 g ad o) rfl 3 (by decide) w_1469 rfl rfl (by decide +kernel) (Nat.le_of_ble_eq_true rfl) (by rw [e_o8]; exact wM_p0_3 g ad o _) gdX12_stop_193 ?_
    refine g_iconst E gdX12_stop_196 ?_
    refine g_istore E [(5, iv 0), (0, .ref (ad 0)), (4, iv x4)] gdX12_stop_197 (by decide) rfl ?_
    refine g_sub E [1, 2, 0] rfl ?_
    exact j199 o8 x4 0 h
  have l169 : ∀ (x1 : Int) (x2 : Int) (x3 : Int) (r : (OO × Int)) (s0 : OO × Int), loopW (fun s => l_X12_stop_169 x1 x2 x3 s.1 s.2) s0 = some r → (∀ (o : OO) (x4 : Int), r = ((o, x4)) → Go X 191 (wM g ad o) [(0, .ref (ad 0)), (4, iv x4)] []) → Go X 169 (wM g ad s0.1) [(0, .ref (ad 0)), (1, iv x1), (2, iv x2), (3, iv x3), (4, iv s0.2)] [] := by
    intro x1 x2 x3 r s0 h k1
    refine loop_rule (Head := fun s0 => Go X 169 (wM g ad s0.1) [(0, .ref (ad 0)), (1, iv x1), (2, iv x2), (3, iv x3), (4, iv s0.2)] []) h ?_
    intro s v h kk kx
    obtain ⟨o, x4⟩ := s
    have h : l_X12_stop_169 x1 x2 x3 o x4 = some v := h
    have k0 : ∀ (o : OO) (x4 : Int), v = .inl (o, x4) → Go X 169 (wM g ad o) [(0, .ref (ad 0)), (1, iv x1), (2, iv x2), (3, iv x3), (4, iv x4)] [] := fun o x4 e => kk (o, x4) e
    have k1 : ∀ (o : OO) (x4 : Int), v = .inr ((o, x4)) → Go X 191 (wM g ad o) [(0, .ref (ad 0)), (4, iv x4)] [] := fun o x4 e => k1 o x4 (kx _ e).symm
    unfold l_X12_stop_169 at h
    refine g_aload_n E gdX12_stop_169 rfl 0 rfl ?_
    refine g_iload_n E gdX12_stop_170 rfl 1 rfl ?_
    refine g_iload_n E gdX12_stop_171 rfl 2 rfl ?_
    refine g_iload_n E gdX12_stop_172 rfl 3 rfl ?_
    obtain ⟨r9, o11, hc10, h⟩ := qB2_of h
    refine g_Vi (r := r9) (As := [iv x1, iv x2, iv x3]) (rest := []) (w := wM g ad o11) E (c_X12_finds l g ad o x1 x2 x3 (r9, o11) hc10) okm_X12_finds okw_X12_finds w_2095 rfl (wM_0 g ad o) rfl rfl (Nat.le_of_ble_eq_true rfl) ⟨Nat.le_of_ble_eq_true rfl, Nat.le_of_ble_eq_true rfl⟩ gdX12_stop_173 ?_
    refine g_if_eq E 191 gdX12_stop_176 (by decide) h (fun h => ?_) (fun h => ?_)
    ·
      refine g_sub E [0, 4] rfl ?_
      exact k1 o11 x4 (Option.some.inj h).symm
    ·
      refine g_aload_n E gdX12_stop_179 rfl 0 rfl ?_
      refine g_iload_n E gdX12_stop_180 rfl 1 rfl ?_
      refine g_iload_n E gdX12_stop_181 rfl 2 rfl ?_
      obtain ⟨o14, hc13, h⟩ := qB_of h
      refine g_Vv (As := [iv x1, iv x2]) (rest := []) (w := wM g ad o14) E (c_X12_goAlong l g ad o11 x1 x2 o14 hc13) okm_X12_goAlong okw_X12_goAlong w_2099 rfl (wM_0 g ad o11) rfl rfl (Nat.le_of_ble_eq_true rfl) ⟨Nat.le_of_ble_eq_true rfl, Nat.le_of_ble_eq_true rfl⟩ gdX12_stop_182 ?_
      refine g_iinc E [(4, iv (x4 + 1)), (0, .ref (ad 0)), (1, iv x1), (2, iv x2), (3, iv x3)] gdX12_stop_185 4 rfl (by decide) rfl ?_
      refine g_goto E 169 gdX12_stop_188 (by decide) ?_
      refine g_sub E [1, 2, 3, 4, 0] rfl ?_
      exact k0 o14 (x4 + 1) (Option.some.inj h).symm
  have j169 : ∀ (o : OO) (x1 : Int) (x2 : Int) (x3 : Int) (x4 : Int), e_X12_stop_169 o x1 x2 x3 x4 = some v → Go X 169 (wM g ad o) [(0, .ref (ad 0)), (1, iv x1), (2, iv x2), (3, iv x3), (4, iv x4)] [] := by
    intro o x1 x2 x3 x4 h
    unfold e_X12_stop_169 at h
    obtain ⟨r, hr, h⟩ := qB_of h
    refine l169 x1 x2 x3 r _ hr ?_
    ·
      intro u0 u1 e
      subst e
      have h : b_X12_stop_191 u0 u1 = some v := h
      exact j191 u0 u1 h
  have j135 : ∀ (o : OO) (x1 : Int) (x2 : Int) (x3 : Int), b_X12_stop_135 o x1 x2 x3 = some v → Go X 135 (wM g ad o) [(0, .ref (ad 0)), (1, iv x1), (2, iv x2), (3, iv x3)] [] := by
    intro o x1 x2 x3 h
    unfold b_X12_stop_135 at h
    refine g_aload_n E gdX12_stop_135 rfl 0 rfl ?_
    refine g_iload_n E gdX12_stop_136 rfl 1 rfl ?_
    refine g_iload_n E gdX12_stop_137 rfl 2 rfl ?_
    refine g_iload_n E gdX12_stop_138 rfl 3 rfl ?_
    refine g_iconst E gdX12_stop_139 ?_
    obtain ⟨r15, hc16, h⟩ := qB_of h
    refine g_Vi (r := r15) (As := [iv x1, iv x2, iv x3, iv 1]) (rest := []) (w := wM g ad o) E (c_X12_comes l g ad o x1 x2 x3 1 r15 hc16) okm_X12_comes okw_X12_comes w_2091 rfl (wM_0 g ad o) rfl rfl (Nat.le_of_ble_eq_true rfl) ⟨Nat.le_of_ble_eq_true rfl, Nat.le_of_ble_eq_true rfl⟩ gdX12_stop_140 ?_
    refine g_if_ne E 152 gdX12_stop_143 (by decide) h (fun h => ?_) (fun h => ?_)
    ·
      refine g_aload_n E gdX12_stop_152 rfl 0 rfl ?_
      refine g_iload_n E gdX12_stop_153 rfl 1 rfl ?_
      refine g_iload_n E gdX12_stop_154 rfl 2 rfl ?_
      refine g_iload_n E gdX12_stop_155 rfl 3 rfl ?_
      refine g_iconst E gdX12_stop_156 ?_
      obtain ⟨r17, hc18, h⟩ := qB_of h
      refine g_Vi (r := r17) (As := [iv x1, iv x2, iv x3, iv 0]) (rest := []) (w := wM g ad o) E (c_X12_comes l g ad o x1 x2 x3 0 r17 hc18) okm_X12_comes okw_X12_comes w_2091 rfl (wM_0 g ad o) rfl rfl (Nat.le_of_ble_eq_true rfl) ⟨Nat.le_of_ble_eq_true rfl, Nat.le_of_ble_eq_true rfl⟩ gdX12_stop_157 ?_
      refine g_if_eq E 166 gdX12_stop_160 (by decide) h (fun h => ?_) (fun h => ?_)
      ·
        refine g_iconst E gdX12_stop_166 ?_
        refine g_istore E [(4, iv 0), (0, .ref (ad 0)), (1, iv x1), (2, iv x2), (3, iv x3)] gdX12_stop_167 (by decide) rfl ?_
        refine g_sub E [1, 2, 3, 4, 0] rfl ?_
        exact j169 o x1 x2 x3 0 h
      ·
        refine g_bipush E gdX12_stop_163 (by decide) ?_
        exact g_iret E hQ (by rw [← Option.some.inj h]) (by rw [← Option.some.inj h]) gdX12_stop_165
    ·
      refine g_aload_n E gdX12_stop_146 rfl 0 rfl ?_
      refine g_iconst E gdX12_stop_147 ?_
      obtain ⟨r19, o21, hc20, h⟩ := qB2_of h
      refine g_Vi (r := r19) (As := [iv 1]) (rest := []) (w := wM g ad o21) E (c_X12_meets l g ad o 1 (r19, o21) hc20) okm_X12_meets okw_X12_meets w_1708 rfl (wM_0 g ad o) rfl rfl (Nat.le_of_ble_eq_true rfl) ⟨Nat.le_of_ble_eq_true rfl, Nat.le_of_ble_eq_true rfl⟩ gdX12_stop_148 ?_
      exact g_iret E hQ (by rw [← Option.some.inj h]) (by rw [← Option.some.inj h]) gdX12_stop_151
  have j129 : ∀ (o : OO) (x1 : Int) (x2 : Int) (x3 : Int) (x4 : Int) (v : (OO × Int) ⊕ ((OO))), b_X12_stop_129 o x1 x2 x3 x4 = some v → (∀ (o : OO) (x4 : Int), v = .inl (o, x4) → Go X 53 (wM g ad o) [(0, .ref (ad 0)), (1, iv x1), (2, iv x2), (3, iv x3), (4, iv x4)] []) → (∀ (o : OO), v = .inr (o) → Go X 135 (wM g ad o) [(0, .ref (ad 0)), (1, iv x1), (2, iv x2), (3, iv x3)] []) → Go X 129 (wM g ad o) [(0, .ref (ad 0)), (1, iv x1), (2, iv x2), (3, iv x3), (4, iv x4)] [] := by
    intro o x1 x2 x3 x4 v h k0 k1
    unfold b_X12_stop_129 at h
    refine g_iinc E [(4, iv (x4 + 1)), (0, .ref (ad 0)), (1, iv x1), (2, iv x2), (3, iv x3)] gdX12_stop_129 4 rfl (by decide) rfl ?_
    refine g_goto E 53 gdX12_stop_132 (by decide) ?_
    refine g_sub E [1, 2, 3, 4, 0] rfl ?_
    exact k0 o (x4 + 1) (Option.some.inj h).symm
  have l104 : ∀ (x1 : Int) (x2 : Int) (x3 : Int) (x4 : Int) (r : (OO)) (s0 : OO × Int), loopW (fun s => l_X12_stop_104 x1 x2 x3 x4 s.1 s.2) s0 = some r → (∀ (o : OO), r = (o) → Go X 129 (wM g ad o) [(0, .ref (ad 0)), (1, iv x1), (2, iv x2), (3, iv x3), (4, iv x4)] []) → Go X 104 (wM g ad s0.1) [(0, .ref (ad 0)), (1, iv x1), (2, iv x2), (3, iv x3), (4, iv x4), (5, iv s0.2)] [] := by
    intro x1 x2 x3 x4 r s0 h k1
    refine loop_rule (Head := fun s0 => Go X 104 (wM g ad s0.1) [(0, .ref (ad 0)), (1, iv x1), (2, iv x2), (3, iv x3), (4, iv x4), (5, iv s0.2)] []) h ?_
    intro s v h kk kx
    obtain ⟨o, x5⟩ := s
    have h : l_X12_stop_104 x1 x2 x3 x4 o x5 = some v := h
    have k0 : ∀ (o : OO) (x5 : Int), v = .inl (o, x5) → Go X 104 (wM g ad o) [(0, .ref (ad 0)), (1, iv x1), (2, iv x2), (3, iv x3), (4, iv x4), (5, iv x5)] [] := fun o x5 e => kk (o, x5) e
    have k1 : ∀ (o : OO), v = .inr (o) → Go X 129 (wM g ad o) [(0, .ref (ad 0)), (1, iv x1), (2, iv x2), (3, iv x3), (4, iv x4)] [] := fun o e => k1 o (kx _ e).symm
    unfold l_X12_stop_104 at h
    refine g_iload E gdX12_stop_104 5 rfl ?_
    refine g_iconst E gdX12_stop_106 ?_
    refine g_icmp_ge E 129 gdX12_stop_107 (by decide) h (fun h => ?_) (fun h => ?_)
    ·
      refine g_sub E [0, 1, 2, 3, 4] rfl ?_
      exact k1 o (Option.some.inj h).symm
    ·
      refine g_aload_n E gdX12_stop_110 rfl 0 rfl ?_
      refine g_get (T := TX12) E fw_X12 0 (wM_0 g ad o) rfl 73 (by decide) w_1539 rfl rfl gdX12_stop_111 ?_
      refine g_iconst E gdX12_stop_114 ?_
      refine g_iload E gdX12_stop_115 4 rfl ?_
      refine g_imul E gdX12_stop_117 ?_
      refine g_iload E gdX12_stop_118 5 rfl ?_
      refine g_iadd E gdX12_stop_120 ?_
      refine g_iconst E gdX12_stop_121 ?_
      obtain ⟨hi22, h⟩ := qIn_of h
      obtain ⟨o23, e_o23, h⟩ := qNm_of h
      refine g_iast (ws' := wM g ad o23) E 60 (wM_60 g ad o) (by decide) hi22 (by rw [e_o23]; exact wM_s60 g ad o _ _) gdX12_stop_122 ?_
      refine g_iinc E [(5, iv (x5 + 1)), (0, .ref (ad 0)), (1, iv x1), (2, iv x2), (3, iv x3), (4, iv x4)] gdX12_stop_123 5 rfl (by decide) rfl ?_
      refine g_goto E 104 gdX12_stop_126 (by decide) ?_
      refine g_sub E [1, 2, 3, 4, 5, 0] rfl ?_
      exact k0 o23 (x5 + 1) (Option.some.inj h).symm
  have j104 : ∀ (o : OO) (x1 : Int) (x2 : Int) (x3 : Int) (x4 : Int) (x5 : Int) (v : (OO × Int) ⊕ ((OO))), e_X12_stop_104 o x1 x2 x3 x4 x5 = some v → (∀ (o : OO) (x4 : Int), v = .inl (o, x4) → Go X 53 (wM g ad o) [(0, .ref (ad 0)), (1, iv x1), (2, iv x2), (3, iv x3), (4, iv x4)] []) → (∀ (o : OO), v = .inr (o) → Go X 135 (wM g ad o) [(0, .ref (ad 0)), (1, iv x1), (2, iv x2), (3, iv x3)] []) → Go X 104 (wM g ad o) [(0, .ref (ad 0)), (1, iv x1), (2, iv x2), (3, iv x3), (4, iv x4), (5, iv x5)] [] := by
    intro o x1 x2 x3 x4 x5 v h k0 k1
    unfold e_X12_stop_104 at h
    obtain ⟨r, hr, h⟩ := qB_of h
    refine l104 x1 x2 x3 x4 r _ hr ?_
    ·
      intro u0 e
      have e := e.symm
      subst e
      have h : b_X12_stop_129 u0 x1 x2 x3 x4 = some v := h
      exact j129 u0 x1 x2 x3 x4 v h k0 k1
  have j92 : ∀ (o : OO) (x1 : Int) (x2 : Int) (x3 : Int) (x4 : Int) (y1 : Int) (y2 : Int) (v : (OO × Int) ⊕ ((OO))), b_X12_stop_92 o x1 x2 x3 x4 y1 y2 = some v → (∀ (o : OO) (x4 : Int), v = .inl (o, x4) → Go X 53 (wM g ad o) [(0, .ref (ad 0)), (1, iv x1), (2, iv x2), (3, iv x3), (4, iv x4)] []) → (∀ (o : OO), v = .inr (o) → Go X 135 (wM g ad o) [(0, .ref (ad 0)), (1, iv x1), (2, iv x2), (3, iv x3)] []) → Go X 92 (wM g ad o) [(0, .ref (ad 0)), (1, iv x1), (2, iv x2), (3, iv x3), (4, iv x4)] [iv y2, iv y1, .ref (ad 58)] := by
    intro o x1 x2 x3 x4 y1 y2 v h k0 k1
    unfold b_X12_stop_92 at h
    obtain ⟨hi24, h⟩ := qIn_of h
    obtain ⟨hz25, h⟩ := qZ_of h
    obtain ⟨o26, e_o26, h⟩ := qNm_of h
    refine g_zast (ws' := wM g ad o26) E 58 (wM_58 g ad o) (by decide) hi24 hz25 (by rw [e_o26]; exact wM_s58 g ad o _ _) gdX12_stop_92 ?_
    refine g_aload_n E gdX12_stop_93 rfl 0 rfl ?_
    refine g_get (T := TX12) E fw_X12 0 (wM_0 g ad o26) rfl 72 (by decide) w_1538 rfl rfl gdX12_stop_94 ?_
    refine g_iload E gdX12_stop_97 4 rfl ?_
    refine g_iconst E gdX12_stop_99 ?_
    obtain ⟨hi27, h⟩ := qIn_of h
    obtain ⟨o28, e_o28, h⟩ := qNm_of h
    refine g_iast (ws' := wM g ad o28) E 59 (wM_59 g ad o26) (by decide) hi27 (by rw [e_o28]; exact wM_s59 g ad o26 _ _) gdX12_stop_100 ?_
    refine g_iconst E gdX12_stop_101 ?_
    refine g_istore E [(5, iv 0), (0, .ref (ad 0)), (1, iv x1), (2, iv x2), (3, iv x3), (4, iv x4)] gdX12_stop_102 (by decide) rfl ?_
    refine g_sub E [1, 2, 3, 4, 5, 0] rfl ?_
    exact j104 o28 x1 x2 x3 x4 0 v h k0 k1
  have j91 : ∀ (o : OO) (x1 : Int) (x2 : Int) (x3 : Int) (x4 : Int) (y1 : Int) (v : (OO × Int) ⊕ ((OO))), b_X12_stop_91 o x1 x2 x3 x4 y1 = some v → (∀ (o : OO) (x4 : Int), v = .inl (o, x4) → Go X 53 (wM g ad o) [(0, .ref (ad 0)), (1, iv x1), (2, iv x2), (3, iv x3), (4, iv x4)] []) → (∀ (o : OO), v = .inr (o) → Go X 135 (wM g ad o) [(0, .ref (ad 0)), (1, iv x1), (2, iv x2), (3, iv x3)] []) → Go X 91 (wM g ad o) [(0, .ref (ad 0)), (1, iv x1), (2, iv x2), (3, iv x3), (4, iv x4)] [iv y1, .ref (ad 58)] := by
    intro o x1 x2 x3 x4 y1 v h k0 k1
    unfold b_X12_stop_91 at h
    refine g_iconst E gdX12_stop_91 ?_
    exact j92 o x1 x2 x3 x4 y1 0 v h k0 k1
  have l53 : ∀ (x1 : Int) (x2 : Int) (x3 : Int) (r : (OO)) (s0 : OO × Int), loopW (fun s => l_X12_stop_53 x1 x2 x3 s.1 s.2) s0 = some r → (∀ (o : OO), r = (o) → Go X 135 (wM g ad o) [(0, .ref (ad 0)), (1, iv x1), (2, iv x2), (3, iv x3)] []) → Go X 53 (wM g ad s0.1) [(0, .ref (ad 0)), (1, iv x1), (2, iv x2), (3, iv x3), (4, iv s0.2)] [] := by
    intro x1 x2 x3 r s0 h k1
    refine loop_rule (Head := fun s0 => Go X 53 (wM g ad s0.1) [(0, .ref (ad 0)), (1, iv x1), (2, iv x2), (3, iv x3), (4, iv s0.2)] []) h ?_
    intro s v h kk kx
    obtain ⟨o, x4⟩ := s
    have h : l_X12_stop_53 x1 x2 x3 o x4 = some v := h
    have k0 : ∀ (o : OO) (x4 : Int), v = .inl (o, x4) → Go X 53 (wM g ad o) [(0, .ref (ad 0)), (1, iv x1), (2, iv x2), (3, iv x3), (4, iv x4)] [] := fun o x4 e => kk (o, x4) e
    have k1 : ∀ (o : OO), v = .inr (o) → Go X 135 (wM g ad o) [(0, .ref (ad 0)), (1, iv x1), (2, iv x2), (3, iv x3)] [] := fun o e => k1 o (kx _ e).symm
    unfold l_X12_stop_53 at h
    refine g_iload E gdX12_stop_53 4 rfl ?_
    refine g_bipush E gdX12_stop_55 (by decide) ?_
    refine g_icmp_ge E 135 gdX12_stop_57 (by decide) h (fun h => ?_) (fun h => ?_)
    ·
      refine g_sub E [0, 1, 2, 3] rfl ?_
      exact k1 o (Option.some.inj h).symm
    ·
      refine g_aload_n E gdX12_stop_60 rfl 0 rfl ?_
      refine g_get (T := TX12) E fw_X12 0 (wM_0 g ad o) rfl 71 (by decide) w_1537 rfl rfl gdX12_stop_61 ?_
      refine g_iload E gdX12_stop_64 4 rfl ?_
      refine g_iload E gdX12_stop_66 4 rfl ?_
      refine g_iload_n E gdX12_stop_68 rfl 1 rfl ?_
      refine g_icmp_eq E 91 gdX12_stop_69 (by decide) h (fun h => ?_) (fun h => ?_)
      ·
        exact j91 o x1 x2 x3 x4 x4 v h k0 k1
      ·
        refine g_iload E gdX12_stop_72 4 rfl ?_
        refine g_iload_n E gdX12_stop_74 rfl 2 rfl ?_
        refine g_icmp_eq E 91 gdX12_stop_75 (by decide) h (fun h => ?_) (fun h => ?_)
        ·
          exact j91 o x1 x2 x3 x4 x4 v h k0 k1
        ·
          refine g_aload_n E gdX12_stop_78 rfl 0 rfl ?_
          refine g_iload E gdX12_stop_79 4 rfl ?_
          obtain ⟨r29, hc30, h⟩ := qB_of h
          refine g_Vi (r := r29) (As := [iv x4]) (rest := [iv x4, .ref (ad 58)]) (w := wM g ad o) E (c_X12_on l g ad o x4 r29 hc30) okm_X12_on okw_X12_on w_1791 rfl (wM_0 g ad o) rfl rfl (Nat.le_of_ble_eq_true rfl) ⟨Nat.le_of_ble_eq_true rfl, Nat.le_of_ble_eq_true rfl⟩ gdX12_stop_81 ?_
          refine g_if_lt E 91 gdX12_stop_84 (by decide) h (fun h => ?_) (fun h => ?_)
          ·
            exact j91 o x1 x2 x3 x4 x4 v h k0 k1
          ·
            refine g_iconst E gdX12_stop_87 ?_
            refine g_goto E 92 gdX12_stop_88 (by decide) ?_
            exact j92 o x1 x2 x3 x4 x4 1 v h k0 k1
  have j53 : ∀ (o : OO) (x1 : Int) (x2 : Int) (x3 : Int) (x4 : Int), e_X12_stop_53 o x1 x2 x3 x4 = some v → Go X 53 (wM g ad o) [(0, .ref (ad 0)), (1, iv x1), (2, iv x2), (3, iv x3), (4, iv x4)] [] := by
    intro o x1 x2 x3 x4 h
    unfold e_X12_stop_53 at h
    obtain ⟨r, hr, h⟩ := qB_of h
    refine l53 x1 x2 x3 r _ hr ?_
    ·
      intro u0 e
      have e := e.symm
      subst e
      have h : b_X12_stop_135 u0 x1 x2 x3 = some v := h
      exact j135 u0 x1 x2 x3 h
  unfold s_X12_stop at h
  refine g_iload_n E gdX12_stop_0 rfl 1 rfl ?_
  obtain ⟨r31, hc32, h⟩ := qB_of h
  refine g_Si (r := r31) (As := [iv x1]) (rest := []) (w := wM g ad o) E (c_X12_isCell l g (wM g ad o) x1 r31 hc32) okm_X12_isCell w_1789 w_1788 rfl rfl (Nat.le_of_ble_eq_true rfl) ⟨Nat.le_of_ble_eq_true rfl, Nat.le_of_ble_eq_true rfl⟩ gdX12_stop_1 ?_
  refine g_if_eq E 19 gdX12_stop_4 (by decide) h (fun h => ?_) (fun h => ?_)
  ·
    refine g_sub E [] rfl ?_
    exact j19 o h
  ·
    refine g_iload_n E gdX12_stop_7 rfl 2 rfl ?_
    obtain ⟨r33, hc34, h⟩ := qB_of h
    refine g_Si (r := r33) (As := [iv x2]) (rest := []) (w := wM g ad o) E (c_X12_isCell l g (wM g ad o) x2 r33 hc34) okm_X12_isCell w_1789 w_1788 rfl rfl (Nat.le_of_ble_eq_true rfl) ⟨Nat.le_of_ble_eq_true rfl, Nat.le_of_ble_eq_true rfl⟩ gdX12_stop_8 ?_
    refine g_if_eq E 19 gdX12_stop_11 (by decide) h (fun h => ?_) (fun h => ?_)
    ·
      refine g_sub E [] rfl ?_
      exact j19 o h
    ·
      refine g_iload_n E gdX12_stop_14 rfl 1 rfl ?_
      refine g_iload_n E gdX12_stop_15 rfl 2 rfl ?_
      refine g_icmp_ne E 21 gdX12_stop_16 (by decide) h (fun h => ?_) (fun h => ?_)
      ·
        refine g_aload_n E gdX12_stop_21 rfl 0 rfl ?_
        refine g_get (T := TX12) E fw_X12 0 (wM_0 g ad o) rfl 15 (by decide) w_1481 rfl rfl gdX12_stop_22 ?_
        refine g_iload_n E gdX12_stop_25 rfl 1 rfl ?_
        obtain ⟨hi35, h⟩ := qIn_of h
        refine g_iald E 11 (wM_11 g ad o) (by decide) hi35 gdX12_stop_26 ?_
        obtain ⟨n36, e_n36, h⟩ := qNm_of h
        refine g_nmi e_n36 ?_
        refine g_iconst E gdX12_stop_27 ?_
        refine g_icmp_eq E 41 gdX12_stop_28 (by decide) h (fun h => ?_) (fun h => ?_)
        ·
          refine g_sub E [] rfl ?_
          exact j41 o h
        ·
          refine g_aload_n E gdX12_stop_31 rfl 0 rfl ?_
          refine g_get (T := TX12) E fw_X12 0 (wM_0 g ad o) rfl 15 (by decide) w_1481 rfl rfl gdX12_stop_32 ?_
          refine g_iload_n E gdX12_stop_35 rfl 2 rfl ?_
          obtain ⟨hi37, h⟩ := qIn_of h
          refine g_iald E 11 (wM_11 g ad o) (by decide) hi37 gdX12_stop_36 ?_
          obtain ⟨n38, e_n38, h⟩ := qNm_of h
          refine g_nmi e_n38 ?_
          refine g_iconst E gdX12_stop_37 ?_
          refine g_icmp_ne E 44 gdX12_stop_38 (by decide) h (fun h => ?_) (fun h => ?_)
          ·
            refine g_aload_n E gdX12_stop_44 rfl 0 rfl ?_
            refine g_iconst E gdX12_stop_45 ?_
            obtain ⟨r39, hc40, h⟩ := qB_of h
            refine g_Vi (r := r39) (As := [iv 0]) (rest := []) (w := wM g ad o) E (c_X12_nowInForce l g ad o 0 r39 hc40) okm_X12_nowInForce okw_X12_nowInForce w_1871 rfl (wM_0 g ad o) rfl rfl (Nat.le_of_ble_eq_true rfl) ⟨Nat.le_of_ble_eq_true rfl, Nat.le_of_ble_eq_true rfl⟩ gdX12_stop_46 ?_
            refine g_istore_n E [(3, iv r39), (0, .ref (ad 0)), (1, iv x1), (2, iv x2)] gdX12_stop_49 rfl (by decide) rfl ?_
            refine g_iconst E gdX12_stop_50 ?_
            refine g_istore E [(4, iv 0), (3, iv r39), (0, .ref (ad 0)), (1, iv x1), (2, iv x2)] gdX12_stop_51 (by decide) rfl ?_
            refine g_sub E [2, 3, 4, 1, 0] rfl ?_
            exact j53 o x1 x2 r39 0 h
          ·
            refine g_sub E [] rfl ?_
            exact j41 o h
      ·
        refine g_sub E [] rfl ?_
        exact j19 o h
noncomputable def b_X12_firstValue_18 (o : OO) (x2 : Int) : Option (Int) := qIn x2 100 (qNm (o.1 20 x2.toNat) (fun n2 => some n2))
noncomputable def l_X12_firstValue_2 (o : OO) (x1 : Int) (x2 : Int) : Option ((Int) ⊕ ((Int))) := qIn x2 100 (qNm (o.1 18 x2.toNat) (fun n4 => qEq n4 x1 (some (.inr (x2))) (some (.inl (x2 + 1)))))
noncomputable def e_X12_firstValue_2 (o : OO) (x1 : Int) (x2 : Int) : Option (Int) := qB (loopW (fun s => l_X12_firstValue_2 o x1 s) x2) (fun r => b_X12_firstValue_18 o r)
noncomputable def s_X12_firstValue (o : OO) (x1 : Int) : Option (Int) := e_X12_firstValue_2 o x1 0
set_option maxHeartbeats 4000000 in
set_option maxRecDepth 100000 in
theorem c_X12_firstValue (l : Launch) (g : GG) (ad : Nat → Nat) (o : OO) (x1 : Int) (v : Int) (h : s_X12_firstValue o x1 = some v) : CI l g yX12_firstValue cX12_firstValue 3 (some .int) 0 0 (wM g ad o) [.ref (ad 0), iv x1] v (wM g ad o) := by
  refine met_I (by decide) (Nat.le_of_ble_eq_true rfl) ?_
  intro X E hQ
  show Go X 0 (wM g ad o) [(0, .ref (ad 0)), (1, iv x1)] []
  have j18 : ∀ (x2 : Int), b_X12_firstValue_18 o x2 = some v → Go X 18 (wM g ad o) [(0, .ref (ad 0)), (2, iv x2)] [] := by
    intro x2 h
    unfold b_X12_firstValue_18 at h
    refine g_aload_n E gdX12_firstValue_18 rfl 0 rfl ?_
    refine g_get (T := TX12) E fw_X12 0 (wM_0 g ad o) rfl 26 (by decide) w_1492 rfl rfl gdX12_firstValue_19 ?_
    refine g_iload_n E gdX12_firstValue_22 rfl 1 rfl ?_
    obtain ⟨hi1, h⟩ := qIn_of h
    refine g_iald E 20 (wM_20 g ad o) (by decide) hi1 gdX12_firstValue_23 ?_
    obtain ⟨n2, e_n2, h⟩ := qNm_of h
    refine g_nmi e_n2 ?_
    exact g_iret E hQ (Option.some.inj h) rfl gdX12_firstValue_24
  have l2 : ∀ (x1 : Int) (r : (Int)) (s0 : Int), loopW (fun s => l_X12_firstValue_2 o x1 s) s0 = some r → (∀ (x2 : Int), r = (x2) → Go X 18 (wM g ad o) [(0, .ref (ad 0)), (2, iv x2)] []) → Go X 2 (wM g ad o) [(0, .ref (ad 0)), (1, iv x1), (2, iv s0)] [] := by
    intro x1 r s0 h k1
    refine loop_rule (Head := fun s0 => Go X 2 (wM g ad o) [(0, .ref (ad 0)), (1, iv x1), (2, iv s0)] []) h ?_
    intro s v h kk kx
    obtain ⟨x2, hs⟩ : ∃ q, q = s := ⟨_, rfl⟩
    subst hs
    have h : l_X12_firstValue_2 o x1 x2 = some v := h
    have k0 : ∀ (x2 : Int), v = .inl x2 → Go X 2 (wM g ad o) [(0, .ref (ad 0)), (1, iv x1), (2, iv x2)] [] := fun x2 e => kk x2 e
    have k1 : ∀ (x2 : Int), v = .inr (x2) → Go X 18 (wM g ad o) [(0, .ref (ad 0)), (2, iv x2)] [] := fun x2 e => k1 x2 (kx _ e).symm
    unfold l_X12_firstValue_2 at h
    refine g_aload_n E gdX12_firstValue_2 rfl 0 rfl ?_
    refine g_get (T := TX12) E fw_X12 0 (wM_0 g ad o) rfl 24 (by decide) w_1490 rfl rfl gdX12_firstValue_3 ?_
    refine g_iload_n E gdX12_firstValue_6 rfl 2 rfl ?_
    obtain ⟨hi3, h⟩ := qIn_of h
    refine g_iald E 18 (wM_18 g ad o) (by decide) hi3 gdX12_firstValue_7 ?_
    obtain ⟨n4, e_n4, h⟩ := qNm_of h
    refine g_nmi e_n4 ?_
    refine g_iload_n E gdX12_firstValue_8 rfl 1 rfl ?_
    refine g_icmp_eq E 18 gdX12_firstValue_9 (by decide) h (fun h => ?_) (fun h => ?_)
    ·
      refine g_sub E [0, 2] rfl ?_
      exact k1 x2 (Option.some.inj h).symm
    ·
      refine g_iinc E [(2, iv (x2 + 1)), (0, .ref (ad 0)), (1, iv x1)] gdX12_firstValue_12 2 rfl (by decide) rfl ?_
      refine g_goto E 2 gdX12_firstValue_15 (by decide) ?_
      refine g_sub E [1, 2, 0] rfl ?_
      exact k0 (x2 + 1) (Option.some.inj h).symm
  have j2 : ∀ (x1 : Int) (x2 : Int), e_X12_firstValue_2 o x1 x2 = some v → Go X 2 (wM g ad o) [(0, .ref (ad 0)), (1, iv x1), (2, iv x2)] [] := by
    intro x1 x2 h
    unfold e_X12_firstValue_2 at h
    obtain ⟨r, hr, h⟩ := qB_of h
    refine l2 x1 r _ hr ?_
    ·
      intro u0 e
      have e := e.symm
      subst e
      have h : b_X12_firstValue_18 o u0 = some v := h
      exact j18 u0 h
  unfold s_X12_firstValue at h
  refine g_iconst E gdX12_firstValue_0 ?_
  refine g_istore_n E [(2, iv 0), (0, .ref (ad 0)), (1, iv x1)] gdX12_firstValue_1 rfl (by decide) rfl ?_
  refine g_sub E [1, 2, 0] rfl ?_
  exact j2 x1 0 h
noncomputable def b_X12_take_16 (o : OO) : Option (Int × OO) := some ((-1), o)
noncomputable def b_X12_take_79 (o : OO) : Option (Int × OO) := some ((-4), o)
noncomputable def b_X12_take_195 (o : OO) (x1 : Int) (x4 : Int) : Option (Int × OO) := qIn x1 32 (qZ 1 (qNm (st1 o 16 x1.toNat 1) (fun o3 => qIn x4 24 (qNm (o3.1 32 x4.toNat) (fun n5 => qB2 (s_X12_ask o3 n5 x4) (fun r6 o8 => some (r6, o8)))))))
noncomputable def b_X12_take_189 (o : OO) (x1 : Int) (x4 : Int) (x5 : Int) : Option ((OO × Int) ⊕ ((OO))) := some (.inl (o, x5 + 1))
noncomputable def l_X12_take_146 (x1 : Int) (x4 : Int) (o : OO) (x5 : Int) : Option ((OO × Int) ⊕ ((OO))) := qLt x5 (o.1 0 27) (qIn x5 40 (qNm (o.1 21 x5.toNat) (fun n10 => qEq n10 x1 (qIn x4 24 (qNm (o.2 34 x4.toNat) (fun m12 => qIn x4 24 (qNm (st2 o 34 x4.toNat (m12 ||| (jshl (1 : Int64) (Int32.ofInt x5)))) (fun o14 => qIn x5 40 (qNm (st1 o14 21 x5.toNat (-9)) (fun o16 => b_X12_take_189 o16 x1 x4 x5))))))) (b_X12_take_189 o x1 x4 x5)))) (some (.inr (o)))
noncomputable def e_X12_take_146 (o : OO) (x1 : Int) (x4 : Int) (x5 : Int) : Option (Int × OO) := qB (loopW (fun s => l_X12_take_146 x1 x4 s.1 s.2) (o, x5)) (fun r => b_X12_take_195 r x1 x4)
noncomputable def b_X12_take_109 (o : OO) (x1 : Int) (x2 : Int) (y0 : Int) : Option (Int × OO) := qB2 (s_X12_enter o 3 x2) (fun r17 o19 => qB (s_X12_nowInForce o19 2) (fun r20 => qDv (r20 * y0) 100 (qIn r17 24 (qNm (st1 o19 32 r17.toNat (jq (r20 * y0) 100)) (fun o24 => qIn r17 24 (qNm (st2 o24 34 r17.toNat (0 : Int64)) (fun o26 => e_X12_take_146 o26 x1 r17 0)))))))
noncomputable def s_X12_take (o : OO) (x1 : Int) (x2 : Int) : Option (Int × OO) := qB (s_X12_isBuilding o x1) (fun r27 => qEq r27 0 (b_X12_take_16 o) (qB (s_X12_isMark o x2) (fun r29 => qEq r29 0 (b_X12_take_16 o) (qEq (o.1 0 32) 24 (some ((-2), o)) (qB (s_X12_isLine o x2) (fun r31 => qEq r31 0 (qB2 (s_X12_meets o 3) (fun r49 o51 => some (r49, o51))) (qIn x2 24 (qNm (o.1 29 x2.toNat) (fun n34 => qLt n34 0 (b_X12_take_79 o) (qIn x1 32 (qNm (o.1 16 x1.toNat) (fun n36 => qEq n36 0 (qB (s_X12_cellsOf o x2) (fun p37 => qIn x1 32 (qNm (o.1 13 x1.toNat) (fun n40 => qB (s_X12_has p37 n40) (fun r41 => qEq r41 0 (b_X12_take_79 o) (qIn x2 24 (qNm (o.1 29 x2.toNat) (fun n44 => qB (s_X12_valueOf o x1 (n44 - 1)) (fun r45 => qLt r45 0 (qB (s_X12_firstValue o x1) (fun r47 => b_X12_take_109 o x1 x2 r47)) (b_X12_take_109 o x1 x2 r45)))))))))) (b_X12_take_79 o)))))))))))))
set_option maxHeartbeats 4000000 in
set_option maxRecDepth 100000 in
theorem c_X12_take (l : Launch) (g : GG) (ad : Nat → Nat) (o : OO) (x1 : Int) (x2 : Int) (v : Int × OO) (h : s_X12_take o x1 x2 = some v) : CI l g yX12_take cX12_take 6 (some .int) 3 71 (wM g ad o) [.ref (ad 0), iv x1, iv x2] v.1 (wM g ad v.2) := by
  refine met_I (by decide) (Nat.le_of_ble_eq_true rfl) ?_
  intro X E hQ
  show Go X 0 (wM g ad o) [(0, .ref (ad 0)), (1, iv x1), (2, iv x2)] []
  have j16 : ∀ (o : OO), b_X12_take_16 o = some v → Go X 16 (wM g ad o) [] [] := by
    intro o h
    unfold b_X12_take_16 at h
    refine g_iconst E gdX12_take_16 ?_
    exact g_iret E hQ (by rw [← Option.some.inj h]) (by rw [← Option.some.inj h]) gdX12_take_17
  have j79 : ∀ (o : OO), b_X12_take_79 o = some v → Go X 79 (wM g ad o) [] [] := by
    intro o h
    unfold b_X12_take_79 at h
    refine g_bipush E gdX12_take_79 (by decide) ?_
    exact g_iret E hQ (by rw [← Option.some.inj h]) (by rw [← Option.some.inj h]) gdX12_take_81
  have j195 : ∀ (o : OO) (x1 : Int) (x4 : Int), b_X12_take_195 o x1 x4 = some v → Go X 195 (wM g ad o) [(0, .ref (ad 0)), (1, iv x1), (4, iv x4)] [] := by
    intro o x1 x4 h
    unfold b_X12_take_195 at h
    refine g_aload_n E gdX12_take_195 rfl 0 rfl ?_
    refine g_get (T := TX12) E fw_X12 0 (wM_0 g ad o) rfl 21 (by decide) w_1487 rfl rfl gdX12_take_196 ?_
    refine g_iload_n E gdX12_take_199 rfl 1 rfl ?_
    refine g_iconst E gdX12_take_200 ?_
    obtain ⟨hi1, h⟩ := qIn_of h
    obtain ⟨hz2, h⟩ := qZ_of h
    obtain ⟨o3, e_o3, h⟩ := qNm_of h
    refine g_zast (ws' := wM g ad o3) E 16 (wM_16 g ad o) (by decide) hi1 hz2 (by rw [e_o3]; exact wM_s16 g ad o _ _) gdX12_take_201 ?_
    refine g_aload_n E gdX12_take_202 rfl 0 rfl ?_
    refine g_aload_n E gdX12_take_203 rfl 0 rfl ?_
    refine g_get (T := TX12) E fw_X12 0 (wM_0 g ad o3) rfl 40 (by decide) w_1506 rfl rfl gdX12_take_204 ?_
    refine g_iload E gdX12_take_207 2 rfl ?_
    obtain ⟨hi4, h⟩ := qIn_of h
    refine g_iald E 32 (wM_32 g ad o3) (by decide) hi4 gdX12_take_209 ?_
    obtain ⟨n5, e_n5, h⟩ := qNm_of h
    refine g_nmi e_n5 ?_
    refine g_iload E gdX12_take_210 2 rfl ?_
    obtain ⟨r6, o8, hc7, h⟩ := qB2_of h
    refine g_Vi (r := r6) (As := [iv n5, iv x4]) (rest := []) (w := wM g ad o8) E (c_X12_ask l g ad o3 n5 x4 (r6, o8) hc7) okm_X12_ask okw_X12_ask w_1835 rfl (wM_0 g ad o3) rfl rfl (Nat.le_of_ble_eq_true rfl) ⟨Nat.le_of_ble_eq_true rfl, Nat.le_of_ble_eq_true rfl⟩ gdX12_take_212 ?_
    exact g_iret E hQ (by rw [← Option.some.inj h]) (by rw [← Option.some.inj h]) gdX12_take_215
  have j189 : ∀ (o : OO) (x1 : Int) (x4 : Int) (x5 : Int) (v : (OO × Int) ⊕ ((OO))), b_X12_take_189 o x1 x4 x5 = some v → (∀ (o : OO) (x5 : Int), v = .inl (o, x5) → Go X 146 (wM g ad o) [(0, .ref (ad 0)), (1, iv x1), (4, iv x4), (5, iv x5)] []) → (∀ (o : OO), v = .inr (o) → Go X 195 (wM g ad o) [(0, .ref (ad 0)), (1, iv x1), (4, iv x4)] []) → Go X 189 (wM g ad o) [(0, .ref (ad 0)), (1, iv x1), (4, iv x4), (5, iv x5)] [] := by
    intro o x1 x4 x5 v h k0 k1
    unfold b_X12_take_189 at h
    refine g_iinc E [(5, iv (x5 + 1)), (0, .ref (ad 0)), (1, iv x1), (4, iv x4)] gdX12_take_189 3 rfl (by decide) rfl ?_
    refine g_goto E 146 gdX12_take_192 (by decide) ?_
    refine g_sub E [1, 2, 3, 0] rfl ?_
    exact k0 o (x5 + 1) (Option.some.inj h).symm
  have l146 : ∀ (x1 : Int) (x4 : Int) (r : (OO)) (s0 : OO × Int), loopW (fun s => l_X12_take_146 x1 x4 s.1 s.2) s0 = some r → (∀ (o : OO), r = (o) → Go X 195 (wM g ad o) [(0, .ref (ad 0)), (1, iv x1), (4, iv x4)] []) → Go X 146 (wM g ad s0.1) [(0, .ref (ad 0)), (1, iv x1), (4, iv x4), (5, iv s0.2)] [] := by
    intro x1 x4 r s0 h k1
    refine loop_rule (Head := fun s0 => Go X 146 (wM g ad s0.1) [(0, .ref (ad 0)), (1, iv x1), (4, iv x4), (5, iv s0.2)] []) h ?_
    intro s v h kk kx
    obtain ⟨o, x5⟩ := s
    have h : l_X12_take_146 x1 x4 o x5 = some v := h
    have k0 : ∀ (o : OO) (x5 : Int), v = .inl (o, x5) → Go X 146 (wM g ad o) [(0, .ref (ad 0)), (1, iv x1), (4, iv x4), (5, iv x5)] [] := fun o x5 e => kk (o, x5) e
    have k1 : ∀ (o : OO), v = .inr (o) → Go X 195 (wM g ad o) [(0, .ref (ad 0)), (1, iv x1), (4, iv x4)] [] := fun o e => k1 o (kx _ e).symm
    unfold l_X12_take_146 at h
    refine g_iload E gdX12_take_146 3 rfl ?_
    refine g_aload_n E gdX12_take_148 rfl 0 rfl ?_
    refine g_get (T := TX12) E fw_X12 0 (wM_0 g ad o) rfl 27 (by decide) w_1493 rfl rfl gdX12_take_149 ?_
    refine g_icmp_ge E 195 gdX12_take_152 (by decide) h (fun h => ?_) (fun h => ?_)
    ·
      refine g_sub E [0, 1, 2] rfl ?_
      exact k1 o (Option.some.inj h).symm
    ·
      refine g_aload_n E gdX12_take_155 rfl 0 rfl ?_
      refine g_get (T := TX12) E fw_X12 0 (wM_0 g ad o) rfl 28 (by decide) w_1494 rfl rfl gdX12_take_156 ?_
      refine g_iload E gdX12_take_159 3 rfl ?_
      obtain ⟨hi9, h⟩ := qIn_of h
      refine g_iald E 21 (wM_21 g ad o) (by decide) hi9 gdX12_take_161 ?_
      obtain ⟨n10, e_n10, h⟩ := qNm_of h
      refine g_nmi e_n10 ?_
      refine g_iload_n E gdX12_take_162 rfl 1 rfl ?_
      refine g_icmp_ne E 189 gdX12_take_163 (by decide) h (fun h => ?_) (fun h => ?_)
      ·
        exact j189 o x1 x4 x5 v h k0 k1
      ·
        refine g_aload_n E gdX12_take_166 rfl 0 rfl ?_
        refine g_get (T := TX12) E fw_X12 0 (wM_0 g ad o) rfl 42 (by decide) w_1508 rfl rfl gdX12_take_167 ?_
        refine g_iload E gdX12_take_170 2 rfl ?_
        refine g_dup2 E gdX12_take_172 rfl rfl ?_
        obtain ⟨hi11, h⟩ := qIn_of h
        refine g_lald E 34 (wM_34 g ad o) (by decide) hi11 gdX12_take_173 ?_
        obtain ⟨m12, e_m12, h⟩ := qNm_of h
        refine g_nml e_m12 ?_
        refine g_lconst (v := 1) E gdX12_take_174 (by decide) ?_
        refine g_iload E gdX12_take_175 3 rfl ?_
        refine g_lshl E gdX12_take_177 ?_
        refine g_lor E gdX12_take_178 ?_
        obtain ⟨hi13, h⟩ := qIn_of h
        obtain ⟨o14, e_o14, h⟩ := qNm_of h
        refine g_last (ws' := wM g ad o14) E 34 (wM_34 g ad o) (by decide) hi13 (by rw [e_o14]; exact wM_s34 g ad o _ _) gdX12_take_179 ?_
        refine g_aload_n E gdX12_take_180 rfl 0 rfl ?_
        refine g_get (T := TX12) E fw_X12 0 (wM_0 g ad o14) rfl 28 (by decide) w_1494 rfl rfl gdX12_take_181 ?_
        refine g_iload E gdX12_take_184 3 rfl ?_
        refine g_bipush E gdX12_take_186 (by decide) ?_
        obtain ⟨hi15, h⟩ := qIn_of h
        obtain ⟨o16, e_o16, h⟩ := qNm_of h
        refine g_iast (ws' := wM g ad o16) E 21 (wM_21 g ad o14) (by decide) hi15 (by rw [e_o16]; exact wM_s21 g ad o14 _ _) gdX12_take_188 ?_
        exact j189 o16 x1 x4 x5 v h k0 k1
  have j146 : ∀ (o : OO) (x1 : Int) (x4 : Int) (x5 : Int), e_X12_take_146 o x1 x4 x5 = some v → Go X 146 (wM g ad o) [(0, .ref (ad 0)), (1, iv x1), (4, iv x4), (5, iv x5)] [] := by
    intro o x1 x4 x5 h
    unfold e_X12_take_146 at h
    obtain ⟨r, hr, h⟩ := qB_of h
    refine l146 x1 x4 r _ hr ?_
    ·
      intro u0 e
      have e := e.symm
      subst e
      have h : b_X12_take_195 u0 x1 x4 = some v := h
      exact j195 u0 x1 x4 h
  have j109 : ∀ (o : OO) (x1 : Int) (x2 : Int) (y0 : Int), b_X12_take_109 o x1 x2 y0 = some v → Go X 109 (wM g ad o) [(0, .ref (ad 0)), (1, iv x1), (2, iv x2)] [iv y0] := by
    intro o x1 x2 y0 h
    unfold b_X12_take_109 at h
    refine g_istore_n E [(3, iv y0), (0, .ref (ad 0)), (1, iv x1), (2, iv x2)] gdX12_take_109 rfl (by decide) rfl ?_
    refine g_aload_n E gdX12_take_110 rfl 1 rfl ?_
    refine g_iconst E gdX12_take_111 ?_
    refine g_iload_n E gdX12_take_112 rfl 3 rfl ?_
    obtain ⟨r17, o19, hc18, h⟩ := qB2_of h
    refine g_Vi (r := r17) (As := [iv 3, iv x2]) (rest := []) (w := wM g ad o19) E (c_X12_enter l g ad o 3 x2 (r17, o19) hc18) okm_X12_enter okw_X12_enter w_1895 rfl (wM_0 g ad o) rfl rfl (Nat.le_of_ble_eq_true rfl) ⟨Nat.le_of_ble_eq_true rfl, Nat.le_of_ble_eq_true rfl⟩ gdX12_take_113 ?_
    refine g_istore E [(4, iv r17), (3, iv y0), (0, .ref (ad 0)), (1, iv x1), (2, iv x2)] gdX12_take_116 (by decide) rfl ?_
    refine g_aload_n E gdX12_take_118 rfl 2 rfl ?_
    refine g_get (T := TX12) E fw_X12 0 (wM_0 g ad o19) rfl 40 (by decide) w_1506 rfl rfl gdX12_take_119 ?_
    refine g_iload E gdX12_take_122 0 rfl ?_
    refine g_aload_n E gdX12_take_124 rfl 2 rfl ?_
    refine g_iconst E gdX12_take_125 ?_
    obtain ⟨r20, hc21, h⟩ := qB_of h
    refine g_Vi (r := r20) (As := [iv 2]) (rest := [iv r17, .ref (ad 32)]) (w := wM g ad o19) E (c_X12_nowInForce l g ad o19 2 r20 hc21) okm_X12_nowInForce okw_X12_nowInForce w_1871 rfl (wM_0 g ad o19) rfl rfl (Nat.le_of_ble_eq_true rfl) ⟨Nat.le_of_ble_eq_true rfl, Nat.le_of_ble_eq_true rfl⟩ gdX12_take_126 ?_
    refine g_iload_n E gdX12_take_129 rfl 1 rfl ?_
    refine g_imul E gdX12_take_130 ?_
    refine g_bipush E gdX12_take_131 (by decide) ?_
    obtain ⟨hd22, h⟩ := qDv_of h
    refine g_idiv E hd22 gdX12_take_133 ?_
    obtain ⟨hi23, h⟩ := qIn_of h
    obtain ⟨o24, e_o24, h⟩ := qNm_of h
    refine g_iast (ws' := wM g ad o24) E 32 (wM_32 g ad o19) (by decide) hi23 (by rw [e_o24]; exact wM_s32 g ad o19 _ _) gdX12_take_134 ?_
    refine g_aload_n E gdX12_take_135 rfl 2 rfl ?_
    refine g_get (T := TX12) E fw_X12 0 (wM_0 g ad o24) rfl 42 (by decide) w_1508 rfl rfl gdX12_take_136 ?_
    refine g_iload E gdX12_take_139 0 rfl ?_
    refine g_lconst (v := 0) E gdX12_take_141 (by decide) ?_
    obtain ⟨hi25, h⟩ := qIn_of h
    obtain ⟨o26, e_o26, h⟩ := qNm_of h
    refine g_last (ws' := wM g ad o26) E 34 (wM_34 g ad o24) (by decide) hi25 (by rw [e_o26]; exact wM_s34 g ad o24 _ _) gdX12_take_142 ?_
    refine g_iconst E gdX12_take_143 ?_
    refine g_istore E [(5, iv 0), (4, iv r17), (3, iv y0), (0, .ref (ad 0)), (1, iv x1), (2, iv x2)] gdX12_take_144 (by decide) rfl ?_
    refine g_sub E [3, 4, 1, 0] rfl ?_
    exact j146 o26 x1 r17 0 h
  unfold s_X12_take at h
  refine g_aload_n E gdX12_take_0 rfl 0 rfl ?_
  refine g_iload_n E gdX12_take_1 rfl 1 rfl ?_
  obtain ⟨r27, hc28, h⟩ := qB_of h
  refine g_Vi (r := r27) (As := [iv x1]) (rest := []) (w := wM g ad o) E (c_X12_isBuilding l g ad o x1 r27 hc28) okm_X12_isBuilding okw_X12_isBuilding w_1811 rfl (wM_0 g ad o) rfl rfl (Nat.le_of_ble_eq_true rfl) ⟨Nat.le_of_ble_eq_true rfl, Nat.le_of_ble_eq_true rfl⟩ gdX12_take_2 ?_
  refine g_if_eq E 16 gdX12_take_5 (by decide) h (fun h => ?_) (fun h => ?_)
  ·
    refine g_sub E [] rfl ?_
    exact j16 o h
  ·
    refine g_aload_n E gdX12_take_8 rfl 0 rfl ?_
    refine g_iload_n E gdX12_take_9 rfl 2 rfl ?_
    obtain ⟨r29, hc30, h⟩ := qB_of h
    refine g_Vi (r := r29) (As := [iv x2]) (rest := []) (w := wM g ad o) E (c_X12_isMark l g ad o x2 r29 hc30) okm_X12_isMark okw_X12_isMark w_1903 rfl (wM_0 g ad o) rfl rfl (Nat.le_of_ble_eq_true rfl) ⟨Nat.le_of_ble_eq_true rfl, Nat.le_of_ble_eq_true rfl⟩ gdX12_take_10 ?_
    refine g_if_ne E 18 gdX12_take_13 (by decide) h (fun h => ?_) (fun h => ?_)
    ·
      refine g_aload_n E gdX12_take_18 rfl 0 rfl ?_
      refine g_get (T := TX12) E fw_X12 0 (wM_0 g ad o) rfl 32 (by decide) w_1498 rfl rfl gdX12_take_19 ?_
      refine g_bipush E gdX12_take_22 (by decide) ?_
      refine g_icmp_ne E 30 gdX12_take_24 (by decide) h (fun h => ?_) (fun h => ?_)
      ·
        refine g_aload_n E gdX12_take_30 rfl 0 rfl ?_
        refine g_iload_n E gdX12_take_31 rfl 2 rfl ?_
        obtain ⟨r31, hc32, h⟩ := qB_of h
        refine g_Vi (r := r31) (As := [iv x2]) (rest := []) (w := wM g ad o) E (c_X12_isLine l g ad o x2 r31 hc32) okm_X12_isLine okw_X12_isLine w_1907 rfl (wM_0 g ad o) rfl rfl (Nat.le_of_ble_eq_true rfl) ⟨Nat.le_of_ble_eq_true rfl, Nat.le_of_ble_eq_true rfl⟩ gdX12_take_32 ?_
        refine g_if_ne E 44 gdX12_take_35 (by decide) h (fun h => ?_) (fun h => ?_)
        ·
          refine g_aload_n E gdX12_take_44 rfl 0 rfl ?_
          refine g_get (T := TX12) E fw_X12 0 (wM_0 g ad o) rfl 37 (by decide) w_1503 rfl rfl gdX12_take_45 ?_
          refine g_iload_n E gdX12_take_48 rfl 2 rfl ?_
          obtain ⟨hi33, h⟩ := qIn_of h
          refine g_iald E 29 (wM_29 g ad o) (by decide) hi33 gdX12_take_49 ?_
          obtain ⟨n34, e_n34, h⟩ := qNm_of h
          refine g_nmi e_n34 ?_
          refine g_if_lt E 79 gdX12_take_50 (by decide) h (fun h => ?_) (fun h => ?_)
          ·
            refine g_sub E [] rfl ?_
            exact j79 o h
          ·
            refine g_aload_n E gdX12_take_53 rfl 0 rfl ?_
            refine g_get (T := TX12) E fw_X12 0 (wM_0 g ad o) rfl 21 (by decide) w_1487 rfl rfl gdX12_take_54 ?_
            refine g_iload_n E gdX12_take_57 rfl 1 rfl ?_
            obtain ⟨hi35, h⟩ := qIn_of h
            refine g_zald E 16 (wM_16 g ad o) (by decide) hi35 gdX12_take_58 ?_
            obtain ⟨n36, e_n36, h⟩ := qNm_of h
            refine g_nmi e_n36 ?_
            refine g_if_ne E 79 gdX12_take_59 (by decide) h (fun h => ?_) (fun h => ?_)
            ·
              refine g_sub E [] rfl ?_
              exact j79 o h
            ·
              refine g_aload_n E gdX12_take_62 rfl 0 rfl ?_
              refine g_iload_n E gdX12_take_63 rfl 2 rfl ?_
              obtain ⟨p37, hc38, h⟩ := qB_of h
              refine g_Vl (r := p37) (As := [iv x2]) (rest := []) (w := wM g ad o) E (c_X12_cellsOf l g ad o x2 p37 hc38) okm_X12_cellsOf okw_X12_cellsOf w_1914 rfl (wM_0 g ad o) rfl rfl (Nat.le_of_ble_eq_true rfl) ⟨Nat.le_of_ble_eq_true rfl, Nat.le_of_ble_eq_true rfl⟩ gdX12_take_64 ?_
              refine g_aload_n E gdX12_take_67 rfl 0 rfl ?_
              refine g_get (T := TX12) E fw_X12 0 (wM_0 g ad o) rfl 18 (by decide) w_1484 rfl rfl gdX12_take_68 ?_
              refine g_iload_n E gdX12_take_71 rfl 1 rfl ?_
              obtain ⟨hi39, h⟩ := qIn_of h
              refine g_iald E 13 (wM_13 g ad o) (by decide) hi39 gdX12_take_72 ?_
              obtain ⟨n40, e_n40, h⟩ := qNm_of h
              refine g_nmi e_n40 ?_
              obtain ⟨r41, hc42, h⟩ := qB_of h
              refine g_Si (r := r41) (As := [.long p37, iv n40]) (rest := []) (w := wM g ad o) E (c_X12_has l g (wM g ad o) p37 n40 r41 hc42) okm_X12_has w_1919 w_1918 rfl rfl (Nat.le_of_ble_eq_true rfl) ⟨Nat.le_of_ble_eq_true rfl, Nat.le_of_ble_eq_true rfl⟩ gdX12_take_73 ?_
              refine g_if_ne E 82 gdX12_take_76 (by decide) h (fun h => ?_) (fun h => ?_)
              ·
                refine g_aload_n E gdX12_take_82 rfl 0 rfl ?_
                refine g_iload_n E gdX12_take_83 rfl 1 rfl ?_
                refine g_aload_n E gdX12_take_84 rfl 0 rfl ?_
                refine g_get (T := TX12) E fw_X12 0 (wM_0 g ad o) rfl 37 (by decide) w_1503 rfl rfl gdX12_take_85 ?_
                refine g_iload_n E gdX12_take_88 rfl 2 rfl ?_
                obtain ⟨hi43, h⟩ := qIn_of h
                refine g_iald E 29 (wM_29 g ad o) (by decide) hi43 gdX12_take_89 ?_
                obtain ⟨n44, e_n44, h⟩ := qNm_of h
                refine g_nmi e_n44 ?_
                refine g_iconst E gdX12_take_90 ?_
                refine g_isub E gdX12_take_91 ?_
                obtain ⟨r45, hc46, h⟩ := qB_of h
                refine g_Vi (r := r45) (As := [iv x1, iv (n44 - 1)]) (rest := []) (w := wM g ad o) E (c_X12_valueOf l g ad o x1 (n44 - 1) r45 hc46) okm_X12_valueOf okw_X12_valueOf w_1815 rfl (wM_0 g ad o) rfl rfl (Nat.le_of_ble_eq_true rfl) ⟨Nat.le_of_ble_eq_true rfl, Nat.le_of_ble_eq_true rfl⟩ gdX12_take_92 ?_
                refine g_istore_n E [(3, iv r45), (0, .ref (ad 0)), (1, iv x1), (2, iv x2)] gdX12_take_95 rfl (by decide) rfl ?_
                refine g_iload_n E gdX12_take_96 rfl 0 rfl ?_
                refine g_if_ge E 108 gdX12_take_97 (by decide) h (fun h => ?_) (fun h => ?_)
                ·
                  refine g_iload_n E gdX12_take_108 rfl 0 rfl ?_
                  refine g_sub E [1, 2, 3] rfl ?_
                  exact j109 o x1 x2 r45 h
                ·
                  refine g_aload_n E gdX12_take_100 rfl 1 rfl ?_
                  refine g_iload_n E gdX12_take_101 rfl 2 rfl ?_
                  obtain ⟨r47, hc48, h⟩ := qB_of h
                  refine g_Vi (r := r47) (As := [iv x1]) (rest := []) (w := wM g ad o) E (c_X12_firstValue l g ad o x1 r47 hc48) okm_X12_firstValue okw_X12_firstValue w_1941 rfl (wM_0 g ad o) rfl rfl (Nat.le_of_ble_eq_true rfl) ⟨Nat.le_of_ble_eq_true rfl, Nat.le_of_ble_eq_true rfl⟩ gdX12_take_102 ?_
                  refine g_goto E 109 gdX12_take_105 (by decide) ?_
                  refine g_sub E [1, 2, 3] rfl ?_
                  exact j109 o x1 x2 r47 h
              ·
                refine g_sub E [] rfl ?_
                exact j79 o h
        ·
          refine g_aload_n E gdX12_take_38 rfl 0 rfl ?_
          refine g_iconst E gdX12_take_39 ?_
          obtain ⟨r49, o51, hc50, h⟩ := qB2_of h
          refine g_Vi (r := r49) (As := [iv 3]) (rest := []) (w := wM g ad o51) E (c_X12_meets l g ad o 3 (r49, o51) hc50) okm_X12_meets okw_X12_meets w_1708 rfl (wM_0 g ad o) rfl rfl (Nat.le_of_ble_eq_true rfl) ⟨Nat.le_of_ble_eq_true rfl, Nat.le_of_ble_eq_true rfl⟩ gdX12_take_40 ?_
          exact g_iret E hQ (by rw [← Option.some.inj h]) (by rw [← Option.some.inj h]) gdX12_take_43
      ·
        refine g_bipush E gdX12_take_27 (by decide) ?_
        exact g_iret E hQ (by rw [← Option.some.inj h]) (by rw [← Option.some.inj h]) gdX12_take_29
    ·
      refine g_sub E [] rfl ?_
      exact j16 o h
