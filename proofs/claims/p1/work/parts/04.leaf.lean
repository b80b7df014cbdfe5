set_option maxRecDepth 200000 in
theorem q_126 : Cond.fieldLink "CityRoad$Shelf" 22 "CityRoad$Shelf" "rows" "I" ∈ tb := tb_mem 126 (by decide +kernel) rfl
set_option maxRecDepth 200000 in
theorem q_128 : Cond.fieldLink "CityRoad$Shelf" 9 "CityRoad$Shelf" "sizes" "[I" ∈ tb := tb_mem 128 (by decide +kernel) rfl
set_option maxRecDepth 200000 in
theorem q_642 : Cond.constant "CityRoad$Buildings" 57 (100000) ∈ tb := tb_mem 642 (by decide +kernel) rfl
set_option maxRecDepth 200000 in
theorem q_172 : Cond.fieldLink "CityRoad$Buildings" 58 "CityRoad$Buildings" "number" "I" ∈ tb := tb_mem 172 (by decide +kernel) rfl
set_option maxRecDepth 200000 in
theorem q_173 : Cond.fieldLink "CityRoad$Buildings" 62 "CityRoad$Buildings" "tellings" "I" ∈ tb := tb_mem 173 (by decide +kernel) rfl
set_option maxRecDepth 200000 in
theorem q_167 : Cond.fieldLink "CityRoad$Buildings" 36 "CityRoad$Buildings" "onCells" "[I" ∈ tb := tb_mem 167 (by decide +kernel) rfl
set_option maxRecDepth 200000 in
theorem q_214 : Cond.fieldLink "CityRoad$Persons" 25 "CityRoad$Persons" "number" "I" ∈ tb := tb_mem 214 (by decide +kernel) rfl
set_option maxRecDepth 200000 in
theorem q_210 : Cond.fieldLink "CityRoad$Persons" 11 "CityRoad$Persons" "homes" "[I" ∈ tb := tb_mem 210 (by decide +kernel) rfl
set_option maxRecDepth 200000 in
theorem q_211 : Cond.fieldLink "CityRoad$Persons" 15 "CityRoad$Persons" "works" "[I" ∈ tb := tb_mem 211 (by decide +kernel) rfl
set_option maxRecDepth 200000 in
theorem q_212 : Cond.fieldLink "CityRoad$Persons" 18 "CityRoad$Persons" "cars" "[Z" ∈ tb := tb_mem 212 (by decide +kernel) rfl
set_option maxRecDepth 200000 in
theorem q_213 : Cond.fieldLink "CityRoad$Persons" 22 "CityRoad$Persons" "kins" "[I" ∈ tb := tb_mem 213 (by decide +kernel) rfl
set_option maxRecDepth 200000 in
theorem q_235 : Cond.fieldLink "CityRoad$Rules" 21 "CityRoad$Rules" "number" "I" ∈ tb := tb_mem 235 (by decide +kernel) rfl
set_option maxRecDepth 200000 in
theorem q_264 : Cond.fieldLink "CityRoad$Marks" 54 "CityRoad$Marks" "number" "I" ∈ tb := tb_mem 264 (by decide +kernel) rfl
set_option maxRecDepth 200000 in
theorem q_307 : Cond.fieldLink "CityRoad$Dealings" 30 "CityRoad$Dealings" "buys" "I" ∈ tb := tb_mem 307 (by decide +kernel) rfl
set_option maxRecDepth 200000 in
theorem q_412 : Cond.fieldLink "CityRoad$Acts" 24 "CityRoad$Acts" "number" "I" ∈ tb := tb_mem 412 (by decide +kernel) rfl
set_option maxRecDepth 200000 in
theorem q_146 : Cond.fieldLink "CityRoad$Ground" 11 "CityRoad$Ground" "sorts" "[I" ∈ tb := tb_mem 146 (by decide +kernel) rfl
set_option maxRecDepth 200000 in
theorem q_147 : Cond.fieldLink "CityRoad$Ground" 15 "CityRoad$Ground" "heights" "[I" ∈ tb := tb_mem 147 (by decide +kernel) rfl
set_option maxRecDepth 200000 in
theorem q_251 : Cond.fieldLink "CityRoad$Marks" 11 "CityRoad$Marks" "kinds" "[I" ∈ tb := tb_mem 251 (by decide +kernel) rfl
set_option maxRecDepth 200000 in
theorem q_252 : Cond.fieldLink "CityRoad$Marks" 15 "CityRoad$Marks" "days" "[I" ∈ tb := tb_mem 252 (by decide +kernel) rfl
set_option maxRecDepth 200000 in
theorem q_253 : Cond.fieldLink "CityRoad$Marks" 18 "CityRoad$Marks" "hangs" "[I" ∈ tb := tb_mem 253 (by decide +kernel) rfl
set_option maxRecDepth 200000 in
theorem q_258 : Cond.fieldLink "CityRoad$Marks" 36 "CityRoad$Marks" "shownDays" "[I" ∈ tb := tb_mem 258 (by decide +kernel) rfl
theorem dX8_exists_0 : decode cX8_exists 0 = .ok (.iload_n 1, 1) := by decide +kernel
theorem dX8_exists_1 : decode cX8_exists 1 = .ok (.ifCond .lt 15, 3) := by decide +kernel
theorem dX8_exists_16 : decode cX8_exists 16 = .ok (.iconst 0, 1) := by decide +kernel
theorem dX8_exists_17 : decode cX8_exists 17 = .ok (.ireturn, 1) := by decide +kernel
theorem dX8_exists_4 : decode cX8_exists 4 = .ok (.iload_n 1, 1) := by decide +kernel
theorem dX8_exists_5 : decode cX8_exists 5 = .ok (.aload_n 0, 1) := by decide +kernel
theorem dX8_exists_6 : decode cX8_exists 6 = .ok (.getfield 22, 3) := by decide +kernel
theorem dX8_exists_9 : decode cX8_exists 9 = .ok (.if_icmp .ge 7, 3) := by decide +kernel
theorem dX8_exists_12 : decode cX8_exists 12 = .ok (.iconst 1, 1) := by decide +kernel
theorem dX8_exists_13 : decode cX8_exists 13 = .ok (.goto 4, 3) := by decide +kernel
theorem dX8_isThere_0 : decode cX8_isThere 0 = .ok (.aload_n 0, 1) := by decide +kernel
theorem dX8_isThere_1 : decode cX8_isThere 1 = .ok (.getfield 9, 3) := by decide +kernel
theorem dX8_isThere_4 : decode cX8_isThere 4 = .ok (.iload_n 1, 1) := by decide +kernel
theorem dX8_isThere_5 : decode cX8_isThere 5 = .ok (.iaload, 1) := by decide +kernel
theorem dX8_isThere_6 : decode cX8_isThere 6 = .ok (.iconst (-1), 1) := by decide +kernel
theorem dX8_isThere_7 : decode cX8_isThere 7 = .ok (.if_icmp .eq 7, 3) := by decide +kernel
theorem dX8_isThere_14 : decode cX8_isThere 14 = .ok (.iconst 0, 1) := by decide +kernel
theorem dX8_isThere_15 : decode cX8_isThere 15 = .ok (.ireturn, 1) := by decide +kernel
theorem dX3_isCell_0 : decode cX3_isCell 0 = .ok (.iload_n 0, 1) := by decide +kernel
theorem dX3_isCell_1 : decode cX3_isCell 1 = .ok (.ifCond .lt 13, 3) := by decide +kernel
theorem dX3_isCell_14 : decode cX3_isCell 14 = .ok (.iconst 0, 1) := by decide +kernel
theorem dX3_isCell_15 : decode cX3_isCell 15 = .ok (.ireturn, 1) := by decide +kernel
theorem dX3_isCell_4 : decode cX3_isCell 4 = .ok (.iload_n 0, 1) := by decide +kernel
theorem dX3_isCell_5 : decode cX3_isCell 5 = .ok (.bipush 64, 2) := by decide +kernel
theorem dX3_isCell_7 : decode cX3_isCell 7 = .ok (.if_icmp .ge 7, 3) := by decide +kernel
theorem dX3_isCell_10 : decode cX3_isCell 10 = .ok (.iconst 1, 1) := by decide +kernel
theorem dX3_isCell_11 : decode cX3_isCell 11 = .ok (.goto 4, 3) := by decide +kernel
theorem dX1_isUse_0 : decode cX1_isUse 0 = .ok (.iload_n 0, 1) := by decide +kernel
theorem dX1_isUse_1 : decode cX1_isUse 1 = .ok (.ifCond .lt 12, 3) := by decide +kernel
theorem dX1_isUse_13 : decode cX1_isUse 13 = .ok (.iconst 0, 1) := by decide +kernel
theorem dX1_isUse_14 : decode cX1_isUse 14 = .ok (.ireturn, 1) := by decide +kernel
theorem dX1_isUse_4 : decode cX1_isUse 4 = .ok (.iload_n 0, 1) := by decide +kernel
theorem dX1_isUse_5 : decode cX1_isUse 5 = .ok (.iconst 2, 1) := by decide +kernel
theorem dX1_isUse_6 : decode cX1_isUse 6 = .ok (.if_icmp .gt 7, 3) := by decide +kernel
theorem dX1_isUse_9 : decode cX1_isUse 9 = .ok (.iconst 1, 1) := by decide +kernel
theorem dX1_isUse_10 : decode cX1_isUse 10 = .ok (.goto 4, 3) := by decide +kernel
theorem dX1_isWorth_0 : decode cX1_isWorth 0 = .ok (.iload_n 0, 1) := by decide +kernel
theorem dX1_isWorth_1 : decode cX1_isWorth 1 = .ok (.iconst 1, 1) := by decide +kernel
theorem dX1_isWorth_2 : decode cX1_isWorth 2 = .ok (.if_icmp .lt 13, 3) := by decide +kernel
theorem dX1_isWorth_15 : decode cX1_isWorth 15 = .ok (.iconst 0, 1) := by decide +kernel
theorem dX1_isWorth_16 : decode cX1_isWorth 16 = .ok (.ireturn, 1) := by decide +kernel
theorem dX1_isWorth_5 : decode cX1_isWorth 5 = .ok (.iload_n 0, 1) := by decide +kernel
theorem dX1_isWorth_6 : decode cX1_isWorth 6 = .ok (.ldc 57, 2) := by decide +kernel
theorem dX1_isWorth_8 : decode cX1_isWorth 8 = .ok (.if_icmp .gt 7, 3) := by decide +kernel
theorem dX1_isWorth_11 : decode cX1_isWorth 11 = .ok (.iconst 1, 1) := by decide +kernel
theorem dX1_isWorth_12 : decode cX1_isWorth 12 = .ok (.goto 4, 3) := by decide +kernel
theorem dX7_isLetter_0 : decode cX7_isLetter 0 = .ok (.iload_n 0, 1) := by decide +kernel
theorem dX7_isLetter_1 : decode cX7_isLetter 1 = .ok (.ifCond .lt 13, 3) := by decide +kernel
theorem dX7_isLetter_14 : decode cX7_isLetter 14 = .ok (.iconst 0, 1) := by decide +kernel
theorem dX7_isLetter_15 : decode cX7_isLetter 15 = .ok (.ireturn, 1) := by decide +kernel
theorem dX7_isLetter_4 : decode cX7_isLetter 4 = .ok (.iload_n 0, 1) := by decide +kernel
theorem dX7_isLetter_5 : decode cX7_isLetter 5 = .ok (.bipush 8, 2) := by decide +kernel
theorem dX7_isLetter_7 : decode cX7_isLetter 7 = .ok (.if_icmp .ge 7, 3) := by decide +kernel
theorem dX7_isLetter_10 : decode cX7_isLetter 10 = .ok (.iconst 1, 1) := by decide +kernel
theorem dX7_isLetter_11 : decode cX7_isLetter 11 = .ok (.goto 4, 3) := by decide +kernel
theorem dX3_bit_0 : decode cX3_bit 0 = .ok (.lconst 1, 1) := by decide +kernel
theorem dX3_bit_1 : decode cX3_bit 1 = .ok (.iload_n 0, 1) := by decide +kernel
theorem dX3_bit_2 : decode cX3_bit 2 = .ok (.lshl, 1) := by decide +kernel
theorem dX3_bit_3 : decode cX3_bit 3 = .ok (.lreturn, 1) := by decide +kernel
theorem dX3_has_0 : decode cX3_has 0 = .ok (.lload_n 0, 1) := by decide +kernel
theorem dX3_has_1 : decode cX3_has 1 = .ok (.iload_n 2, 1) := by decide +kernel
theorem dX3_has_2 : decode cX3_has 2 = .ok (.lushr, 1) := by decide +kernel
theorem dX3_has_3 : decode cX3_has 3 = .ok (.lconst 1, 1) := by decide +kernel
theorem dX3_has_4 : decode cX3_has 4 = .ok (.land, 1) := by decide +kernel
theorem dX3_has_5 : decode cX3_has 5 = .ok (.lconst 1, 1) := by decide +kernel
theorem dX3_has_6 : decode cX3_has 6 = .ok (.lcmp, 1) := by decide +kernel
theorem dX3_has_7 : decode cX3_has 7 = .ok (.ifCond .ne 7, 3) := by decide +kernel
theorem dX3_has_14 : decode cX3_has 14 = .ok (.iconst 0, 1) := by decide +kernel
theorem dX3_has_15 : decode cX3_has 15 = .ok (.ireturn, 1) := by decide +kernel
theorem dX3_has_10 : decode cX3_has 10 = .ok (.iconst 1, 1) := by decide +kernel
theorem dX3_has_11 : decode cX3_has 11 = .ok (.goto 4, 3) := by decide +kernel
theorem dX11_isDay_0 : decode cX11_isDay 0 = .ok (.iload_n 0, 1) := by decide +kernel
theorem dX11_isDay_1 : decode cX11_isDay 1 = .ok (.ifCond .lt 14, 3) := by decide +kernel
theorem dX11_isDay_15 : decode cX11_isDay 15 = .ok (.iconst 0, 1) := by decide +kernel
theorem dX11_isDay_16 : decode cX11_isDay 16 = .ok (.ireturn, 1) := by decide +kernel
theorem dX11_isDay_4 : decode cX11_isDay 4 = .ok (.iload_n 0, 1) := by decide +kernel
theorem dX11_isDay_5 : decode cX11_isDay 5 = .ok (.sipush 999, 3) := by decide +kernel
theorem dX11_isDay_8 : decode cX11_isDay 8 = .ok (.if_icmp .gt 7, 3) := by decide +kernel
theorem dX11_isDay_11 : decode cX11_isDay 11 = .ok (.iconst 1, 1) := by decide +kernel
theorem dX11_isDay_12 : decode cX11_isDay 12 = .ok (.goto 4, 3) := by decide +kernel
theorem dX1_number_0 : decode cX1_number 0 = .ok (.aload_n 0, 1) := by decide +kernel
theorem dX1_number_1 : decode cX1_number 1 = .ok (.getfield 58, 3) := by decide +kernel
theorem dX1_number_4 : decode cX1_number 4 = .ok (.ireturn, 1) := by decide +kernel
theorem dX1_tellings_0 : decode cX1_tellings 0 = .ok (.aload_n 0, 1) := by decide +kernel
theorem dX1_tellings_1 : decode cX1_tellings 1 = .ok (.getfield 62, 3) := by decide +kernel
theorem dX1_tellings_4 : decode cX1_tellings 4 = .ok (.ireturn, 1) := by decide +kernel
theorem dX1_tellingsLeft_0 : decode cX1_tellingsLeft 0 = .ok (.bipush 100, 2) := by decide +kernel
theorem dX1_tellingsLeft_2 : decode cX1_tellingsLeft 2 = .ok (.aload_n 0, 1) := by decide +kernel
theorem dX1_tellingsLeft_3 : decode cX1_tellingsLeft 3 = .ok (.getfield 62, 3) := by decide +kernel
theorem dX1_tellingsLeft_6 : decode cX1_tellingsLeft 6 = .ok (.isub, 1) := by decide +kernel
theorem dX1_tellingsLeft_7 : decode cX1_tellingsLeft 7 = .ok (.ireturn, 1) := by decide +kernel
theorem dX1_exists_0 : decode cX1_exists 0 = .ok (.iload_n 1, 1) := by decide +kernel
theorem dX1_exists_1 : decode cX1_exists 1 = .ok (.ifCond .lt 15, 3) := by decide +kernel
theorem dX1_exists_16 : decode cX1_exists 16 = .ok (.iconst 0, 1) := by decide +kernel
theorem dX1_exists_17 : decode cX1_exists 17 = .ok (.ireturn, 1) := by decide +kernel
theorem dX1_exists_4 : decode cX1_exists 4 = .ok (.iload_n 1, 1) := by decide +kernel
theorem dX1_exists_5 : decode cX1_exists 5 = .ok (.aload_n 0, 1) := by decide +kernel
theorem dX1_exists_6 : decode cX1_exists 6 = .ok (.getfield 58, 3) := by decide +kernel
theorem dX1_exists_9 : decode cX1_exists 9 = .ok (.if_icmp .ge 7, 3) := by decide +kernel
theorem dX1_standingOn_0 : decode cX1_standingOn 0 = .ok (.aload_n 0, 1) := by decide +kernel
theorem dX1_standingOn_1 : decode cX1_standingOn 1 = .ok (.getfield 36, 3) := by decide +kernel
theorem dX1_standingOn_4 : decode cX1_standingOn 4 = .ok (.iload_n 1, 1) := by decide +kernel
theorem dX1_standingOn_5 : decode cX1_standingOn 5 = .ok (.iaload, 1) := by decide +kernel
theorem dX1_standingOn_6 : decode cX1_standingOn 6 = .ok (.ireturn, 1) := by decide +kernel
theorem dX5_number_0 : decode cX5_number 0 = .ok (.aload_n 0, 1) := by decide +kernel
theorem dX5_number_1 : decode cX5_number 1 = .ok (.getfield 25, 3) := by decide +kernel
theorem dX5_number_4 : decode cX5_number 4 = .ok (.ireturn, 1) := by decide +kernel
theorem dX5_exists_0 : decode cX5_exists 0 = .ok (.iload_n 1, 1) := by decide +kernel
theorem dX5_exists_1 : decode cX5_exists 1 = .ok (.ifCond .lt 15, 3) := by decide +kernel
theorem dX5_exists_16 : decode cX5_exists 16 = .ok (.iconst 0, 1) := by decide +kernel
theorem dX5_exists_17 : decode cX5_exists 17 = .ok (.ireturn, 1) := by decide +kernel
theorem dX5_exists_4 : decode cX5_exists 4 = .ok (.iload_n 1, 1) := by decide +kernel
theorem dX5_exists_5 : decode cX5_exists 5 = .ok (.aload_n 0, 1) := by decide +kernel
theorem dX5_exists_6 : decode cX5_exists 6 = .ok (.getfield 25, 3) := by decide +kernel
theorem dX5_exists_9 : decode cX5_exists 9 = .ok (.if_icmp .ge 7, 3) := by decide +kernel
theorem dX5_homeless_0 : decode cX5_homeless 0 = .ok (.iconst 0, 1) := by decide +kernel
theorem dX5_homeless_1 : decode cX5_homeless 1 = .ok (.istore_n 1, 1) := by decide +kernel
theorem dX5_homeless_2 : decode cX5_homeless 2 = .ok (.iconst 0, 1) := by decide +kernel
theorem dX5_homeless_3 : decode cX5_homeless 3 = .ok (.istore_n 2, 1) := by decide +kernel
theorem dX5_homeless_4 : decode cX5_homeless 4 = .ok (.iload_n 2, 1) := by decide +kernel
theorem dX5_homeless_5 : decode cX5_homeless 5 = .ok (.aload_n 0, 1) := by decide +kernel
theorem dX5_homeless_6 : decode cX5_homeless 6 = .ok (.getfield 25, 3) := by decide +kernel
theorem dX5_homeless_9 : decode cX5_homeless 9 = .ok (.if_icmp .ge 23, 3) := by decide +kernel
theorem dX5_homeless_32 : decode cX5_homeless 32 = .ok (.iload_n 1, 1) := by decide +kernel
theorem dX5_homeless_33 : decode cX5_homeless 33 = .ok (.ireturn, 1) := by decide +kernel
theorem dX5_add_0 : decode cX5_add 0 = .ok (.aload_n 0, 1) := by decide +kernel
theorem dX5_add_1 : decode cX5_add 1 = .ok (.getfield 25, 3) := by decide +kernel
theorem dX5_add_4 : decode cX5_add 4 = .ok (.istore 4, 2) := by decide +kernel
theorem dX5_add_6 : decode cX5_add 6 = .ok (.aload_n 0, 1) := by decide +kernel
theorem dX5_add_7 : decode cX5_add 7 = .ok (.dup, 1) := by decide +kernel
theorem dX5_add_8 : decode cX5_add 8 = .ok (.getfield 25, 3) := by decide +kernel
theorem dX5_add_11 : decode cX5_add 11 = .ok (.iconst 1, 1) := by decide +kernel
theorem dX5_add_12 : decode cX5_add 12 = .ok (.iadd, 1) := by decide +kernel
theorem dX5_add_13 : decode cX5_add 13 = .ok (.putfield 25, 3) := by decide +kernel
theorem dX5_add_16 : decode cX5_add 16 = .ok (.aload_n 0, 1) := by decide +kernel
theorem dX5_add_17 : decode cX5_add 17 = .ok (.getfield 11, 3) := by decide +kernel
theorem dX5_add_20 : decode cX5_add 20 = .ok (.iload 4, 2) := by decide +kernel
theorem dX5_add_22 : decode cX5_add 22 = .ok (.bipush (-9), 2) := by decide +kernel
theorem dX5_add_24 : decode cX5_add 24 = .ok (.iastore, 1) := by decide +kernel
theorem dX5_add_25 : decode cX5_add 25 = .ok (.aload_n 0, 1) := by decide +kernel
theorem dX5_add_26 : decode cX5_add 26 = .ok (.getfield 15, 3) := by decide +kernel
theorem dX5_add_29 : decode cX5_add 29 = .ok (.iload 4, 2) := by decide +kernel
theorem dX5_add_31 : decode cX5_add 31 = .ok (.iload_n 1, 1) := by decide +kernel
theorem dX5_add_32 : decode cX5_add 32 = .ok (.iastore, 1) := by decide +kernel
theorem dX5_add_33 : decode cX5_add 33 = .ok (.aload_n 0, 1) := by decide +kernel
theorem dX5_add_34 : decode cX5_add 34 = .ok (.getfield 18, 3) := by decide +kernel
theorem dX5_add_37 : decode cX5_add 37 = .ok (.iload 4, 2) := by decide +kernel
theorem dX5_add_39 : decode cX5_add 39 = .ok (.iload_n 2, 1) := by decide +kernel
theorem dX5_add_40 : decode cX5_add 40 = .ok (.bastore, 1) := by decide +kernel
theorem dX5_add_41 : decode cX5_add 41 = .ok (.aload_n 0, 1) := by decide +kernel
theorem dX5_add_42 : decode cX5_add 42 = .ok (.getfield 22, 3) := by decide +kernel
theorem dX5_add_45 : decode cX5_add 45 = .ok (.iload 4, 2) := by decide +kernel
theorem dX5_add_47 : decode cX5_add 47 = .ok (.iload_n 3, 1) := by decide +kernel
theorem dX5_add_48 : decode cX5_add 48 = .ok (.iastore, 1) := by decide +kernel
theorem dX5_add_49 : decode cX5_add 49 = .ok (.iload 4, 2) := by decide +kernel
theorem dX5_add_51 : decode cX5_add 51 = .ok (.ireturn, 1) := by decide +kernel
theorem dX7_number_0 : decode cX7_number 0 = .ok (.aload_n 0, 1) := by decide +kernel
theorem dX7_number_1 : decode cX7_number 1 = .ok (.getfield 21, 3) := by decide +kernel
theorem dX7_number_4 : decode cX7_number 4 = .ok (.ireturn, 1) := by decide +kernel
theorem dX7_deciding_0 : decode cX7_deciding 0 = .ok (.bipush (-9), 2) := by decide +kernel
theorem dX7_deciding_2 : decode cX7_deciding 2 = .ok (.istore 4, 2) := by decide +kernel
theorem dX7_deciding_4 : decode cX7_deciding 4 = .ok (.iconst 0, 1) := by decide +kernel
theorem dX7_deciding_5 : decode cX7_deciding 5 = .ok (.istore 5, 2) := by decide +kernel
theorem dX7_deciding_7 : decode cX7_deciding 7 = .ok (.iload 5, 2) := by decide +kernel
theorem dX7_deciding_9 : decode cX7_deciding 9 = .ok (.aload_n 0, 1) := by decide +kernel
theorem dX7_deciding_10 : decode cX7_deciding 10 = .ok (.getfield 21, 3) := by decide +kernel
theorem dX7_deciding_13 : decode cX7_deciding 13 = .ok (.if_icmp .ge 81, 3) := by decide +kernel
theorem dX7_deciding_94 : decode cX7_deciding 94 = .ok (.iload 4, 2) := by decide +kernel
theorem dX7_deciding_96 : decode cX7_deciding 96 = .ok (.ireturn, 1) := by decide +kernel
theorem dX4_number_0 : decode cX4_number 0 = .ok (.aload_n 0, 1) := by decide +kernel
theorem dX4_number_1 : decode cX4_number 1 = .ok (.getfield 54, 3) := by decide +kernel
theorem dX4_number_4 : decode cX4_number 4 = .ok (.ireturn, 1) := by decide +kernel
theorem dX4_exists_0 : decode cX4_exists 0 = .ok (.iload_n 1, 1) := by decide +kernel
theorem dX4_exists_1 : decode cX4_exists 1 = .ok (.ifCond .lt 15, 3) := by decide +kernel
theorem dX4_exists_16 : decode cX4_exists 16 = .ok (.iconst 0, 1) := by decide +kernel
theorem dX4_exists_17 : decode cX4_exists 17 = .ok (.ireturn, 1) := by decide +kernel
theorem dX4_exists_4 : decode cX4_exists 4 = .ok (.iload_n 1, 1) := by decide +kernel
theorem dX4_exists_5 : decode cX4_exists 5 = .ok (.aload_n 0, 1) := by decide +kernel
theorem dX4_exists_6 : decode cX4_exists 6 = .ok (.getfield 54, 3) := by decide +kernel
theorem dX4_exists_9 : decode cX4_exists 9 = .ok (.if_icmp .ge 7, 3) := by decide +kernel
theorem dX2_buys_0 : decode cX2_buys 0 = .ok (.aload_n 0, 1) := by decide +kernel
theorem dX2_buys_1 : decode cX2_buys 1 = .ok (.getfield 30, 3) := by decide +kernel
theorem dX2_buys_4 : decode cX2_buys 4 = .ok (.ireturn, 1) := by decide +kernel
theorem dX0_exists_0 : decode cX0_exists 0 = .ok (.iload_n 1, 1) := by decide +kernel
theorem dX0_exists_1 : decode cX0_exists 1 = .ok (.ifCond .lt 15, 3) := by decide +kernel
theorem dX0_exists_16 : decode cX0_exists 16 = .ok (.iconst 0, 1) := by decide +kernel
theorem dX0_exists_17 : decode cX0_exists 17 = .ok (.ireturn, 1) := by decide +kernel
theorem dX0_exists_4 : decode cX0_exists 4 = .ok (.iload_n 1, 1) := by decide +kernel
theorem dX0_exists_5 : decode cX0_exists 5 = .ok (.aload_n 0, 1) := by decide +kernel
theorem dX0_exists_6 : decode cX0_exists 6 = .ok (.getfield 24, 3) := by decide +kernel
theorem dX0_exists_9 : decode cX0_exists 9 = .ok (.if_icmp .ge 7, 3) := by decide +kernel
theorem dX3_isWater_0 : decode cX3_isWater 0 = .ok (.aload_n 0, 1) := by decide +kernel
theorem dX3_isWater_1 : decode cX3_isWater 1 = .ok (.getfield 11, 3) := by decide +kernel
theorem dX3_isWater_4 : decode cX3_isWater 4 = .ok (.iload_n 1, 1) := by decide +kernel
theorem dX3_isWater_5 : decode cX3_isWater 5 = .ok (.iaload, 1) := by decide +kernel
theorem dX3_isWater_6 : decode cX3_isWater 6 = .ok (.iconst 4, 1) := by decide +kernel
theorem dX3_isWater_7 : decode cX3_isWater 7 = .ok (.if_icmp .ne 7, 3) := by decide +kernel
theorem dX3_isWater_14 : decode cX3_isWater 14 = .ok (.iconst 0, 1) := by decide +kernel
theorem dX3_isWater_15 : decode cX3_isWater 15 = .ok (.ireturn, 1) := by decide +kernel
theorem dX3_change_0 : decode cX3_change 0 = .ok (.aload_n 0, 1) := by decide +kernel
theorem dX3_change_1 : decode cX3_change 1 = .ok (.getfield 11, 3) := by decide +kernel
theorem dX3_change_4 : decode cX3_change 4 = .ok (.iload_n 1, 1) := by decide +kernel
theorem dX3_change_5 : decode cX3_change 5 = .ok (.iload_n 2, 1) := by decide +kernel
theorem dX3_change_6 : decode cX3_change 6 = .ok (.iastore, 1) := by decide +kernel
theorem dX3_change_7 : decode cX3_change 7 = .ok (.aload_n 0, 1) := by decide +kernel
theorem dX3_change_8 : decode cX3_change 8 = .ok (.getfield 15, 3) := by decide +kernel
theorem dX3_change_11 : decode cX3_change 11 = .ok (.iload_n 1, 1) := by decide +kernel
theorem dX3_change_12 : decode cX3_change 12 = .ok (.iload_n 3, 1) := by decide +kernel
theorem dX3_change_13 : decode cX3_change 13 = .ok (.iastore, 1) := by decide +kernel
theorem dX3_change_14 : decode cX3_change 14 = .ok (.return_, 1) := by decide +kernel
theorem dX4_add_0 : decode cX4_add 0 = .ok (.aload_n 0, 1) := by decide +kernel
theorem dX4_add_1 : decode cX4_add 1 = .ok (.getfield 54, 3) := by decide +kernel
theorem dX4_add_4 : decode cX4_add 4 = .ok (.istore 4, 2) := by decide +kernel
theorem dX4_add_6 : decode cX4_add 6 = .ok (.aload_n 0, 1) := by decide +kernel
theorem dX4_add_7 : decode cX4_add 7 = .ok (.dup, 1) := by decide +kernel
theorem dX4_add_8 : decode cX4_add 8 = .ok (.getfield 54, 3) := by decide +kernel
theorem dX4_add_11 : decode cX4_add 11 = .ok (.iconst 1, 1) := by decide +kernel
theorem dX4_add_12 : decode cX4_add 12 = .ok (.iadd, 1) := by decide +kernel
theorem dX4_add_13 : decode cX4_add 13 = .ok (.putfield 54, 3) := by decide +kernel
theorem dX4_add_16 : decode cX4_add 16 = .ok (.aload_n 0, 1) := by decide +kernel
theorem dX4_add_17 : decode cX4_add 17 = .ok (.getfield 11, 3) := by decide +kernel
theorem dX4_add_20 : decode cX4_add 20 = .ok (.iload 4, 2) := by decide +kernel
theorem dX4_add_22 : decode cX4_add 22 = .ok (.iload_n 1, 1) := by decide +kernel
theorem dX4_add_23 : decode cX4_add 23 = .ok (.iastore, 1) := by decide +kernel
theorem dX4_add_24 : decode cX4_add 24 = .ok (.aload_n 0, 1) := by decide +kernel
theorem dX4_add_25 : decode cX4_add 25 = .ok (.getfield 15, 3) := by decide +kernel
theorem dX4_add_28 : decode cX4_add 28 = .ok (.iload 4, 2) := by decide +kernel
theorem dX4_add_30 : decode cX4_add 30 = .ok (.iload_n 2, 1) := by decide +kernel
theorem dX4_add_31 : decode cX4_add 31 = .ok (.iastore, 1) := by decide +kernel
theorem dX4_add_32 : decode cX4_add 32 = .ok (.aload_n 0, 1) := by decide +kernel
theorem dX4_add_33 : decode cX4_add 33 = .ok (.getfield 18, 3) := by decide +kernel
theorem dX4_add_36 : decode cX4_add 36 = .ok (.iload 4, 2) := by decide +kernel
theorem dX4_add_38 : decode cX4_add 38 = .ok (.iload_n 3, 1) := by decide +kernel
theorem dX4_add_39 : decode cX4_add 39 = .ok (.iastore, 1) := by decide +kernel
theorem dX4_add_40 : decode cX4_add 40 = .ok (.aload_n 0, 1) := by decide +kernel
theorem dX4_add_41 : decode cX4_add 41 = .ok (.getfield 36, 3) := by decide +kernel
theorem dX4_add_44 : decode cX4_add 44 = .ok (.iload 4, 2) := by decide +kernel
theorem dX4_add_46 : decode cX4_add 46 = .ok (.bipush (-9), 2) := by decide +kernel
theorem dX4_add_48 : decode cX4_add 48 = .ok (.iastore, 1) := by decide +kernel
theorem dX4_add_49 : decode cX4_add 49 = .ok (.iload 4, 2) := by decide +kernel
theorem dX4_add_51 : decode cX4_add 51 = .ok (.ireturn, 1) := by decide +kernel

def sp_X8_exists (g : GG) (h0 : Nat) (r : Int32) (nr : Int32) (bl : Int32) (h0s : Nat) (h0p : Nat) : Int32 × va_W := if r < 0 then (0, [(h0, .inr (8, [.int nr, .int bl, .ref h0s, .ref h0p]))]) else (if nr ≤ r then (0, [(h0, .inr (8, [.int nr, .int bl, .ref h0s, .ref h0p]))]) else (1, [(h0, .inr (8, [.int nr, .int bl, .ref h0s, .ref h0p]))]))
set_option maxHeartbeats 4000000 in
set_option maxRecDepth 100000 in
theorem c_X8_exists (l : Launch) (g : GG) (h0 : Nat) (r : Int32) (nr : Int32) (bl : Int32) (h0s : Nat) (h0p : Nat) : MI l g yX8_exists cX8_exists 2 (some .boolean) 0 0 0 0 [(h0, .inr (8, [.int nr, .int bl, .ref h0s, .ref h0p]))] [.ref h0, .int r] (fun rr_ ww_ => (rr_, ww_) = sp_X8_exists g h0 r nr bl h0s h0p) := by
  refine met_of (fun A => va_Qi _ (bW g A) A) (by decide) (Nat.le_of_ble_eq_true rfl) ?_
  intro p e s m below meth c A ls X hK hP hD hA hZ hS hl
  have hx := X.1
  have hb := X.2.1
  have hml := X.2.2.1
  have hown := X.2.2.2.1
  have hts := X.2.2.2.2.1
  have hnm := X.2.2.2.2.2.2.2
  have hl : lv_has ls 2 [(0, .ref h0), (1, .int r)] := hl
  refine lv_iload_n hx hb dX8_exists_0 rfl (lv_at hl 1 rfl) ?_
  refine lv_if_lt (tgt := 16) hx hb dX8_exists_1 (by decide) (fun c_1 => ?_) (fun c_1 => ?_)
  ·
    refine lv_iconst (v := 0) hx hb dX8_exists_16 (by decide) ?_
    exact rI X hK hP hD hS dX8_exists_17 (by rfl) (Nat.le_of_ble_eq_true rfl) (Nat.le_of_ble_eq_true rfl) (by show ((_, _) : Int32 × va_W) = _; unfold sp_X8_exists; rw [if_pos c_1]; try rfl)
  ·
    refine lv_iload_n hx hb dX8_exists_4 rfl (lv_at hl 1 rfl) ?_
    refine lv_aload_n hx hb dX8_exists_5 rfl (lv_at hl 0 rfl) ?_
    refine va_get (D := g.1) (ci := 8) (v := .int nr) (C := RX8) (T := TX8) (N := 4) hx hb hts fw_X8 hown hK hP 0 rfl rfl 0 (by decide) (hts _ q_126) (fun _ h9 => h9) rfl dX8_exists_6 ?_
    refine lv_icmp_ge (tgt := 16) hx hb dX8_exists_9 (by decide) (fun c_2 => ?_) (fun c_2 => ?_)
    ·
      refine lv_iconst (v := 0) hx hb dX8_exists_16 (by decide) ?_
      exact rI X hK hP hD hS dX8_exists_17 (by rfl) (Nat.le_of_ble_eq_true rfl) (Nat.le_of_ble_eq_true rfl) (by show ((_, _) : Int32 × va_W) = _; unfold sp_X8_exists; rw [if_neg c_1, if_pos c_2]; try rfl)
    ·
      refine lv_iconst (v := 1) hx hb dX8_exists_12 (by decide) ?_
      refine lv_goto (tgt := 17) hx hb dX8_exists_13 (by decide) ?_
      exact rI X hK hP hD hS dX8_exists_17 (by rfl) (Nat.le_of_ble_eq_true rfl) (Nat.le_of_ble_eq_true rfl) (by show ((_, _) : Int32 × va_W) = _; unfold sp_X8_exists; rw [if_neg c_1, if_neg c_2]; try rfl)
def sp_X8_isThere (g : GG) (h0 : Nat) (r : Int32) (nr : Int32) (bl : Int32) (h0s : Nat) (h0p : Nat) : Int32 × va_W := (0, [(h0, .inr (8, [.int nr, .int bl, .ref h0s, .ref h0p])), (h0s, .inl (cI g, 6, .inl (fun _ => (-1))))])
set_option maxHeartbeats 4000000 in
set_option maxRecDepth 100000 in
theorem c_X8_isThere (l : Launch) (g : GG) (h0 : Nat) (r : Int32) (nr : Int32) (bl : Int32) (h0s : Nat) (h0p : Nat) (hr0 : ¬ (r < 0)) (hr6 : ¬ (6 ≤ r)) : MI l g yX8_isThere cX8_isThere 2 (some .boolean) 0 0 0 0 [(h0, .inr (8, [.int nr, .int bl, .ref h0s, .ref h0p])), (h0s, .inl (cI g, 6, .inl (fun _ => (-1))))] [.ref h0, .int r] (fun rr_ ww_ => (rr_, ww_) = sp_X8_isThere g h0 r nr bl h0s h0p) := by
  refine met_of (fun A => va_Qi _ (bW g A) A) (by decide) (Nat.le_of_ble_eq_true rfl) ?_
  intro p e s m below meth c A ls X hK hP hD hA hZ hS hl
  have hx := X.1
  have hb := X.2.1
  have hml := X.2.2.1
  have hown := X.2.2.2.1
  have hts := X.2.2.2.2.1
  have hnm := X.2.2.2.2.2.2.2
  have hl : lv_has ls 2 [(0, .ref h0), (1, .int r)] := hl
  refine lv_aload_n hx hb dX8_isThere_0 rfl (lv_at hl 0 rfl) ?_
  refine va_get (D := g.1) (ci := 8) (v := .ref h0s) (C := RX8) (T := TX8) (N := 4) hx hb hts fw_X8 hown hK hP 0 rfl rfl 2 (by decide) (hts _ q_128) (fun _ h9 => h9) rfl dX8_isThere_1 ?_
  refine lv_iload_n hx hb dX8_isThere_4 rfl (lv_at hl 1 rfl) ?_
  refine va_iald hx hb hK hP 1 0 rfl rfl (vp_in_iff.mpr (by simp only [i32lt, i32le, i32eq, Int32.reduceToInt] at hr0 hr6; omega)) dX8_isThere_5 ?_
  refine lv_topk (v := (-1)) rfl ?_
  refine lv_iconst (v := (-1)) hx hb dX8_isThere_6 (by decide) ?_
  refine lv_icmp_eq (tgt := 14) hx hb dX8_isThere_7 (by decide) (fun _ => ?_) (fun c_1 => absurd (by decide) c_1)
  refine lv_iconst (v := 0) hx hb dX8_isThere_14 (by decide) ?_
  exact rI X hK hP hD hS dX8_isThere_15 (by rfl) (Nat.le_of_ble_eq_true rfl) (Nat.le_of_ble_eq_true rfl) (by show ((_, _) : Int32 × va_W) = _; unfold sp_X8_isThere; try rfl)
def sp_X3_isCell (g : GG) (c0 : Int32) : Int32 × va_W := if c0 < 0 then (0, []) else (if 64 ≤ c0 then (0, []) else (1, []))
set_option maxHeartbeats 4000000 in
set_option maxRecDepth 100000 in
theorem c_X3_isCell (l : Launch) (g : GG) (c0 : Int32) : MI l g yX3_isCell cX3_isCell 1 (some .boolean) 0 0 0 0 [] [.int c0] (fun rr_ ww_ => (rr_, ww_) = sp_X3_isCell g c0) := by
  refine met_of (fun A => va_Qi _ (bW g A) A) (by decide) (Nat.le_of_ble_eq_true rfl) ?_
  intro p e s m below meth c A ls X hK hP hD hA hZ hS hl
  have hx := X.1
  have hb := X.2.1
  have hml := X.2.2.1
  have hown := X.2.2.2.1
  have hts := X.2.2.2.2.1
  have hnm := X.2.2.2.2.2.2.2
  have hl : lv_has ls 1 [(0, .int c0)] := hl
  refine lv_iload_n hx hb dX3_isCell_0 rfl (lv_at hl 0 rfl) ?_
  refine lv_if_lt (tgt := 14) hx hb dX3_isCell_1 (by decide) (fun c_1 => ?_) (fun c_1 => ?_)
  ·
    refine lv_iconst (v := 0) hx hb dX3_isCell_14 (by decide) ?_
    exact rI X hK hP hD hS dX3_isCell_15 (by rfl) (Nat.le_of_ble_eq_true rfl) (Nat.le_of_ble_eq_true rfl) (by show ((_, _) : Int32 × va_W) = _; unfold sp_X3_isCell; rw [if_pos c_1]; try rfl)
  ·
    refine lv_iload_n hx hb dX3_isCell_4 rfl (lv_at hl 0 rfl) ?_
    refine lv_bipush (v := 64) hx hb dX3_isCell_5 (by decide) ?_
    refine lv_icmp_ge (tgt := 14) hx hb dX3_isCell_7 (by decide) (fun c_2 => ?_) (fun c_2 => ?_)
    ·
      refine lv_iconst (v := 0) hx hb dX3_isCell_14 (by decide) ?_
      exact rI X hK hP hD hS dX3_isCell_15 (by rfl) (Nat.le_of_ble_eq_true rfl) (Nat.le_of_ble_eq_true rfl) (by show ((_, _) : Int32 × va_W) = _; unfold sp_X3_isCell; rw [if_neg c_1, if_pos c_2]; try rfl)
    ·
      refine lv_iconst (v := 1) hx hb dX3_isCell_10 (by decide) ?_
      refine lv_goto (tgt := 15) hx hb dX3_isCell_11 (by decide) ?_
      exact rI X hK hP hD hS dX3_isCell_15 (by rfl) (Nat.le_of_ble_eq_true rfl) (Nat.le_of_ble_eq_true rfl) (by show ((_, _) : Int32 × va_W) = _; unfold sp_X3_isCell; rw [if_neg c_1, if_neg c_2]; try rfl)
def sp_X1_isUse (g : GG) (c0 : Int32) : Int32 × va_W := if c0 < 0 then (0, []) else (if 2 < c0 then (0, []) else (1, []))
set_option maxHeartbeats 4000000 in
set_option maxRecDepth 100000 in
theorem c_X1_isUse (l : Launch) (g : GG) (c0 : Int32) : MI l g yX1_isUse cX1_isUse 1 (some .boolean) 0 0 0 0 [] [.int c0] (fun rr_ ww_ => (rr_, ww_) = sp_X1_isUse g c0) := by
  refine met_of (fun A => va_Qi _ (bW g A) A) (by decide) (Nat.le_of_ble_eq_true rfl) ?_
  intro p e s m below meth c A ls X hK hP hD hA hZ hS hl
  have hx := X.1
  have hb := X.2.1
  have hml := X.2.2.1
  have hown := X.2.2.2.1
  have hts := X.2.2.2.2.1
  have hnm := X.2.2.2.2.2.2.2
  have hl : lv_has ls 1 [(0, .int c0)] := hl
  refine lv_iload_n hx hb dX1_isUse_0 rfl (lv_at hl 0 rfl) ?_
  refine lv_if_lt (tgt := 13) hx hb dX1_isUse_1 (by decide) (fun c_1 => ?_) (fun c_1 => ?_)
  ·
    refine lv_iconst (v := 0) hx hb dX1_isUse_13 (by decide) ?_
    exact rI X hK hP hD hS dX1_isUse_14 (by rfl) (Nat.le_of_ble_eq_true rfl) (Nat.le_of_ble_eq_true rfl) (by show ((_, _) : Int32 × va_W) = _; unfold sp_X1_isUse; rw [if_pos c_1]; try rfl)
  ·
    refine lv_iload_n hx hb dX1_isUse_4 rfl (lv_at hl 0 rfl) ?_
    refine lv_iconst (v := 2) hx hb dX1_isUse_5 (by decide) ?_
    refine lv_icmp_gt (tgt := 13) hx hb dX1_isUse_6 (by decide) (fun c_2 => ?_) (fun c_2 => ?_)
    ·
      refine lv_iconst (v := 0) hx hb dX1_isUse_13 (by decide) ?_
      exact rI X hK hP hD hS dX1_isUse_14 (by rfl) (Nat.le_of_ble_eq_true rfl) (Nat.le_of_ble_eq_true rfl) (by show ((_, _) : Int32 × va_W) = _; unfold sp_X1_isUse; rw [if_neg c_1, if_pos c_2]; try rfl)
    ·
      refine lv_iconst (v := 1) hx hb dX1_isUse_9 (by decide) ?_
      refine lv_goto (tgt := 14) hx hb dX1_isUse_10 (by decide) ?_
      exact rI X hK hP hD hS dX1_isUse_14 (by rfl) (Nat.le_of_ble_eq_true rfl) (Nat.le_of_ble_eq_true rfl) (by show ((_, _) : Int32 × va_W) = _; unfold sp_X1_isUse; rw [if_neg c_1, if_neg c_2]; try rfl)
def sp_X1_isWorth (g : GG) (c0 : Int32) : Int32 × va_W := if c0 < 1 then (0, []) else (if 100000 < c0 then (0, []) else (1, []))
set_option maxHeartbeats 4000000 in
set_option maxRecDepth 100000 in
theorem c_X1_isWorth (l : Launch) (g : GG) (c0 : Int32) : MI l g yX1_isWorth cX1_isWorth 1 (some .boolean) 0 0 0 0 [] [.int c0] (fun rr_ ww_ => (rr_, ww_) = sp_X1_isWorth g c0) := by
  refine met_of (fun A => va_Qi _ (bW g A) A) (by decide) (Nat.le_of_ble_eq_true rfl) ?_
  intro p e s m below meth c A ls X hK hP hD hA hZ hS hl
  have hx := X.1
  have hb := X.2.1
  have hml := X.2.2.1
  have hown := X.2.2.2.1
  have hts := X.2.2.2.2.1
  have hnm := X.2.2.2.2.2.2.2
  have hl : lv_has ls 1 [(0, .int c0)] := hl
  refine lv_iload_n hx hb dX1_isWorth_0 rfl (lv_at hl 0 rfl) ?_
  refine lv_iconst (v := 1) hx hb dX1_isWorth_1 (by decide) ?_
  refine lv_icmp_lt (tgt := 15) hx hb dX1_isWorth_2 (by decide) (fun c_1 => ?_) (fun c_1 => ?_)
  ·
    refine lv_iconst (v := 0) hx hb dX1_isWorth_15 (by decide) ?_
    exact rI X hK hP hD hS dX1_isWorth_16 (by rfl) (Nat.le_of_ble_eq_true rfl) (Nat.le_of_ble_eq_true rfl) (by show ((_, _) : Int32 × va_W) = _; unfold sp_X1_isWorth; rw [if_pos c_1]; try rfl)
  ·
    refine lv_iload_n hx hb dX1_isWorth_5 rfl (lv_at hl 0 rfl) ?_
    refine lv_ldc (v := 100000) hx hb hown (hts _ q_642) dX1_isWorth_6 ?_
    refine lv_icmp_gt (tgt := 15) hx hb dX1_isWorth_8 (by decide) (fun c_2 => ?_) (fun c_2 => ?_)
    ·
      refine lv_iconst (v := 0) hx hb dX1_isWorth_15 (by decide) ?_
      exact rI X hK hP hD hS dX1_isWorth_16 (by rfl) (Nat.le_of_ble_eq_true rfl) (Nat.le_of_ble_eq_true rfl) (by show ((_, _) : Int32 × va_W) = _; unfold sp_X1_isWorth; rw [if_neg c_1, if_pos c_2]; try rfl)
    ·
      refine lv_iconst (v := 1) hx hb dX1_isWorth_11 (by decide) ?_
      refine lv_goto (tgt := 16) hx hb dX1_isWorth_12 (by decide) ?_
      exact rI X hK hP hD hS dX1_isWorth_16 (by rfl) (Nat.le_of_ble_eq_true rfl) (Nat.le_of_ble_eq_true rfl) (by show ((_, _) : Int32 × va_W) = _; unfold sp_X1_isWorth; rw [if_neg c_1, if_neg c_2]; try rfl)
def sp_X7_isLetter (g : GG) (c0 : Int32) : Int32 × va_W := if c0 < 0 then (0, []) else (if 8 ≤ c0 then (0, []) else (1, []))
set_option maxHeartbeats 4000000 in
set_option maxRecDepth 100000 in
theorem c_X7_isLetter (l : Launch) (g : GG) (c0 : Int32) : MI l g yX7_isLetter cX7_isLetter 1 (some .boolean) 0 0 0 0 [] [.int c0] (fun rr_ ww_ => (rr_, ww_) = sp_X7_isLetter g c0) := by
  refine met_of (fun A => va_Qi _ (bW g A) A) (by decide) (Nat.le_of_ble_eq_true rfl) ?_
  intro p e s m below meth c A ls X hK hP hD hA hZ hS hl
  have hx := X.1
  have hb := X.2.1
  have hml := X.2.2.1
  have hown := X.2.2.2.1
  have hts := X.2.2.2.2.1
  have hnm := X.2.2.2.2.2.2.2
  have hl : lv_has ls 1 [(0, .int c0)] := hl
  refine lv_iload_n hx hb dX7_isLetter_0 rfl (lv_at hl 0 rfl) ?_
  refine lv_if_lt (tgt := 14) hx hb dX7_isLetter_1 (by decide) (fun c_1 => ?_) (fun c_1 => ?_)
  ·
    refine lv_iconst (v := 0) hx hb dX7_isLetter_14 (by decide) ?_
    exact rI X hK hP hD hS dX7_isLetter_15 (by rfl) (Nat.le_of_ble_eq_true rfl) (Nat.le_of_ble_eq_true rfl) (by show ((_, _) : Int32 × va_W) = _; unfold sp_X7_isLetter; rw [if_pos c_1]; try rfl)
  ·
    refine lv_iload_n hx hb dX7_isLetter_4 rfl (lv_at hl 0 rfl) ?_
    refine lv_bipush (v := 8) hx hb dX7_isLetter_5 (by decide) ?_
    refine lv_icmp_ge (tgt := 14) hx hb dX7_isLetter_7 (by decide) (fun c_2 => ?_) (fun c_2 => ?_)
    ·
      refine lv_iconst (v := 0) hx hb dX7_isLetter_14 (by decide) ?_
      exact rI X hK hP hD hS dX7_isLetter_15 (by rfl) (Nat.le_of_ble_eq_true rfl) (Nat.le_of_ble_eq_true rfl) (by show ((_, _) : Int32 × va_W) = _; unfold sp_X7_isLetter; rw [if_neg c_1, if_pos c_2]; try rfl)
    ·
      refine lv_iconst (v := 1) hx hb dX7_isLetter_10 (by decide) ?_
      refine lv_goto (tgt := 15) hx hb dX7_isLetter_11 (by decide) ?_
      exact rI X hK hP hD hS dX7_isLetter_15 (by rfl) (Nat.le_of_ble_eq_true rfl) (Nat.le_of_ble_eq_true rfl) (by show ((_, _) : Int32 × va_W) = _; unfold sp_X7_isLetter; rw [if_neg c_1, if_neg c_2]; try rfl)
def sp_X3_bit (g : GG) (c0 : Int32) : Int64 × va_W := (jshl 1 c0, [])
set_option maxHeartbeats 4000000 in
set_option maxRecDepth 100000 in
theorem c_X3_bit (l : Launch) (g : GG) (c0 : Int32) : ML l g yX3_bit cX3_bit 1 (some .long) 0 0 0 0 [] [.int c0] (fun rr_ ww_ => (rr_, ww_) = sp_X3_bit g c0) := by
  refine met_of (fun A => va_Ql _ (bW g A) A) (by decide) (Nat.le_of_ble_eq_true rfl) ?_
  intro p e s m below meth c A ls X hK hP hD hA hZ hS hl
  have hx := X.1
  have hb := X.2.1
  have hml := X.2.2.1
  have hown := X.2.2.2.1
  have hts := X.2.2.2.2.1
  have hnm := X.2.2.2.2.2.2.2
  have hl : lv_has ls 1 [(0, .int c0)] := hl
  refine lv_lconst (v := 1) hx hb dX3_bit_0 (by decide) ?_
  refine lv_iload_n hx hb dX3_bit_1 rfl (lv_at hl 0 rfl) ?_
  refine lv_lshl (v := jshl 1 c0) hx hb dX3_bit_2 (by rfl) ?_
  exact rL X hK hP hD hS dX3_bit_3 (Nat.le_of_ble_eq_true rfl) (Nat.le_of_ble_eq_true rfl) (by show ((_, _) : Int64 × va_W) = _; unfold sp_X3_bit; try rfl)
def sp_X3_has (g : GG) (z0 : Int64) (c0 : Int32) : Int32 × va_W := if lg_cmp ((jushr z0 c0) &&& 1) 1 = 0 then (1, []) else (0, [])
set_option maxHeartbeats 4000000 in
set_option maxRecDepth 100000 in
theorem c_X3_has (l : Launch) (g : GG) (z0 : Int64) (c0 : Int32) : MI l g yX3_has cX3_has 3 (some .boolean) 0 0 0 0 [] [.long z0, .int c0] (fun rr_ ww_ => (rr_, ww_) = sp_X3_has g z0 c0) := by
  refine met_of (fun A => va_Qi _ (bW g A) A) (by decide) (Nat.le_of_ble_eq_true rfl) ?_
  intro p e s m below meth c A ls X hK hP hD hA hZ hS hl
  have hx := X.1
  have hb := X.2.1
  have hml := X.2.2.1
  have hown := X.2.2.2.1
  have hts := X.2.2.2.2.1
  have hnm := X.2.2.2.2.2.2.2
  have hl : lv_has ls 3 [(0, .long z0), (2, .int c0)] := hl
  refine lv_lload_n hx hb dX3_has_0 rfl (lv_at hl 0 rfl) ?_
  refine lv_iload_n hx hb dX3_has_1 rfl (lv_at hl 1 rfl) ?_
  refine lv_lushr (v := jushr z0 c0) hx hb dX3_has_2 (by rfl) ?_
  refine lv_lconst (v := 1) hx hb dX3_has_3 (by decide) ?_
  refine lv_land hx hb dX3_has_4 ?_
  refine lv_lconst (v := 1) hx hb dX3_has_5 (by decide) ?_
  refine W.lcmp hx hb dX3_has_6 ?_
  refine lv_if_ne (tgt := 14) hx hb dX3_has_7 (by decide) (fun c_1 => ?_) (fun c_1 => ?_)
  ·
    refine lv_iconst (v := 0) hx hb dX3_has_14 (by decide) ?_
    exact rI X hK hP hD hS dX3_has_15 (by rfl) (Nat.le_of_ble_eq_true rfl) (Nat.le_of_ble_eq_true rfl) (by show ((_, _) : Int32 × va_W) = _; unfold sp_X3_has; rw [if_neg c_1]; try rfl)
  ·
    refine lv_iconst (v := 1) hx hb dX3_has_10 (by decide) ?_
    refine lv_goto (tgt := 15) hx hb dX3_has_11 (by decide) ?_
    exact rI X hK hP hD hS dX3_has_15 (by rfl) (Nat.le_of_ble_eq_true rfl) (Nat.le_of_ble_eq_true rfl) (by show ((_, _) : Int32 × va_W) = _; unfold sp_X3_has; rw [if_pos c_1]; try rfl)
def sp_X11_isDay (g : GG) (c0 : Int32) : Int32 × va_W := if c0 < 0 then (0, []) else (if 999 < c0 then (0, []) else (1, []))
set_option maxHeartbeats 4000000 in
set_option maxRecDepth 100000 in
theorem c_X11_isDay (l : Launch) (g : GG) (c0 : Int32) : MI l g yX11_isDay cX11_isDay 1 (some .boolean) 0 0 0 0 [] [.int c0] (fun rr_ ww_ => (rr_, ww_) = sp_X11_isDay g c0) := by
  refine met_of (fun A => va_Qi _ (bW g A) A) (by decide) (Nat.le_of_ble_eq_true rfl) ?_
  intro p e s m below meth c A ls X hK hP hD hA hZ hS hl
  have hx := X.1
  have hb := X.2.1
  have hml := X.2.2.1
  have hown := X.2.2.2.1
  have hts := X.2.2.2.2.1
  have hnm := X.2.2.2.2.2.2.2
  have hl : lv_has ls 1 [(0, .int c0)] := hl
  refine lv_iload_n hx hb dX11_isDay_0 rfl (lv_at hl 0 rfl) ?_
  refine lv_if_lt (tgt := 15) hx hb dX11_isDay_1 (by decide) (fun c_1 => ?_) (fun c_1 => ?_)
  ·
    refine lv_iconst (v := 0) hx hb dX11_isDay_15 (by decide) ?_
    exact rI X hK hP hD hS dX11_isDay_16 (by rfl) (Nat.le_of_ble_eq_true rfl) (Nat.le_of_ble_eq_true rfl) (by show ((_, _) : Int32 × va_W) = _; unfold sp_X11_isDay; rw [if_pos c_1]; try rfl)
  ·
    refine lv_iload_n hx hb dX11_isDay_4 rfl (lv_at hl 0 rfl) ?_
    refine lv_sipush (v := 999) hx hb dX11_isDay_5 (by decide) ?_
    refine lv_icmp_gt (tgt := 15) hx hb dX11_isDay_8 (by decide) (fun c_2 => ?_) (fun c_2 => ?_)
    ·
      refine lv_iconst (v := 0) hx hb dX11_isDay_15 (by decide) ?_
      exact rI X hK hP hD hS dX11_isDay_16 (by rfl) (Nat.le_of_ble_eq_true rfl) (Nat.le_of_ble_eq_true rfl) (by show ((_, _) : Int32 × va_W) = _; unfold sp_X11_isDay; rw [if_neg c_1, if_pos c_2]; try rfl)
    ·
      refine lv_iconst (v := 1) hx hb dX11_isDay_11 (by decide) ?_
      refine lv_goto (tgt := 16) hx hb dX11_isDay_12 (by decide) ?_
      exact rI X hK hP hD hS dX11_isDay_16 (by rfl) (Nat.le_of_ble_eq_true rfl) (Nat.le_of_ble_eq_true rfl) (by show ((_, _) : Int32 × va_W) = _; unfold sp_X11_isDay; rw [if_neg c_1, if_neg c_2]; try rfl)
def sp_X1_number (g : GG) (h0 : Nat) (h0a0 : Nat) (h0a1 : Nat) (h0a2 : Nat) (h0a3 : Nat) (h0a4 : Nat) (h0a5 : Nat) (h0a6 : Nat) (h0a7 : Nat) (h0a8 : Nat) (h0a9 : Nat) (h0a10 : Nat) (h0a11 : Nat) : Int32 × va_W := (0, [(h0, .inr (1, [.ref h0a0, .ref h0a1, .ref h0a2, .ref h0a3, .ref h0a4, .ref h0a5, .ref h0a6, .ref h0a7, .ref h0a8, .ref h0a9, .ref h0a10, .ref h0a11, .int 0, .int 0]))])
set_option maxHeartbeats 4000000 in
set_option maxRecDepth 100000 in
theorem c_X1_number (l : Launch) (g : GG) (h0 : Nat) (h0a0 : Nat) (h0a1 : Nat) (h0a2 : Nat) (h0a3 : Nat) (h0a4 : Nat) (h0a5 : Nat) (h0a6 : Nat) (h0a7 : Nat) (h0a8 : Nat) (h0a9 : Nat) (h0a10 : Nat) (h0a11 : Nat) : MI l g yX1_number cX1_number 1 (some .int) 0 0 0 0 [(h0, .inr (1, [.ref h0a0, .ref h0a1, .ref h0a2, .ref h0a3, .ref h0a4, .ref h0a5, .ref h0a6, .ref h0a7, .ref h0a8, .ref h0a9, .ref h0a10, .ref h0a11, .int 0, .int 0]))] [.ref h0] (fun rr_ ww_ => (rr_, ww_) = sp_X1_number g h0 h0a0 h0a1 h0a2 h0a3 h0a4 h0a5 h0a6 h0a7 h0a8 h0a9 h0a10 h0a11) := by
  refine met_of (fun A => va_Qi _ (bW g A) A) (by decide) (Nat.le_of_ble_eq_true rfl) ?_
  intro p e s m below meth c A ls X hK hP hD hA hZ hS hl
  have hx := X.1
  have hb := X.2.1
  have hml := X.2.2.1
  have hown := X.2.2.2.1
  have hts := X.2.2.2.2.1
  have hnm := X.2.2.2.2.2.2.2
  have hl : lv_has ls 1 [(0, .ref h0)] := hl
  refine lv_aload_n hx hb dX1_number_0 rfl (lv_at hl 0 rfl) ?_
  refine va_get (D := g.1) (ci := 1) (v := .int 0) (C := RX1) (T := TX1) (N := 14) hx hb hts fw_X1 hown hK hP 0 rfl rfl 12 (by decide) (hts _ q_172) (fun _ h9 => h9) rfl dX1_number_1 ?_
  exact rI X hK hP hD hS dX1_number_4 (by rfl) (Nat.le_of_ble_eq_true rfl) (Nat.le_of_ble_eq_true rfl) (by show ((_, _) : Int32 × va_W) = _; unfold sp_X1_number; try rfl)
def sp_X1_tellings (g : GG) (h0 : Nat) (h0a0 : Nat) (h0a1 : Nat) (h0a2 : Nat) (h0a3 : Nat) (h0a4 : Nat) (h0a5 : Nat) (h0a6 : Nat) (h0a7 : Nat) (h0a8 : Nat) (h0a9 : Nat) (h0a10 : Nat) (h0a11 : Nat) : Int32 × va_W := (0, [(h0, .inr (1, [.ref h0a0, .ref h0a1, .ref h0a2, .ref h0a3, .ref h0a4, .ref h0a5, .ref h0a6, .ref h0a7, .ref h0a8, .ref h0a9, .ref h0a10, .ref h0a11, .int 0, .int 0]))])
set_option maxHeartbeats 4000000 in
set_option maxRecDepth 100000 in
theorem c_X1_tellings (l : Launch) (g : GG) (h0 : Nat) (h0a0 : Nat) (h0a1 : Nat) (h0a2 : Nat) (h0a3 : Nat) (h0a4 : Nat) (h0a5 : Nat) (h0a6 : Nat) (h0a7 : Nat) (h0a8 : Nat) (h0a9 : Nat) (h0a10 : Nat) (h0a11 : Nat) : MI l g yX1_tellings cX1_tellings 1 (some .int) 0 0 0 0 [(h0, .inr (1, [.ref h0a0, .ref h0a1, .ref h0a2, .ref h0a3, .ref h0a4, .ref h0a5, .ref h0a6, .ref h0a7, .ref h0a8, .ref h0a9, .ref h0a10, .ref h0a11, .int 0, .int 0]))] [.ref h0] (fun rr_ ww_ => (rr_, ww_) = sp_X1_tellings g h0 h0a0 h0a1 h0a2 h0a3 h0a4 h0a5 h0a6 h0a7 h0a8 h0a9 h0a10 h0a11) := by
  refine met_of (fun A => va_Qi _ (bW g A) A) (by decide) (Nat.le_of_ble_eq_true rfl) ?_
  intro p e s m below meth c A ls X hK hP hD hA hZ hS hl
  have hx := X.1
  have hb := X.2.1
  have hml := X.2.2.1
  have hown := X.2.2.2.1
  have hts := X.2.2.2.2.1
  have hnm := X.2.2.2.2.2.2.2
  have hl : lv_has ls 1 [(0, .ref h0)] := hl
  refine lv_aload_n hx hb dX1_tellings_0 rfl (lv_at hl 0 rfl) ?_
  refine va_get (D := g.1) (ci := 1) (v := .int 0) (C := RX1) (T := TX1) (N := 14) hx hb hts fw_X1 hown hK hP 0 rfl rfl 13 (by decide) (hts _ q_173) (fun _ h9 => h9) rfl dX1_tellings_1 ?_
  exact rI X hK hP hD hS dX1_tellings_4 (by rfl) (Nat.le_of_ble_eq_true rfl) (Nat.le_of_ble_eq_true rfl) (by show ((_, _) : Int32 × va_W) = _; unfold sp_X1_tellings; try rfl)
def sp_X1_tellingsLeft (g : GG) (h0 : Nat) (h0a0 : Nat) (h0a1 : Nat) (h0a2 : Nat) (h0a3 : Nat) (h0a4 : Nat) (h0a5 : Nat) (h0a6 : Nat) (h0a7 : Nat) (h0a8 : Nat) (h0a9 : Nat) (h0a10 : Nat) (h0a11 : Nat) : Int32 × va_W := (100, [(h0, .inr (1, [.ref h0a0, .ref h0a1, .ref h0a2, .ref h0a3, .ref h0a4, .ref h0a5, .ref h0a6, .ref h0a7, .ref h0a8, .ref h0a9, .ref h0a10, .ref h0a11, .int 0, .int 0]))])
set_option maxHeartbeats 4000000 in
set_option maxRecDepth 100000 in
theorem c_X1_tellingsLeft (l : Launch) (g : GG) (h0 : Nat) (h0a0 : Nat) (h0a1 : Nat) (h0a2 : Nat) (h0a3 : Nat) (h0a4 : Nat) (h0a5 : Nat) (h0a6 : Nat) (h0a7 : Nat) (h0a8 : Nat) (h0a9 : Nat) (h0a10 : Nat) (h0a11 : Nat) : MI l g yX1_tellingsLeft cX1_tellingsLeft 1 (some .int) 0 0 0 0 [(h0, .inr (1, [.ref h0a0, .ref h0a1, .ref h0a2, .ref h0a3, .ref h0a4, .ref h0a5, .ref h0a6, .ref h0a7, .ref h0a8, .ref h0a9, .ref h0a10, .ref h0a11, .int 0, .int 0]))] [.ref h0] (fun rr_ ww_ => (rr_, ww_) = sp_X1_tellingsLeft g h0 h0a0 h0a1 h0a2 h0a3 h0a4 h0a5 h0a6 h0a7 h0a8 h0a9 h0a10 h0a11) := by
  refine met_of (fun A => va_Qi _ (bW g A) A) (by decide) (Nat.le_of_ble_eq_true rfl) ?_
  intro p e s m below meth c A ls X hK hP hD hA hZ hS hl
  have hx := X.1
  have hb := X.2.1
  have hml := X.2.2.1
  have hown := X.2.2.2.1
  have hts := X.2.2.2.2.1
  have hnm := X.2.2.2.2.2.2.2
  have hl : lv_has ls 1 [(0, .ref h0)] := hl
  refine lv_bipush (v := 100) hx hb dX1_tellingsLeft_0 (by decide) ?_
  refine lv_aload_n hx hb dX1_tellingsLeft_2 rfl (lv_at hl 0 rfl) ?_
  refine va_get (D := g.1) (ci := 1) (v := .int 0) (C := RX1) (T := TX1) (N := 14) hx hb hts fw_X1 hown hK hP 0 rfl rfl 13 (by decide) (hts _ q_173) (fun _ h9 => h9) rfl dX1_tellingsLeft_3 ?_
  refine lv_isub hx hb dX1_tellingsLeft_6 ?_
  refine lv_topk (v := 100) (by decide) ?_
  exact rI X hK hP hD hS dX1_tellingsLeft_7 (by rfl) (Nat.le_of_ble_eq_true rfl) (Nat.le_of_ble_eq_true rfl) (by show ((_, _) : Int32 × va_W) = _; unfold sp_X1_tellingsLeft; try rfl)
def sp_X1_exists (g : GG) (h0 : Nat) (b0 : Int32) (h0a0 : Nat) (h0a1 : Nat) (h0a2 : Nat) (h0a3 : Nat) (h0a4 : Nat) (h0a5 : Nat) (h0a6 : Nat) (h0a7 : Nat) (h0a8 : Nat) (h0a9 : Nat) (h0a10 : Nat) (h0a11 : Nat) : Int32 × va_W := if b0 < 0 then (0, [(h0, .inr (1, [.ref h0a0, .ref h0a1, .ref h0a2, .ref h0a3, .ref h0a4, .ref h0a5, .ref h0a6, .ref h0a7, .ref h0a8, .ref h0a9, .ref h0a10, .ref h0a11, .int 0, .int 0]))]) else (0, [(h0, .inr (1, [.ref h0a0, .ref h0a1, .ref h0a2, .ref h0a3, .ref h0a4, .ref h0a5, .ref h0a6, .ref h0a7, .ref h0a8, .ref h0a9, .ref h0a10, .ref h0a11, .int 0, .int 0]))])
set_option maxHeartbeats 4000000 in
set_option maxRecDepth 100000 in
theorem c_X1_exists (l : Launch) (g : GG) (h0 : Nat) (b0 : Int32) (h0a0 : Nat) (h0a1 : Nat) (h0a2 : Nat) (h0a3 : Nat) (h0a4 : Nat) (h0a5 : Nat) (h0a6 : Nat) (h0a7 : Nat) (h0a8 : Nat) (h0a9 : Nat) (h0a10 : Nat) (h0a11 : Nat) : MI l g yX1_exists cX1_exists 2 (some .boolean) 0 0 0 0 [(h0, .inr (1, [.ref h0a0, .ref h0a1, .ref h0a2, .ref h0a3, .ref h0a4, .ref h0a5, .ref h0a6, .ref h0a7, .ref h0a8, .ref h0a9, .ref h0a10, .ref h0a11, .int 0, .int 0]))] [.ref h0, .int b0] (fun rr_ ww_ => (rr_, ww_) = sp_X1_exists g h0 b0 h0a0 h0a1 h0a2 h0a3 h0a4 h0a5 h0a6 h0a7 h0a8 h0a9 h0a10 h0a11) := by
  refine met_of (fun A => va_Qi _ (bW g A) A) (by decide) (Nat.le_of_ble_eq_true rfl) ?_
  intro p e s m below meth c A ls X hK hP hD hA hZ hS hl
  have hx := X.1
  have hb := X.2.1
  have hml := X.2.2.1
  have hown := X.2.2.2.1
  have hts := X.2.2.2.2.1
  have hnm := X.2.2.2.2.2.2.2
  have hl : lv_has ls 2 [(0, .ref h0), (1, .int b0)] := hl
  refine lv_iload_n hx hb dX1_exists_0 rfl (lv_at hl 1 rfl) ?_
  refine lv_if_lt (tgt := 16) hx hb dX1_exists_1 (by decide) (fun c_1 => ?_) (fun c_1 => ?_)
  ·
    refine lv_iconst (v := 0) hx hb dX1_exists_16 (by decide) ?_
    exact rI X hK hP hD hS dX1_exists_17 (by rfl) (Nat.le_of_ble_eq_true rfl) (Nat.le_of_ble_eq_true rfl) (by show ((_, _) : Int32 × va_W) = _; unfold sp_X1_exists; rw [if_pos c_1]; try rfl)
  ·
    refine lv_iload_n hx hb dX1_exists_4 rfl (lv_at hl 1 rfl) ?_
    refine lv_aload_n hx hb dX1_exists_5 rfl (lv_at hl 0 rfl) ?_
    refine va_get (D := g.1) (ci := 1) (v := .int 0) (C := RX1) (T := TX1) (N := 14) hx hb hts fw_X1 hown hK hP 0 rfl rfl 12 (by decide) (hts _ q_172) (fun _ h9 => h9) rfl dX1_exists_6 ?_
    refine lv_icmp_ge (tgt := 16) hx hb dX1_exists_9 (by decide) (fun _ => ?_) (fun c_2 => (by simp only [i32lt, i32le, i32eq, Int32.reduceToInt] at c_1 c_2; omega : False).elim)
    refine lv_iconst (v := 0) hx hb dX1_exists_16 (by decide) ?_
    exact rI X hK hP hD hS dX1_exists_17 (by rfl) (Nat.le_of_ble_eq_true rfl) (Nat.le_of_ble_eq_true rfl) (by show ((_, _) : Int32 × va_W) = _; unfold sp_X1_exists; rw [if_neg c_1]; try rfl)
def sp_X1_standingOn (g : GG) (h0 : Nat) (c0 : Int32) (h0a0 : Nat) (h0a1 : Nat) (h0a2 : Nat) (h0a3 : Nat) (h0a4 : Nat) (h0a5 : Nat) (h0a6 : Nat) (h0a7 : Nat) (h0a8 : Nat) (h0a9 : Nat) (h0a10 : Nat) (h0a11 : Nat) : Int32 × va_W := ((-9), [(h0, .inr (1, [.ref h0a0, .ref h0a1, .ref h0a2, .ref h0a3, .ref h0a4, .ref h0a5, .ref h0a6, .ref h0a7, .ref h0a8, .ref h0a9, .ref h0a10, .ref h0a11, .int 0, .int 0])), (h0a7, .inl (cI g, 64, .inl (fun _ => (-9))))])
set_option maxHeartbeats 4000000 in
set_option maxRecDepth 100000 in
theorem c_X1_standingOn (l : Launch) (g : GG) (h0 : Nat) (c0 : Int32) (h0a0 : Nat) (h0a1 : Nat) (h0a2 : Nat) (h0a3 : Nat) (h0a4 : Nat) (h0a5 : Nat) (h0a6 : Nat) (h0a7 : Nat) (h0a8 : Nat) (h0a9 : Nat) (h0a10 : Nat) (h0a11 : Nat) (hc0 : ¬ (c0 < 0)) (hc6 : ¬ (64 ≤ c0)) : MI l g yX1_standingOn cX1_standingOn 2 (some .int) 0 0 0 0 [(h0, .inr (1, [.ref h0a0, .ref h0a1, .ref h0a2, .ref h0a3, .ref h0a4, .ref h0a5, .ref h0a6, .ref h0a7, .ref h0a8, .ref h0a9, .ref h0a10, .ref h0a11, .int 0, .int 0])), (h0a7, .inl (cI g, 64, .inl (fun _ => (-9))))] [.ref h0, .int c0] (fun rr_ ww_ => (rr_, ww_) = sp_X1_standingOn g h0 c0 h0a0 h0a1 h0a2 h0a3 h0a4 h0a5 h0a6 h0a7 h0a8 h0a9 h0a10 h0a11) := by
  refine met_of (fun A => va_Qi _ (bW g A) A) (by decide) (Nat.le_of_ble_eq_true rfl) ?_
  intro p e s m below meth c A ls X hK hP hD hA hZ hS hl
  have hx := X.1
  have hb := X.2.1
  have hml := X.2.2.1
  have hown := X.2.2.2.1
  have hts := X.2.2.2.2.1
  have hnm := X.2.2.2.2.2.2.2
  have hl : lv_has ls 2 [(0, .ref h0), (1, .int c0)] := hl
  refine lv_aload_n hx hb dX1_standingOn_0 rfl (lv_at hl 0 rfl) ?_
  refine va_get (D := g.1) (ci := 1) (v := .ref h0a7) (C := RX1) (T := TX1) (N := 14) hx hb hts fw_X1 hown hK hP 0 rfl rfl 7 (by decide) (hts _ q_167) (fun _ h9 => h9) rfl dX1_standingOn_1 ?_
  refine lv_iload_n hx hb dX1_standingOn_4 rfl (lv_at hl 1 rfl) ?_
  refine va_iald hx hb hK hP 1 0 rfl rfl (vp_in_iff.mpr (by simp only [i32lt, i32le, i32eq, Int32.reduceToInt] at hc0 hc6; omega)) dX1_standingOn_5 ?_
  refine lv_topk (v := (-9)) rfl ?_
  exact rI X hK hP hD hS dX1_standingOn_6 (by rfl) (Nat.le_of_ble_eq_true rfl) (Nat.le_of_ble_eq_true rfl) (by show ((_, _) : Int32 × va_W) = _; unfold sp_X1_standingOn; try rfl)
def sp_X5_number (g : GG) (h0 : Nat) (h0a0 : Nat) (h0a1 : Nat) (h0a2 : Nat) (h0a3 : Nat) : Int32 × va_W := (0, [(h0, .inr (5, [.ref h0a0, .ref h0a1, .ref h0a2, .ref h0a3, .int 0]))])
set_option maxHeartbeats 4000000 in
set_option maxRecDepth 100000 in
theorem c_X5_number (l : Launch) (g : GG) (h0 : Nat) (h0a0 : Nat) (h0a1 : Nat) (h0a2 : Nat) (h0a3 : Nat) : MI l g yX5_number cX5_number 1 (some .int) 0 0 0 0 [(h0, .inr (5, [.ref h0a0, .ref h0a1, .ref h0a2, .ref h0a3, .int 0]))] [.ref h0] (fun rr_ ww_ => (rr_, ww_) = sp_X5_number g h0 h0a0 h0a1 h0a2 h0a3) := by
  refine met_of (fun A => va_Qi _ (bW g A) A) (by decide) (Nat.le_of_ble_eq_true rfl) ?_
  intro p e s m below meth c A ls X hK hP hD hA hZ hS hl
  have hx := X.1
  have hb := X.2.1
  have hml := X.2.2.1
  have hown := X.2.2.2.1
  have hts := X.2.2.2.2.1
  have hnm := X.2.2.2.2.2.2.2
  have hl : lv_has ls 1 [(0, .ref h0)] := hl
  refine lv_aload_n hx hb dX5_number_0 rfl (lv_at hl 0 rfl) ?_
  refine va_get (D := g.1) (ci := 5) (v := .int 0) (C := RX5) (T := TX5) (N := 5) hx hb hts fw_X5 hown hK hP 0 rfl rfl 4 (by decide) (hts _ q_214) (fun _ h9 => h9) rfl dX5_number_1 ?_
  exact rI X hK hP hD hS dX5_number_4 (by rfl) (Nat.le_of_ble_eq_true rfl) (Nat.le_of_ble_eq_true rfl) (by show ((_, _) : Int32 × va_W) = _; unfold sp_X5_number; try rfl)
def sp_X5_exists (g : GG) (h0 : Nat) (b0 : Int32) (h0a0 : Nat) (h0a1 : Nat) (h0a2 : Nat) (h0a3 : Nat) : Int32 × va_W := if b0 < 0 then (0, [(h0, .inr (5, [.ref h0a0, .ref h0a1, .ref h0a2, .ref h0a3, .int 0]))]) else (0, [(h0, .inr (5, [.ref h0a0, .ref h0a1, .ref h0a2, .ref h0a3, .int 0]))])
set_option maxHeartbeats 4000000 in
set_option maxRecDepth 100000 in
theorem c_X5_exists (l : Launch) (g : GG) (h0 : Nat) (b0 : Int32) (h0a0 : Nat) (h0a1 : Nat) (h0a2 : Nat) (h0a3 : Nat) : MI l g yX5_exists cX5_exists 2 (some .boolean) 0 0 0 0 [(h0, .inr (5, [.ref h0a0, .ref h0a1, .ref h0a2, .ref h0a3, .int 0]))] [.ref h0, .int b0] (fun rr_ ww_ => (rr_, ww_) = sp_X5_exists g h0 b0 h0a0 h0a1 h0a2 h0a3) := by
  refine met_of (fun A => va_Qi _ (bW g A) A) (by decide) (Nat.le_of_ble_eq_true rfl) ?_
  intro p e s m below meth c A ls X hK hP hD hA hZ hS hl
  have hx := X.1
  have hb := X.2.1
  have hml := X.2.2.1
  have hown := X.2.2.2.1
  have hts := X.2.2.2.2.1
  have hnm := X.2.2.2.2.2.2.2
  have hl : lv_has ls 2 [(0, .ref h0), (1, .int b0)] := hl
  refine lv_iload_n hx hb dX5_exists_0 rfl (lv_at hl 1 rfl) ?_
  refine lv_if_lt (tgt := 16) hx hb dX5_exists_1 (by decide) (fun c_1 => ?_) (fun c_1 => ?_)
  ·
    refine lv_iconst (v := 0) hx hb dX5_exists_16 (by decide) ?_
    exact rI X hK hP hD hS dX5_exists_17 (by rfl) (Nat.le_of_ble_eq_true rfl) (Nat.le_of_ble_eq_true rfl) (by show ((_, _) : Int32 × va_W) = _; unfold sp_X5_exists; rw [if_pos c_1]; try rfl)
  ·
    refine lv_iload_n hx hb dX5_exists_4 rfl (lv_at hl 1 rfl) ?_
    refine lv_aload_n hx hb dX5_exists_5 rfl (lv_at hl 0 rfl) ?_
    refine va_get (D := g.1) (ci := 5) (v := .int 0) (C := RX5) (T := TX5) (N := 5) hx hb hts fw_X5 hown hK hP 0 rfl rfl 4 (by decide) (hts _ q_214) (fun _ h9 => h9) rfl dX5_exists_6 ?_
    refine lv_icmp_ge (tgt := 16) hx hb dX5_exists_9 (by decide) (fun _ => ?_) (fun c_2 => (by simp only [i32lt, i32le, i32eq, Int32.reduceToInt] at c_1 c_2; omega : False).elim)
    refine lv_iconst (v := 0) hx hb dX5_exists_16 (by decide) ?_
    exact rI X hK hP hD hS dX5_exists_17 (by rfl) (Nat.le_of_ble_eq_true rfl) (Nat.le_of_ble_eq_true rfl) (by show ((_, _) : Int32 × va_W) = _; unfold sp_X5_exists; rw [if_neg c_1]; try rfl)
def sp_X5_homeless (g : GG) (h0 : Nat) (h0a0 : Nat) (h0a1 : Nat) (h0a2 : Nat) (h0a3 : Nat) : Int32 × va_W := (0, [(h0, .inr (5, [.ref h0a0, .ref h0a1, .ref h0a2, .ref h0a3, .int 0]))])
set_option maxHeartbeats 4000000 in
set_option maxRecDepth 100000 in
theorem c_X5_homeless (l : Launch) (g : GG) (h0 : Nat) (h0a0 : Nat) (h0a1 : Nat) (h0a2 : Nat) (h0a3 : Nat) : MI l g yX5_homeless cX5_homeless 3 (some .int) 0 0 0 0 [(h0, .inr (5, [.ref h0a0, .ref h0a1, .ref h0a2, .ref h0a3, .int 0]))] [.ref h0] (fun rr_ ww_ => (rr_, ww_) = sp_X5_homeless g h0 h0a0 h0a1 h0a2 h0a3) := by
  refine met_of (fun A => va_Qi _ (bW g A) A) (by decide) (Nat.le_of_ble_eq_true rfl) ?_
  intro p e s m below meth c A ls X hK hP hD hA hZ hS hl
  have hx := X.1
  have hb := X.2.1
  have hml := X.2.2.1
  have hown := X.2.2.2.1
  have hts := X.2.2.2.2.1
  have hnm := X.2.2.2.2.2.2.2
  have hl : lv_has ls 3 [(0, .ref h0)] := hl
  refine lv_iconst (v := 0) hx hb dX5_homeless_0 (by decide) ?_
  refine lv_istore_n (lv' := [(1, .int 0), (0, .ref h0)]) hx hb dX5_homeless_1 rfl hl (by decide) rfl (fun ls hl => ?_)
  refine lv_iconst (v := 0) hx hb dX5_homeless_2 (by decide) ?_
  refine lv_istore_n (lv' := [(2, .int 0), (1, .int 0), (0, .ref h0)]) hx hb dX5_homeless_3 rfl hl (by decide) rfl (fun ls hl => ?_)
  refine lv_iload_n hx hb dX5_homeless_4 rfl (lv_at hl 0 rfl) ?_
  refine lv_aload_n hx hb dX5_homeless_5 rfl (lv_at hl 2 rfl) ?_
  refine va_get (D := g.1) (ci := 5) (v := .int 0) (C := RX5) (T := TX5) (N := 5) hx hb hts fw_X5 hown hK hP 0 rfl rfl 4 (by decide) (hts _ q_214) (fun _ h9 => h9) rfl dX5_homeless_6 ?_
  refine lv_icmp_ge (tgt := 32) hx hb dX5_homeless_9 (by decide) (fun _ => ?_) (fun c_1 => absurd (by decide) c_1)
  refine lv_iload_n hx hb dX5_homeless_32 rfl (lv_at hl 1 rfl) ?_
  exact rI X hK hP hD hS dX5_homeless_33 (by rfl) (Nat.le_of_ble_eq_true rfl) (Nat.le_of_ble_eq_true rfl) (by show ((_, _) : Int32 × va_W) = _; unfold sp_X5_homeless; try rfl)
def sp_X5_add (g : GG) (h0 : Nat) (w0 : Int32) (z0 : Int32) (k0 : Int32) (h0a0 : Nat) (h0a1 : Nat) (h0a2 : Nat) (h0a3 : Nat) : Int32 × va_W := (0, [(h0, .inr (5, [.ref h0a0, .ref h0a1, .ref h0a2, .ref h0a3, .int 1])), (h0a0, .inl (cI g, 40, .inl (upd (fun _ => 0) 0 (-9)))), (h0a1, .inl (cI g, 40, .inl (upd (fun _ => 0) 0 w0))), (h0a2, .inl (cZ g, 40, .inl (upd (fun _ => 0) 0 (vp_nar .boolean z0)))), (h0a3, .inl (cI g, 40, .inl (upd (fun _ => 0) 0 k0)))])
set_option maxHeartbeats 4000000 in
set_option maxRecDepth 100000 in
theorem c_X5_add (l : Launch) (g : GG) (h0 : Nat) (w0 : Int32) (z0 : Int32) (k0 : Int32) (h0a0 : Nat) (h0a1 : Nat) (h0a2 : Nat) (h0a3 : Nat) : MI l g yX5_add cX5_add 5 (some .int) 0 0 0 0 [(h0, .inr (5, [.ref h0a0, .ref h0a1, .ref h0a2, .ref h0a3, .int 0])), (h0a0, .inl (cI g, 40, .inl (fun _ => 0))), (h0a1, .inl (cI g, 40, .inl (fun _ => 0))), (h0a2, .inl (cZ g, 40, .inl (fun _ => 0))), (h0a3, .inl (cI g, 40, .inl (fun _ => 0)))] [.ref h0, .int w0, .int z0, .int k0] (fun rr_ ww_ => (rr_, ww_) = sp_X5_add g h0 w0 z0 k0 h0a0 h0a1 h0a2 h0a3) := by
  refine met_of (fun A => va_Qi _ (bW g A) A) (by decide) (Nat.le_of_ble_eq_true rfl) ?_
  intro p e s m below meth c A ls X hK hP hD hA hZ hS hl
  have hx := X.1
  have hb := X.2.1
  have hml := X.2.2.1
  have hown := X.2.2.2.1
  have hts := X.2.2.2.2.1
  have hnm := X.2.2.2.2.2.2.2
  have hl : lv_has ls 5 [(0, .ref h0), (1, .int w0), (2, .int z0), (3, .int k0)] := hl
  refine lv_aload_n hx hb dX5_add_0 rfl (lv_at hl 0 rfl) ?_
  refine va_get (D := g.1) (ci := 5) (v := .int 0) (C := RX5) (T := TX5) (N := 5) hx hb hts fw_X5 hown hK hP 0 rfl rfl 4 (by decide) (hts _ q_214) (fun _ h9 => h9) rfl dX5_add_1 ?_
  refine lv_istore (lv' := [(4, .int 0), (0, .ref h0), (1, .int w0), (2, .int z0), (3, .int k0)]) hx hb dX5_add_4 hl (by decide) rfl (fun ls hl => ?_)
  refine lv_aload_n hx hb dX5_add_6 rfl (lv_at hl 1 rfl) ?_
  refine lv_dup hx hb dX5_add_7 rfl ?_
  refine va_get (D := g.1) (ci := 5) (v := .int 0) (C := RX5) (T := TX5) (N := 5) hx hb hts fw_X5 hown hK hP 0 rfl rfl 4 (by decide) (hts _ q_214) (fun _ h9 => h9) rfl dX5_add_8 ?_
  refine lv_iconst (v := 1) hx hb dX5_add_11 (by decide) ?_
  refine lv_iadd hx hb dX5_add_12 ?_
  refine lv_topk (v := 1) (by decide) ?_
  refine va_put (D := g.1) (ci := 5) (v := .int 1) (ty := .int) (C := RX5) (T := TX5) (N := 5) hx hb hts fw_X5 tyX5 tyX5_ok nmX5 hown hK hP hD hS 0 rfl rfl 4 (by decide) (hts _ q_214) (fun _ h9 => h9) rfl (by decide +kernel) rfl rfl (Nat.le_of_ble_eq_true rfl) dX5_add_13 (fun H locs hP hD hS => ?_)
  have hP : va_P g.1 classes [(h0, .inr (5, [.ref h0a0, .ref h0a1, .ref h0a2, .ref h0a3, .int 1])), (h0a0, .inl (cI g, 40, .inl (fun _ => 0))), (h0a1, .inl (cI g, 40, .inl (fun _ => 0))), (h0a2, .inl (cZ g, 40, .inl (fun _ => 0))), (h0a3, .inl (cI g, 40, .inl (fun _ => 0)))] H := hP
  have hD : va_D A [(h0, .inr (5, [.ref h0a0, .ref h0a1, .ref h0a2, .ref h0a3, .int 1])), (h0a0, .inl (cI g, 40, .inl (fun _ => 0))), (h0a1, .inl (cI g, 40, .inl (fun _ => 0))), (h0a2, .inl (cZ g, 40, .inl (fun _ => 0))), (h0a3, .inl (cI g, 40, .inl (fun _ => 0)))] := hD
  refine lv_aload_n hx hb dX5_add_16 rfl (lv_at hl 1 rfl) ?_
  refine va_get (D := g.1) (ci := 5) (v := .ref h0a0) (C := RX5) (T := TX5) (N := 5) hx hb hts fw_X5 hown hK hP 0 rfl rfl 0 (by decide) (hts _ q_210) (fun _ h9 => h9) rfl dX5_add_17 ?_
  refine lv_iload hx hb dX5_add_20 (lv_at hl 0 rfl) ?_
  refine lv_bipush (v := (-9)) hx hb dX5_add_22 (by decide) ?_
  refine va_iast hx hb hK hP hD hS 1 0 rfl rfl (by unfold vp_in; decide) dX5_add_24 (fun H locs hP hD hS => ?_)
  have hP : va_P g.1 classes [(h0, .inr (5, [.ref h0a0, .ref h0a1, .ref h0a2, .ref h0a3, .int 1])), (h0a0, .inl (cI g, 40, .inl (upd (fun _ => 0) 0 (-9)))), (h0a1, .inl (cI g, 40, .inl (fun _ => 0))), (h0a2, .inl (cZ g, 40, .inl (fun _ => 0))), (h0a3, .inl (cI g, 40, .inl (fun _ => 0)))] H := hP
  have hD : va_D A [(h0, .inr (5, [.ref h0a0, .ref h0a1, .ref h0a2, .ref h0a3, .int 1])), (h0a0, .inl (cI g, 40, .inl (upd (fun _ => 0) 0 (-9)))), (h0a1, .inl (cI g, 40, .inl (fun _ => 0))), (h0a2, .inl (cZ g, 40, .inl (fun _ => 0))), (h0a3, .inl (cI g, 40, .inl (fun _ => 0)))] := hD
  refine lv_aload_n hx hb dX5_add_25 rfl (lv_at hl 1 rfl) ?_
  refine va_get (D := g.1) (ci := 5) (v := .ref h0a1) (C := RX5) (T := TX5) (N := 5) hx hb hts fw_X5 hown hK hP 0 rfl rfl 1 (by decide) (hts _ q_211) (fun _ h9 => h9) rfl dX5_add_26 ?_
  refine lv_iload hx hb dX5_add_29 (lv_at hl 0 rfl) ?_
  refine lv_iload_n hx hb dX5_add_31 rfl (lv_at hl 2 rfl) ?_
  refine va_iast hx hb hK hP hD hS 2 0 rfl rfl (by unfold vp_in; decide) dX5_add_32 (fun H locs hP hD hS => ?_)
  have hP : va_P g.1 classes [(h0, .inr (5, [.ref h0a0, .ref h0a1, .ref h0a2, .ref h0a3, .int 1])), (h0a0, .inl (cI g, 40, .inl (upd (fun _ => 0) 0 (-9)))), (h0a1, .inl (cI g, 40, .inl (upd (fun _ => 0) 0 w0))), (h0a2, .inl (cZ g, 40, .inl (fun _ => 0))), (h0a3, .inl (cI g, 40, .inl (fun _ => 0)))] H := hP
  have hD : va_D A [(h0, .inr (5, [.ref h0a0, .ref h0a1, .ref h0a2, .ref h0a3, .int 1])), (h0a0, .inl (cI g, 40, .inl (upd (fun _ => 0) 0 (-9)))), (h0a1, .inl (cI g, 40, .inl (upd (fun _ => 0) 0 w0))), (h0a2, .inl (cZ g, 40, .inl (fun _ => 0))), (h0a3, .inl (cI g, 40, .inl (fun _ => 0)))] := hD
  refine lv_aload_n hx hb dX5_add_33 rfl (lv_at hl 1 rfl) ?_
  refine va_get (D := g.1) (ci := 5) (v := .ref h0a2) (C := RX5) (T := TX5) (N := 5) hx hb hts fw_X5 hown hK hP 0 rfl rfl 2 (by decide) (hts _ q_212) (fun _ h9 => h9) rfl dX5_add_34 ?_
  refine lv_iload hx hb dX5_add_37 (lv_at hl 0 rfl) ?_
  refine lv_iload_n hx hb dX5_add_39 rfl (lv_at hl 3 rfl) ?_
  refine va_zast hx hb hK hP hD hS 3 2 rfl rfl (by unfold vp_in; decide) dX5_add_40 (fun H locs hP hD hS => ?_)
  have hP : va_P g.1 classes [(h0, .inr (5, [.ref h0a0, .ref h0a1, .ref h0a2, .ref h0a3, .int 1])), (h0a0, .inl (cI g, 40, .inl (upd (fun _ => 0) 0 (-9)))), (h0a1, .inl (cI g, 40, .inl (upd (fun _ => 0) 0 w0))), (h0a2, .inl (cZ g, 40, .inl (upd (fun _ => 0) 0 (vp_nar .boolean z0)))), (h0a3, .inl (cI g, 40, .inl (fun _ => 0)))] H := hP
  have hD : va_D A [(h0, .inr (5, [.ref h0a0, .ref h0a1, .ref h0a2, .ref h0a3, .int 1])), (h0a0, .inl (cI g, 40, .inl (upd (fun _ => 0) 0 (-9)))), (h0a1, .inl (cI g, 40, .inl (upd (fun _ => 0) 0 w0))), (h0a2, .inl (cZ g, 40, .inl (upd (fun _ => 0) 0 (vp_nar .boolean z0)))), (h0a3, .inl (cI g, 40, .inl (fun _ => 0)))] := hD
  refine lv_aload_n hx hb dX5_add_41 rfl (lv_at hl 1 rfl) ?_
  refine va_get (D := g.1) (ci := 5) (v := .ref h0a3) (C := RX5) (T := TX5) (N := 5) hx hb hts fw_X5 hown hK hP 0 rfl rfl 3 (by decide) (hts _ q_213) (fun _ h9 => h9) rfl dX5_add_42 ?_
  refine lv_iload hx hb dX5_add_45 (lv_at hl 0 rfl) ?_
  refine lv_iload_n hx hb dX5_add_47 rfl (lv_at hl 4 rfl) ?_
  refine va_iast hx hb hK hP hD hS 4 0 rfl rfl (by unfold vp_in; decide) dX5_add_48 (fun H locs hP hD hS => ?_)
  have hP : va_P g.1 classes [(h0, .inr (5, [.ref h0a0, .ref h0a1, .ref h0a2, .ref h0a3, .int 1])), (h0a0, .inl (cI g, 40, .inl (upd (fun _ => 0) 0 (-9)))), (h0a1, .inl (cI g, 40, .inl (upd (fun _ => 0) 0 w0))), (h0a2, .inl (cZ g, 40, .inl (upd (fun _ => 0) 0 (vp_nar .boolean z0)))), (h0a3, .inl (cI g, 40, .inl (upd (fun _ => 0) 0 k0)))] H := hP
  have hD : va_D A [(h0, .inr (5, [.ref h0a0, .ref h0a1, .ref h0a2, .ref h0a3, .int 1])), (h0a0, .inl (cI g, 40, .inl (upd (fun _ => 0) 0 (-9)))), (h0a1, .inl (cI g, 40, .inl (upd (fun _ => 0) 0 w0))), (h0a2, .inl (cZ g, 40, .inl (upd (fun _ => 0) 0 (vp_nar .boolean z0)))), (h0a3, .inl (cI g, 40, .inl (upd (fun _ => 0) 0 k0)))] := hD
  refine lv_iload hx hb dX5_add_49 (lv_at hl 0 rfl) ?_
  exact rI X hK hP hD hS dX5_add_51 (by rfl) (Nat.le_of_ble_eq_true rfl) (Nat.le_of_ble_eq_true rfl) (by show ((_, _) : Int32 × va_W) = _; unfold sp_X5_add; try rfl)
def sp_X7_number (g : GG) (h0 : Nat) (h0a0 : Nat) (h0a1 : Nat) (h0a2 : Nat) : Int32 × va_W := (0, [(h0, .inr (7, [.ref h0a0, .ref h0a1, .ref h0a2, .int 0]))])
set_option maxHeartbeats 4000000 in
set_option maxRecDepth 100000 in
theorem c_X7_number (l : Launch) (g : GG) (h0 : Nat) (h0a0 : Nat) (h0a1 : Nat) (h0a2 : Nat) : MI l g yX7_number cX7_number 1 (some .int) 0 0 0 0 [(h0, .inr (7, [.ref h0a0, .ref h0a1, .ref h0a2, .int 0]))] [.ref h0] (fun rr_ ww_ => (rr_, ww_) = sp_X7_number g h0 h0a0 h0a1 h0a2) := by
  refine met_of (fun A => va_Qi _ (bW g A) A) (by decide) (Nat.le_of_ble_eq_true rfl) ?_
  intro p e s m below meth c A ls X hK hP hD hA hZ hS hl
  have hx := X.1
  have hb := X.2.1
  have hml := X.2.2.1
  have hown := X.2.2.2.1
  have hts := X.2.2.2.2.1
  have hnm := X.2.2.2.2.2.2.2
  have hl : lv_has ls 1 [(0, .ref h0)] := hl
  refine lv_aload_n hx hb dX7_number_0 rfl (lv_at hl 0 rfl) ?_
  refine va_get (D := g.1) (ci := 7) (v := .int 0) (C := RX7) (T := TX7) (N := 4) hx hb hts fw_X7 hown hK hP 0 rfl rfl 3 (by decide) (hts _ q_235) (fun _ h9 => h9) rfl dX7_number_1 ?_
  exact rI X hK hP hD hS dX7_number_4 (by rfl) (Nat.le_of_ble_eq_true rfl) (Nat.le_of_ble_eq_true rfl) (by show ((_, _) : Int32 × va_W) = _; unfold sp_X7_number; try rfl)
def sp_X7_deciding (g : GG) (h0 : Nat) (l0 : Int32) (d0 : Int32) (k0 : Int32) (h0a0 : Nat) (h0a1 : Nat) (h0a2 : Nat) : Int32 × va_W := ((-9), [(h0, .inr (7, [.ref h0a0, .ref h0a1, .ref h0a2, .int 0]))])
set_option maxHeartbeats 4000000 in
set_option maxRecDepth 100000 in
theorem c_X7_deciding (l : Launch) (g : GG) (h0 : Nat) (l0 : Int32) (d0 : Int32) (k0 : Int32) (h0a0 : Nat) (h0a1 : Nat) (h0a2 : Nat) : MI l g yX7_deciding cX7_deciding 6 (some .int) 0 0 0 0 [(h0, .inr (7, [.ref h0a0, .ref h0a1, .ref h0a2, .int 0]))] [.ref h0, .int l0, .int d0, .int k0] (fun rr_ ww_ => (rr_, ww_) = sp_X7_deciding g h0 l0 d0 k0 h0a0 h0a1 h0a2) := by
  refine met_of (fun A => va_Qi _ (bW g A) A) (by decide) (Nat.le_of_ble_eq_true rfl) ?_
  intro p e s m below meth c A ls X hK hP hD hA hZ hS hl
  have hx := X.1
  have hb := X.2.1
  have hml := X.2.2.1
  have hown := X.2.2.2.1
  have hts := X.2.2.2.2.1
  have hnm := X.2.2.2.2.2.2.2
  have hl : lv_has ls 6 [(0, .ref h0), (1, .int l0), (2, .int d0), (3, .int k0)] := hl
  refine lv_bipush (v := (-9)) hx hb dX7_deciding_0 (by decide) ?_
  refine lv_istore (lv' := [(4, .int (-9)), (0, .ref h0), (1, .int l0), (2, .int d0), (3, .int k0)]) hx hb dX7_deciding_2 hl (by decide) rfl (fun ls hl => ?_)
  refine lv_iconst (v := 0) hx hb dX7_deciding_4 (by decide) ?_
  refine lv_istore (lv' := [(5, .int 0), (4, .int (-9)), (0, .ref h0), (1, .int l0), (2, .int d0), (3, .int k0)]) hx hb dX7_deciding_5 hl (by decide) rfl (fun ls hl => ?_)
  refine lv_iload hx hb dX7_deciding_7 (lv_at hl 0 rfl) ?_
  refine lv_aload_n hx hb dX7_deciding_9 rfl (lv_at hl 2 rfl) ?_
  refine va_get (D := g.1) (ci := 7) (v := .int 0) (C := RX7) (T := TX7) (N := 4) hx hb hts fw_X7 hown hK hP 0 rfl rfl 3 (by decide) (hts _ q_235) (fun _ h9 => h9) rfl dX7_deciding_10 ?_
  refine lv_icmp_ge (tgt := 94) hx hb dX7_deciding_13 (by decide) (fun _ => ?_) (fun c_1 => absurd (by decide) c_1)
  refine lv_iload hx hb dX7_deciding_94 (lv_at hl 1 rfl) ?_
  exact rI X hK hP hD hS dX7_deciding_96 (by rfl) (Nat.le_of_ble_eq_true rfl) (Nat.le_of_ble_eq_true rfl) (by show ((_, _) : Int32 × va_W) = _; unfold sp_X7_deciding; try rfl)
def sp_X4_number (g : GG) (h0 : Nat) (h0a0 : Nat) (h0a1 : Nat) (h0a2 : Nat) (h0a3 : Nat) (h0a4 : Nat) (h0a5 : Nat) (h0a6 : Nat) (h0a7 : Nat) (h0a8 : Nat) (h0a9 : Nat) (h0a10 : Nat) (h0a11 : Nat) (h0a12 : Nat) : Int32 × va_W := (0, [(h0, .inr (4, [.ref h0a0, .ref h0a1, .ref h0a2, .ref h0a3, .ref h0a4, .ref h0a5, .ref h0a6, .ref h0a7, .ref h0a8, .ref h0a9, .ref h0a10, .ref h0a11, .ref h0a12, .int 0]))])
set_option maxHeartbeats 4000000 in
set_option maxRecDepth 100000 in
theorem c_X4_number (l : Launch) (g : GG) (h0 : Nat) (h0a0 : Nat) (h0a1 : Nat) (h0a2 : Nat) (h0a3 : Nat) (h0a4 : Nat) (h0a5 : Nat) (h0a6 : Nat) (h0a7 : Nat) (h0a8 : Nat) (h0a9 : Nat) (h0a10 : Nat) (h0a11 : Nat) (h0a12 : Nat) : MI l g yX4_number cX4_number 1 (some .int) 0 0 0 0 [(h0, .inr (4, [.ref h0a0, .ref h0a1, .ref h0a2, .ref h0a3, .ref h0a4, .ref h0a5, .ref h0a6, .ref h0a7, .ref h0a8, .ref h0a9, .ref h0a10, .ref h0a11, .ref h0a12, .int 0]))] [.ref h0] (fun rr_ ww_ => (rr_, ww_) = sp_X4_number g h0 h0a0 h0a1 h0a2 h0a3 h0a4 h0a5 h0a6 h0a7 h0a8 h0a9 h0a10 h0a11 h0a12) := by
  refine met_of (fun A => va_Qi _ (bW g A) A) (by decide) (Nat.le_of_ble_eq_true rfl) ?_
  intro p e s m below meth c A ls X hK hP hD hA hZ hS hl
  have hx := X.1
  have hb := X.2.1
  have hml := X.2.2.1
  have hown := X.2.2.2.1
  have hts := X.2.2.2.2.1
  have hnm := X.2.2.2.2.2.2.2
  have hl : lv_has ls 1 [(0, .ref h0)] := hl
  refine lv_aload_n hx hb dX4_number_0 rfl (lv_at hl 0 rfl) ?_
  refine va_get (D := g.1) (ci := 4) (v := .int 0) (C := RX4) (T := TX4) (N := 14) hx hb hts fw_X4 hown hK hP 0 rfl rfl 13 (by decide) (hts _ q_264) (fun _ h9 => h9) rfl dX4_number_1 ?_
  exact rI X hK hP hD hS dX4_number_4 (by rfl) (Nat.le_of_ble_eq_true rfl) (Nat.le_of_ble_eq_true rfl) (by show ((_, _) : Int32 × va_W) = _; unfold sp_X4_number; try rfl)
def sp_X4_exists (g : GG) (h0 : Nat) (b0 : Int32) (h0a0 : Nat) (h0a1 : Nat) (h0a2 : Nat) (h0a3 : Nat) (h0a4 : Nat) (h0a5 : Nat) (h0a6 : Nat) (h0a7 : Nat) (h0a8 : Nat) (h0a9 : Nat) (h0a10 : Nat) (h0a11 : Nat) (h0a12 : Nat) : Int32 × va_W := if b0 < 0 then (0, [(h0, .inr (4, [.ref h0a0, .ref h0a1, .ref h0a2, .ref h0a3, .ref h0a4, .ref h0a5, .ref h0a6, .ref h0a7, .ref h0a8, .ref h0a9, .ref h0a10, .ref h0a11, .ref h0a12, .int 0]))]) else (0, [(h0, .inr (4, [.ref h0a0, .ref h0a1, .ref h0a2, .ref h0a3, .ref h0a4, .ref h0a5, .ref h0a6, .ref h0a7, .ref h0a8, .ref h0a9, .ref h0a10, .ref h0a11, .ref h0a12, .int 0]))])
set_option maxHeartbeats 4000000 in
set_option maxRecDepth 100000 in
theorem c_X4_exists (l : Launch) (g : GG) (h0 : Nat) (b0 : Int32) (h0a0 : Nat) (h0a1 : Nat) (h0a2 : Nat) (h0a3 : Nat) (h0a4 : Nat) (h0a5 : Nat) (h0a6 : Nat) (h0a7 : Nat) (h0a8 : Nat) (h0a9 : Nat) (h0a10 : Nat) (h0a11 : Nat) (h0a12 : Nat) : MI l g yX4_exists cX4_exists 2 (some .boolean) 0 0 0 0 [(h0, .inr (4, [.ref h0a0, .ref h0a1, .ref h0a2, .ref h0a3, .ref h0a4, .ref h0a5, .ref h0a6, .ref h0a7, .ref h0a8, .ref h0a9, .ref h0a10, .ref h0a11, .ref h0a12, .int 0]))] [.ref h0, .int b0] (fun rr_ ww_ => (rr_, ww_) = sp_X4_exists g h0 b0 h0a0 h0a1 h0a2 h0a3 h0a4 h0a5 h0a6 h0a7 h0a8 h0a9 h0a10 h0a11 h0a12) := by
  refine met_of (fun A => va_Qi _ (bW g A) A) (by decide) (Nat.le_of_ble_eq_true rfl) ?_
  intro p e s m below meth c A ls X hK hP hD hA hZ hS hl
  have hx := X.1
  have hb := X.2.1
  have hml := X.2.2.1
  have hown := X.2.2.2.1
  have hts := X.2.2.2.2.1
  have hnm := X.2.2.2.2.2.2.2
  have hl : lv_has ls 2 [(0, .ref h0), (1, .int b0)] := hl
  refine lv_iload_n hx hb dX4_exists_0 rfl (lv_at hl 1 rfl) ?_
  refine lv_if_lt (tgt := 16) hx hb dX4_exists_1 (by decide) (fun c_1 => ?_) (fun c_1 => ?_)
  ·
    refine lv_iconst (v := 0) hx hb dX4_exists_16 (by decide) ?_
    exact rI X hK hP hD hS dX4_exists_17 (by rfl) (Nat.le_of_ble_eq_true rfl) (Nat.le_of_ble_eq_true rfl) (by show ((_, _) : Int32 × va_W) = _; unfold sp_X4_exists; rw [if_pos c_1]; try rfl)
  ·
    refine lv_iload_n hx hb dX4_exists_4 rfl (lv_at hl 1 rfl) ?_
    refine lv_aload_n hx hb dX4_exists_5 rfl (lv_at hl 0 rfl) ?_
    refine va_get (D := g.1) (ci := 4) (v := .int 0) (C := RX4) (T := TX4) (N := 14) hx hb hts fw_X4 hown hK hP 0 rfl rfl 13 (by decide) (hts _ q_264) (fun _ h9 => h9) rfl dX4_exists_6 ?_
    refine lv_icmp_ge (tgt := 16) hx hb dX4_exists_9 (by decide) (fun _ => ?_) (fun c_2 => (by simp only [i32lt, i32le, i32eq, Int32.reduceToInt] at c_1 c_2; omega : False).elim)
    refine lv_iconst (v := 0) hx hb dX4_exists_16 (by decide) ?_
    exact rI X hK hP hD hS dX4_exists_17 (by rfl) (Nat.le_of_ble_eq_true rfl) (Nat.le_of_ble_eq_true rfl) (by show ((_, _) : Int32 × va_W) = _; unfold sp_X4_exists; rw [if_neg c_1]; try rfl)
def sp_X2_buys (g : GG) (h0 : Nat) (h0a0 : Nat) (h0a1 : Nat) (h0a2 : Nat) (h0a3 : Nat) (h0a4 : Nat) (h0a5 : Nat) : Int32 × va_W := (0, [(h0, .inr (2, [.ref h0a0, .ref h0a1, .ref h0a2, .ref h0a3, .ref h0a4, .ref h0a5, .int 0, .int 0]))])
set_option maxHeartbeats 4000000 in
set_option maxRecDepth 100000 in
theorem c_X2_buys (l : Launch) (g : GG) (h0 : Nat) (h0a0 : Nat) (h0a1 : Nat) (h0a2 : Nat) (h0a3 : Nat) (h0a4 : Nat) (h0a5 : Nat) : MI l g yX2_buys cX2_buys 1 (some .int) 0 0 0 0 [(h0, .inr (2, [.ref h0a0, .ref h0a1, .ref h0a2, .ref h0a3, .ref h0a4, .ref h0a5, .int 0, .int 0]))] [.ref h0] (fun rr_ ww_ => (rr_, ww_) = sp_X2_buys g h0 h0a0 h0a1 h0a2 h0a3 h0a4 h0a5) := by
  refine met_of (fun A => va_Qi _ (bW g A) A) (by decide) (Nat.le_of_ble_eq_true rfl) ?_
  intro p e s m below meth c A ls X hK hP hD hA hZ hS hl
  have hx := X.1
  have hb := X.2.1
  have hml := X.2.2.1
  have hown := X.2.2.2.1
  have hts := X.2.2.2.2.1
  have hnm := X.2.2.2.2.2.2.2
  have hl : lv_has ls 1 [(0, .ref h0)] := hl
  refine lv_aload_n hx hb dX2_buys_0 rfl (lv_at hl 0 rfl) ?_
  refine va_get (D := g.1) (ci := 2) (v := .int 0) (C := RX2) (T := TX2) (N := 8) hx hb hts fw_X2 hown hK hP 0 rfl rfl 6 (by decide) (hts _ q_307) (fun _ h9 => h9) rfl dX2_buys_1 ?_
  exact rI X hK hP hD hS dX2_buys_4 (by rfl) (Nat.le_of_ble_eq_true rfl) (Nat.le_of_ble_eq_true rfl) (by show ((_, _) : Int32 × va_W) = _; unfold sp_X2_buys; try rfl)
def sp_X0_exists (g : GG) (h0 : Nat) (b0 : Int32) (h0a2 : Nat) (h0a3 : Nat) (h0a4 : Nat) (h0a5 : Nat) : Int32 × va_W := if b0 < 0 then (0, [(h0, .inr (0, [.int 0, .int 0, .ref h0a2, .ref h0a3, .ref h0a4, .ref h0a5]))]) else (0, [(h0, .inr (0, [.int 0, .int 0, .ref h0a2, .ref h0a3, .ref h0a4, .ref h0a5]))])
set_option maxHeartbeats 4000000 in
set_option maxRecDepth 100000 in
theorem c_X0_exists (l : Launch) (g : GG) (h0 : Nat) (b0 : Int32) (h0a2 : Nat) (h0a3 : Nat) (h0a4 : Nat) (h0a5 : Nat) : MI l g yX0_exists cX0_exists 2 (some .boolean) 0 0 0 0 [(h0, .inr (0, [.int 0, .int 0, .ref h0a2, .ref h0a3, .ref h0a4, .ref h0a5]))] [.ref h0, .int b0] (fun rr_ ww_ => (rr_, ww_) = sp_X0_exists g h0 b0 h0a2 h0a3 h0a4 h0a5) := by
  refine met_of (fun A => va_Qi _ (bW g A) A) (by decide) (Nat.le_of_ble_eq_true rfl) ?_
  intro p e s m below meth c A ls X hK hP hD hA hZ hS hl
  have hx := X.1
  have hb := X.2.1
  have hml := X.2.2.1
  have hown := X.2.2.2.1
  have hts := X.2.2.2.2.1
  have hnm := X.2.2.2.2.2.2.2
  have hl : lv_has ls 2 [(0, .ref h0), (1, .int b0)] := hl
  refine lv_iload_n hx hb dX0_exists_0 rfl (lv_at hl 1 rfl) ?_
  refine lv_if_lt (tgt := 16) hx hb dX0_exists_1 (by decide) (fun c_1 => ?_) (fun c_1 => ?_)
  ·
    refine lv_iconst (v := 0) hx hb dX0_exists_16 (by decide) ?_
    exact rI X hK hP hD hS dX0_exists_17 (by rfl) (Nat.le_of_ble_eq_true rfl) (Nat.le_of_ble_eq_true rfl) (by show ((_, _) : Int32 × va_W) = _; unfold sp_X0_exists; rw [if_pos c_1]; try rfl)
  ·
    refine lv_iload_n hx hb dX0_exists_4 rfl (lv_at hl 1 rfl) ?_
    refine lv_aload_n hx hb dX0_exists_5 rfl (lv_at hl 0 rfl) ?_
    refine va_get (D := g.1) (ci := 0) (v := .int 0) (C := RX0) (T := TX0) (N := 6) hx hb hts fw_X0 hown hK hP 0 rfl rfl 0 (by decide) (hts _ q_412) (fun _ h9 => h9) rfl dX0_exists_6 ?_
    refine lv_icmp_ge (tgt := 16) hx hb dX0_exists_9 (by decide) (fun _ => ?_) (fun c_2 => (by simp only [i32lt, i32le, i32eq, Int32.reduceToInt] at c_1 c_2; omega : False).elim)
    refine lv_iconst (v := 0) hx hb dX0_exists_16 (by decide) ?_
    exact rI X hK hP hD hS dX0_exists_17 (by rfl) (Nat.le_of_ble_eq_true rfl) (Nat.le_of_ble_eq_true rfl) (by show ((_, _) : Int32 × va_W) = _; unfold sp_X0_exists; rw [if_neg c_1]; try rfl)
def sp_X3_isWater (g : GG) (h0 : Nat) (c0 : Int32) (h0s : Nat) (h0h : Nat) : Int32 × va_W := (0, [(h0, .inr (3, [.ref h0s, .ref h0h])), (h0s, .inl (cI g, 64, .inl (fun _ => 0)))])
set_option maxHeartbeats 4000000 in
set_option maxRecDepth 100000 in
theorem c_X3_isWater (l : Launch) (g : GG) (h0 : Nat) (c0 : Int32) (h0s : Nat) (h0h : Nat) (hc0 : ¬ (c0 < 0)) (hc6 : ¬ (64 ≤ c0)) : MI l g yX3_isWater cX3_isWater 2 (some .boolean) 0 0 0 0 [(h0, .inr (3, [.ref h0s, .ref h0h])), (h0s, .inl (cI g, 64, .inl (fun _ => 0)))] [.ref h0, .int c0] (fun rr_ ww_ => (rr_, ww_) = sp_X3_isWater g h0 c0 h0s h0h) := by
  refine met_of (fun A => va_Qi _ (bW g A) A) (by decide) (Nat.le_of_ble_eq_true rfl) ?_
  intro p e s m below meth c A ls X hK hP hD hA hZ hS hl
  have hx := X.1
  have hb := X.2.1
  have hml := X.2.2.1
  have hown := X.2.2.2.1
  have hts := X.2.2.2.2.1
  have hnm := X.2.2.2.2.2.2.2
  have hl : lv_has ls 2 [(0, .ref h0), (1, .int c0)] := hl
  refine lv_aload_n hx hb dX3_isWater_0 rfl (lv_at hl 0 rfl) ?_
  refine va_get (D := g.1) (ci := 3) (v := .ref h0s) (C := RX3) (T := TX3) (N := 2) hx hb hts fw_X3 hown hK hP 0 rfl rfl 0 (by decide) (hts _ q_146) (fun _ h9 => h9) rfl dX3_isWater_1 ?_
  refine lv_iload_n hx hb dX3_isWater_4 rfl (lv_at hl 1 rfl) ?_
  refine va_iald hx hb hK hP 1 0 rfl rfl (vp_in_iff.mpr (by simp only [i32lt, i32le, i32eq, Int32.reduceToInt] at hc0 hc6; omega)) dX3_isWater_5 ?_
  refine lv_topk (v := 0) rfl ?_
  refine lv_iconst (v := 4) hx hb dX3_isWater_6 (by decide) ?_
  refine lv_icmp_ne (tgt := 14) hx hb dX3_isWater_7 (by decide) (fun _ => ?_) (fun c_1 => absurd c_1 (by decide))
  refine lv_iconst (v := 0) hx hb dX3_isWater_14 (by decide) ?_
  exact rI X hK hP hD hS dX3_isWater_15 (by rfl) (Nat.le_of_ble_eq_true rfl) (Nat.le_of_ble_eq_true rfl) (by show ((_, _) : Int32 × va_W) = _; unfold sp_X3_isWater; try rfl)
def sp_X3_change (g : GG) (h0 : Nat) (c0 : Int32) (s0 : Int32) (e0 : Int32) (h0s : Nat) (h0h : Nat) : va_W := [(h0, .inr (3, [.ref h0s, .ref h0h])), (h0s, .inl (cI g, 64, .inl (upd (fun _ => 0) (c0).toNatClampNeg s0))), (h0h, .inl (cI g, 64, .inl (upd (fun _ => 0) (c0).toNatClampNeg e0)))]
set_option maxHeartbeats 4000000 in
set_option maxRecDepth 100000 in
theorem c_X3_change (l : Launch) (g : GG) (h0 : Nat) (c0 : Int32) (s0 : Int32) (e0 : Int32) (h0s : Nat) (h0h : Nat) (hc0 : ¬ (c0 < 0)) (hc6 : ¬ (64 ≤ c0)) : MV l g yX3_change cX3_change 4 0 0 0 0 [(h0, .inr (3, [.ref h0s, .ref h0h])), (h0s, .inl (cI g, 64, .inl (fun _ => 0))), (h0h, .inl (cI g, 64, .inl (fun _ => 0)))] [.ref h0, .int c0, .int s0, .int e0] (fun ww_ => ww_ = sp_X3_change g h0 c0 s0 e0 h0s h0h) := by
  refine met_of (fun A => va_Qv _ (bW g A) A) (by decide) (Nat.le_of_ble_eq_true rfl) ?_
  intro p e s m below meth c A ls X hK hP hD hA hZ hS hl
  have hx := X.1
  have hb := X.2.1
  have hml := X.2.2.1
  have hown := X.2.2.2.1
  have hts := X.2.2.2.2.1
  have hnm := X.2.2.2.2.2.2.2
  have hl : lv_has ls 4 [(0, .ref h0), (1, .int c0), (2, .int s0), (3, .int e0)] := hl
  refine lv_aload_n hx hb dX3_change_0 rfl (lv_at hl 0 rfl) ?_
  refine va_get (D := g.1) (ci := 3) (v := .ref h0s) (C := RX3) (T := TX3) (N := 2) hx hb hts fw_X3 hown hK hP 0 rfl rfl 0 (by decide) (hts _ q_146) (fun _ h9 => h9) rfl dX3_change_1 ?_
  refine lv_iload_n hx hb dX3_change_4 rfl (lv_at hl 1 rfl) ?_
  refine lv_iload_n hx hb dX3_change_5 rfl (lv_at hl 2 rfl) ?_
  refine va_iast hx hb hK hP hD hS 1 0 rfl rfl (vp_in_iff.mpr (by simp only [i32lt, i32le, i32eq, Int32.reduceToInt] at hc0 hc6; omega)) dX3_change_6 (fun H locs hP hD hS => ?_)
  have hP : va_P g.1 classes [(h0, .inr (3, [.ref h0s, .ref h0h])), (h0s, .inl (cI g, 64, .inl (upd (fun _ => 0) (c0).toNatClampNeg s0))), (h0h, .inl (cI g, 64, .inl (fun _ => 0)))] H := hP
  have hD : va_D A [(h0, .inr (3, [.ref h0s, .ref h0h])), (h0s, .inl (cI g, 64, .inl (upd (fun _ => 0) (c0).toNatClampNeg s0))), (h0h, .inl (cI g, 64, .inl (fun _ => 0)))] := hD
  refine lv_aload_n hx hb dX3_change_7 rfl (lv_at hl 0 rfl) ?_
  refine va_get (D := g.1) (ci := 3) (v := .ref h0h) (C := RX3) (T := TX3) (N := 2) hx hb hts fw_X3 hown hK hP 0 rfl rfl 1 (by decide) (hts _ q_147) (fun _ h9 => h9) rfl dX3_change_8 ?_
  refine lv_iload_n hx hb dX3_change_11 rfl (lv_at hl 1 rfl) ?_
  refine lv_iload_n hx hb dX3_change_12 rfl (lv_at hl 3 rfl) ?_
  refine va_iast hx hb hK hP hD hS 2 0 rfl rfl (vp_in_iff.mpr (by simp only [i32lt, i32le, i32eq, Int32.reduceToInt] at hc0 hc6; omega)) dX3_change_13 (fun H locs hP hD hS => ?_)
  have hP : va_P g.1 classes [(h0, .inr (3, [.ref h0s, .ref h0h])), (h0s, .inl (cI g, 64, .inl (upd (fun _ => 0) (c0).toNatClampNeg s0))), (h0h, .inl (cI g, 64, .inl (upd (fun _ => 0) (c0).toNatClampNeg e0)))] H := hP
  have hD : va_D A [(h0, .inr (3, [.ref h0s, .ref h0h])), (h0s, .inl (cI g, 64, .inl (upd (fun _ => 0) (c0).toNatClampNeg s0))), (h0h, .inl (cI g, 64, .inl (upd (fun _ => 0) (c0).toNatClampNeg e0)))] := hD
  exact rV X hK hP hD hS dX3_change_14 (Nat.le_of_ble_eq_true rfl) (Nat.le_of_ble_eq_true rfl) (by show (_ : va_W) = _; unfold sp_X3_change; try rfl)
def sp_X4_add (g : GG) (h0 : Nat) (k0 : Int32) (d0 : Int32) (o0 : Int32) (h0a0 : Nat) (h0a1 : Nat) (h0a2 : Nat) (h0a3 : Nat) (h0a4 : Nat) (h0a5 : Nat) (h0a6 : Nat) (h0a7 : Nat) (h0a8 : Nat) (h0a9 : Nat) (h0a10 : Nat) (h0a11 : Nat) (h0a12 : Nat) : Int32 × va_W := (0, [(h0, .inr (4, [.ref h0a0, .ref h0a1, .ref h0a2, .ref h0a3, .ref h0a4, .ref h0a5, .ref h0a6, .ref h0a7, .ref h0a8, .ref h0a9, .ref h0a10, .ref h0a11, .ref h0a12, .int 1])), (h0a0, .inl (cI g, 24, .inl (upd (fun _ => 0) 0 k0))), (h0a1, .inl (cI g, 24, .inl (upd (fun _ => 0) 0 d0))), (h0a2, .inl (cI g, 24, .inl (upd (fun _ => 0) 0 o0))), (h0a7, .inl (cI g, 24, .inl (upd (fun _ => 0) 0 (-9))))])
set_option maxHeartbeats 4000000 in
set_option maxRecDepth 100000 in
theorem c_X4_add (l : Launch) (g : GG) (h0 : Nat) (k0 : Int32) (d0 : Int32) (o0 : Int32) (h0a0 : Nat) (h0a1 : Nat) (h0a2 : Nat) (h0a3 : Nat) (h0a4 : Nat) (h0a5 : Nat) (h0a6 : Nat) (h0a7 : Nat) (h0a8 : Nat) (h0a9 : Nat) (h0a10 : Nat) (h0a11 : Nat) (h0a12 : Nat) : MI l g yX4_add cX4_add 5 (some .int) 0 0 0 0 [(h0, .inr (4, [.ref h0a0, .ref h0a1, .ref h0a2, .ref h0a3, .ref h0a4, .ref h0a5, .ref h0a6, .ref h0a7, .ref h0a8, .ref h0a9, .ref h0a10, .ref h0a11, .ref h0a12, .int 0])), (h0a0, .inl (cI g, 24, .inl (fun _ => 0))), (h0a1, .inl (cI g, 24, .inl (fun _ => 0))), (h0a2, .inl (cI g, 24, .inl (fun _ => 0))), (h0a7, .inl (cI g, 24, .inl (fun _ => 0)))] [.ref h0, .int k0, .int d0, .int o0] (fun rr_ ww_ => (rr_, ww_) = sp_X4_add g h0 k0 d0 o0 h0a0 h0a1 h0a2 h0a3 h0a4 h0a5 h0a6 h0a7 h0a8 h0a9 h0a10 h0a11 h0a12) := by
  refine met_of (fun A => va_Qi _ (bW g A) A) (by decide) (Nat.le_of_ble_eq_true rfl) ?_
  intro p e s m below meth c A ls X hK hP hD hA hZ hS hl
  have hx := X.1
  have hb := X.2.1
  have hml := X.2.2.1
  have hown := X.2.2.2.1
  have hts := X.2.2.2.2.1
  have hnm := X.2.2.2.2.2.2.2
  have hl : lv_has ls 5 [(0, .ref h0), (1, .int k0), (2, .int d0), (3, .int o0)] := hl
  refine lv_aload_n hx hb dX4_add_0 rfl (lv_at hl 0 rfl) ?_
  refine va_get (D := g.1) (ci := 4) (v := .int 0) (C := RX4) (T := TX4) (N := 14) hx hb hts fw_X4 hown hK hP 0 rfl rfl 13 (by decide) (hts _ q_264) (fun _ h9 => h9) rfl dX4_add_1 ?_
  refine lv_istore (lv' := [(4, .int 0), (0, .ref h0), (1, .int k0), (2, .int d0), (3, .int o0)]) hx hb dX4_add_4 hl (by decide) rfl (fun ls hl => ?_)
  refine lv_aload_n hx hb dX4_add_6 rfl (lv_at hl 1 rfl) ?_
  refine lv_dup hx hb dX4_add_7 rfl ?_
  refine va_get (D := g.1) (ci := 4) (v := .int 0) (C := RX4) (T := TX4) (N := 14) hx hb hts fw_X4 hown hK hP 0 rfl rfl 13 (by decide) (hts _ q_264) (fun _ h9 => h9) rfl dX4_add_8 ?_
  refine lv_iconst (v := 1) hx hb dX4_add_11 (by decide) ?_
  refine lv_iadd hx hb dX4_add_12 ?_
  refine lv_topk (v := 1) (by decide) ?_
  refine va_put (D := g.1) (ci := 4) (v := .int 1) (ty := .int) (C := RX4) (T := TX4) (N := 14) hx hb hts fw_X4 tyX4 tyX4_ok nmX4 hown hK hP hD hS 0 rfl rfl 13 (by decide) (hts _ q_264) (fun _ h9 => h9) rfl (by decide +kernel) rfl rfl (Nat.le_of_ble_eq_true rfl) dX4_add_13 (fun H locs hP hD hS => ?_)
  have hP : va_P g.1 classes [(h0, .inr (4, [.ref h0a0, .ref h0a1, .ref h0a2, .ref h0a3, .ref h0a4, .ref h0a5, .ref h0a6, .ref h0a7, .ref h0a8, .ref h0a9, .ref h0a10, .ref h0a11, .ref h0a12, .int 1])), (h0a0, .inl (cI g, 24, .inl (fun _ => 0))), (h0a1, .inl (cI g, 24, .inl (fun _ => 0))), (h0a2, .inl (cI g, 24, .inl (fun _ => 0))), (h0a7, .inl (cI g, 24, .inl (fun _ => 0)))] H := hP
  have hD : va_D A [(h0, .inr (4, [.ref h0a0, .ref h0a1, .ref h0a2, .ref h0a3, .ref h0a4, .ref h0a5, .ref h0a6, .ref h0a7, .ref h0a8, .ref h0a9, .ref h0a10, .ref h0a11, .ref h0a12, .int 1])), (h0a0, .inl (cI g, 24, .inl (fun _ => 0))), (h0a1, .inl (cI g, 24, .inl (fun _ => 0))), (h0a2, .inl (cI g, 24, .inl (fun _ => 0))), (h0a7, .inl (cI g, 24, .inl (fun _ => 0)))] := hD
  refine lv_aload_n hx hb dX4_add_16 rfl (lv_at hl 1 rfl) ?_
  refine va_get (D := g.1) (ci := 4) (v := .ref h0a0) (C := RX4) (T := TX4) (N := 14) hx hb hts fw_X4 hown hK hP 0 rfl rfl 0 (by decide) (hts _ q_251) (fun _ h9 => h9) rfl dX4_add_17 ?_
  refine lv_iload hx hb dX4_add_20 (lv_at hl 0 rfl) ?_
  refine lv_iload_n hx hb dX4_add_22 rfl (lv_at hl 2 rfl) ?_
  refine va_iast hx hb hK hP hD hS 1 0 rfl rfl (by unfold vp_in; decide) dX4_add_23 (fun H locs hP hD hS => ?_)
  have hP : va_P g.1 classes [(h0, .inr (4, [.ref h0a0, .ref h0a1, .ref h0a2, .ref h0a3, .ref h0a4, .ref h0a5, .ref h0a6, .ref h0a7, .ref h0a8, .ref h0a9, .ref h0a10, .ref h0a11, .ref h0a12, .int 1])), (h0a0, .inl (cI g, 24, .inl (upd (fun _ => 0) 0 k0))), (h0a1, .inl (cI g, 24, .inl (fun _ => 0))), (h0a2, .inl (cI g, 24, .inl (fun _ => 0))), (h0a7, .inl (cI g, 24, .inl (fun _ => 0)))] H := hP
  have hD : va_D A [(h0, .inr (4, [.ref h0a0, .ref h0a1, .ref h0a2, .ref h0a3, .ref h0a4, .ref h0a5, .ref h0a6, .ref h0a7, .ref h0a8, .ref h0a9, .ref h0a10, .ref h0a11, .ref h0a12, .int 1])), (h0a0, .inl (cI g, 24, .inl (upd (fun _ => 0) 0 k0))), (h0a1, .inl (cI g, 24, .inl (fun _ => 0))), (h0a2, .inl (cI g, 24, .inl (fun _ => 0))), (h0a7, .inl (cI g, 24, .inl (fun _ => 0)))] := hD
  refine lv_aload_n hx hb dX4_add_24 rfl (lv_at hl 1 rfl) ?_
  refine va_get (D := g.1) (ci := 4) (v := .ref h0a1) (C := RX4) (T := TX4) (N := 14) hx hb hts fw_X4 hown hK hP 0 rfl rfl 1 (by decide) (hts _ q_252) (fun _ h9 => h9) rfl dX4_add_25 ?_
  refine lv_iload hx hb dX4_add_28 (lv_at hl 0 rfl) ?_
  refine lv_iload_n hx hb dX4_add_30 rfl (lv_at hl 3 rfl) ?_
  refine va_iast hx hb hK hP hD hS 2 0 rfl rfl (by unfold vp_in; decide) dX4_add_31 (fun H locs hP hD hS => ?_)
  have hP : va_P g.1 classes [(h0, .inr (4, [.ref h0a0, .ref h0a1, .ref h0a2, .ref h0a3, .ref h0a4, .ref h0a5, .ref h0a6, .ref h0a7, .ref h0a8, .ref h0a9, .ref h0a10, .ref h0a11, .ref h0a12, .int 1])), (h0a0, .inl (cI g, 24, .inl (upd (fun _ => 0) 0 k0))), (h0a1, .inl (cI g, 24, .inl (upd (fun _ => 0) 0 d0))), (h0a2, .inl (cI g, 24, .inl (fun _ => 0))), (h0a7, .inl (cI g, 24, .inl (fun _ => 0)))] H := hP
  have hD : va_D A [(h0, .inr (4, [.ref h0a0, .ref h0a1, .ref h0a2, .ref h0a3, .ref h0a4, .ref h0a5, .ref h0a6, .ref h0a7, .ref h0a8, .ref h0a9, .ref h0a10, .ref h0a11, .ref h0a12, .int 1])), (h0a0, .inl (cI g, 24, .inl (upd (fun _ => 0) 0 k0))), (h0a1, .inl (cI g, 24, .inl (upd (fun _ => 0) 0 d0))), (h0a2, .inl (cI g, 24, .inl (fun _ => 0))), (h0a7, .inl (cI g, 24, .inl (fun _ => 0)))] := hD
  refine lv_aload_n hx hb dX4_add_32 rfl (lv_at hl 1 rfl) ?_
  refine va_get (D := g.1) (ci := 4) (v := .ref h0a2) (C := RX4) (T := TX4) (N := 14) hx hb hts fw_X4 hown hK hP 0 rfl rfl 2 (by decide) (hts _ q_253) (fun _ h9 => h9) rfl dX4_add_33 ?_
  refine lv_iload hx hb dX4_add_36 (lv_at hl 0 rfl) ?_
  refine lv_iload_n hx hb dX4_add_38 rfl (lv_at hl 4 rfl) ?_
  refine va_iast hx hb hK hP hD hS 3 0 rfl rfl (by unfold vp_in; decide) dX4_add_39 (fun H locs hP hD hS => ?_)
  have hP : va_P g.1 classes [(h0, .inr (4, [.ref h0a0, .ref h0a1, .ref h0a2, .ref h0a3, .ref h0a4, .ref h0a5, .ref h0a6, .ref h0a7, .ref h0a8, .ref h0a9, .ref h0a10, .ref h0a11, .ref h0a12, .int 1])), (h0a0, .inl (cI g, 24, .inl (upd (fun _ => 0) 0 k0))), (h0a1, .inl (cI g, 24, .inl (upd (fun _ => 0) 0 d0))), (h0a2, .inl (cI g, 24, .inl (upd (fun _ => 0) 0 o0))), (h0a7, .inl (cI g, 24, .inl (fun _ => 0)))] H := hP
  have hD : va_D A [(h0, .inr (4, [.ref h0a0, .ref h0a1, .ref h0a2, .ref h0a3, .ref h0a4, .ref h0a5, .ref h0a6, .ref h0a7, .ref h0a8, .ref h0a9, .ref h0a10, .ref h0a11, .ref h0a12, .int 1])), (h0a0, .inl (cI g, 24, .inl (upd (fun _ => 0) 0 k0))), (h0a1, .inl (cI g, 24, .inl (upd (fun _ => 0) 0 d0))), (h0a2, .inl (cI g, 24, .inl (upd (fun _ => 0) 0 o0))), (h0a7, .inl (cI g, 24, .inl (fun _ => 0)))] := hD
  refine lv_aload_n hx hb dX4_add_40 rfl (lv_at hl 1 rfl) ?_
  refine va_get (D := g.1) (ci := 4) (v := .ref h0a7) (C := RX4) (T := TX4) (N := 14) hx hb hts fw_X4 hown hK hP 0 rfl rfl 7 (by decide) (hts _ q_258) (fun _ h9 => h9) rfl dX4_add_41 ?_
  refine lv_iload hx hb dX4_add_44 (lv_at hl 0 rfl) ?_
  refine lv_bipush (v := (-9)) hx hb dX4_add_46 (by decide) ?_
  refine va_iast hx hb hK hP hD hS 4 0 rfl rfl (by unfold vp_in; decide) dX4_add_48 (fun H locs hP hD hS => ?_)
  have hP : va_P g.1 classes [(h0, .inr (4, [.ref h0a0, .ref h0a1, .ref h0a2, .ref h0a3, .ref h0a4, .ref h0a5, .ref h0a6, .ref h0a7, .ref h0a8, .ref h0a9, .ref h0a10, .ref h0a11, .ref h0a12, .int 1])), (h0a0, .inl (cI g, 24, .inl (upd (fun _ => 0) 0 k0))), (h0a1, .inl (cI g, 24, .inl (upd (fun _ => 0) 0 d0))), (h0a2, .inl (cI g, 24, .inl (upd (fun _ => 0) 0 o0))), (h0a7, .inl (cI g, 24, .inl (upd (fun _ => 0) 0 (-9))))] H := hP
  have hD : va_D A [(h0, .inr (4, [.ref h0a0, .ref h0a1, .ref h0a2, .ref h0a3, .ref h0a4, .ref h0a5, .ref h0a6, .ref h0a7, .ref h0a8, .ref h0a9, .ref h0a10, .ref h0a11, .ref h0a12, .int 1])), (h0a0, .inl (cI g, 24, .inl (upd (fun _ => 0) 0 k0))), (h0a1, .inl (cI g, 24, .inl (upd (fun _ => 0) 0 d0))), (h0a2, .inl (cI g, 24, .inl (upd (fun _ => 0) 0 o0))), (h0a7, .inl (cI g, 24, .inl (upd (fun _ => 0) 0 (-9))))] := hD
  refine lv_iload hx hb dX4_add_49 (lv_at hl 0 rfl) ?_
  exact rI X hK hP hD hS dX4_add_51 (by rfl) (Nat.le_of_ble_eq_true rfl) (Nat.le_of_ble_eq_true rfl) (by show ((_, _) : Int32 × va_W) = _; unfold sp_X4_add; try rfl)
