set_option maxRecDepth 200000 in
theorem w_172 : Cond.fieldLink "CityRoad$Buildings" 58 "CityRoad$Buildings" "number" "I" ∈ tb := tb_mem 172 (by decide +kernel) rfl
set_option maxRecDepth 200000 in
theorem w_160 : Cond.fieldLink "CityRoad$Buildings" 11 "CityRoad$Buildings" "cells" "[I" ∈ tb := tb_mem 160 (by decide +kernel) rfl
set_option maxRecDepth 200000 in
theorem w_161 : Cond.fieldLink "CityRoad$Buildings" 15 "CityRoad$Buildings" "uses" "[I" ∈ tb := tb_mem 161 (by decide +kernel) rfl
set_option maxRecDepth 200000 in
theorem w_162 : Cond.fieldLink "CityRoad$Buildings" 18 "CityRoad$Buildings" "rooms" "[I" ∈ tb := tb_mem 162 (by decide +kernel) rfl
set_option maxRecDepth 200000 in
theorem w_163 : Cond.fieldLink "CityRoad$Buildings" 21 "CityRoad$Buildings" "dwellers" "[I" ∈ tb := tb_mem 163 (by decide +kernel) rfl
set_option maxRecDepth 200000 in
theorem w_166 : Cond.fieldLink "CityRoad$Buildings" 30 "CityRoad$Buildings" "taken" "[Z" ∈ tb := tb_mem 166 (by decide +kernel) rfl
set_option maxRecDepth 200000 in
theorem w_164 : Cond.fieldLink "CityRoad$Buildings" 24 "CityRoad$Buildings" "buyers" "[I" ∈ tb := tb_mem 164 (by decide +kernel) rfl
set_option maxRecDepth 200000 in
theorem w_472 : Cond.fieldLink "CityRoad" 465 "CityRoad" "asked" "I" ∈ tb := tb_mem 472 (by decide +kernel) rfl
set_option maxRecDepth 200000 in
theorem w_461 : Cond.fieldLink "CityRoad" 33 "CityRoad" "buildings" "LCityRoad$Buildings;" ∈ tb := tb_mem 461 (by decide +kernel) rfl
set_option maxRecDepth 200000 in
theorem w_670 : Cond.code yX1_exists cX1_exists 2 (some .boolean) ∈ tb := tb_mem 670 (by rfl) rfl
set_option maxRecDepth 200000 in
theorem w_94 : Cond.initialized "CityRoad$Buildings" ∈ tb := tb_mem 94 (by decide +kernel) rfl
set_option maxRecDepth 200000 in
theorem w_668 : Cond.instanceMethod yX1_exists ∈ tb := tb_mem 668 (by decide +kernel) rfl
set_option maxRecDepth 200000 in
theorem w_669 : Cond.selects "CityRoad$Buildings" yX1_exists yX1_exists ∈ tb := tb_mem 669 (by decide +kernel) rfl
set_option maxRecDepth 200000 in
theorem w_667 : Cond.methodLink "CityRoad" 170 yX1_exists ∈ tb := tb_mem 667 (by decide +kernel) rfl
set_option maxRecDepth 200000 in
theorem w_698 : Cond.code yX1_trait cX1_trait 3 (some .int) ∈ tb := tb_mem 698 (by rfl) rfl
set_option maxRecDepth 200000 in
theorem w_696 : Cond.instanceMethod yX1_trait ∈ tb := tb_mem 696 (by decide +kernel) rfl
set_option maxRecDepth 200000 in
theorem w_697 : Cond.selects "CityRoad$Buildings" yX1_trait yX1_trait ∈ tb := tb_mem 697 (by decide +kernel) rfl
set_option maxRecDepth 200000 in
theorem w_695 : Cond.methodLink "CityRoad" 187 yX1_trait ∈ tb := tb_mem 695 (by decide +kernel) rfl
set_option maxRecDepth 200000 in
theorem w_554 : Cond.code yX11_tell cX11_tell 2 (some .int) ∈ tb := tb_mem 554 (by rfl) rfl
set_option maxRecDepth 200000 in
theorem w_89 : Cond.initialized "CityRoad" ∈ tb := tb_mem 89 (by decide +kernel) rfl
set_option maxRecDepth 200000 in
theorem w_553 : Cond.instanceMethod yX11_tell ∈ tb := tb_mem 553 (by decide +kernel) rfl
set_option maxRecDepth 200000 in
theorem w_1 : Cond.selects "CityRoad" yX11_tell yX11_tell ∈ tb := tb_mem 1 (by decide +kernel) rfl
set_option maxRecDepth 200000 in
theorem w_551 : Cond.methodLink "CityRoad" 117 yX11_tell ∈ tb := tb_mem 551 (by decide +kernel) rfl
set_option maxRecDepth 200000 in
theorem w_471 : Cond.fieldLink "CityRoad" 136 "CityRoad" "today" "I" ∈ tb := tb_mem 471 (by decide +kernel) rfl
set_option maxRecDepth 200000 in
theorem w_126 : Cond.fieldLink "CityRoad$Shelf" 22 "CityRoad$Shelf" "rows" "I" ∈ tb := tb_mem 126 (by decide +kernel) rfl
set_option maxRecDepth 200000 in
theorem w_128 : Cond.fieldLink "CityRoad$Shelf" 9 "CityRoad$Shelf" "sizes" "[I" ∈ tb := tb_mem 128 (by decide +kernel) rfl
set_option maxRecDepth 200000 in
theorem w_475 : Cond.fieldLink "CityRoad" 477 "CityRoad" "finding" "I" ∈ tb := tb_mem 475 (by decide +kernel) rfl
set_option maxRecDepth 200000 in
theorem w_470 : Cond.fieldLink "CityRoad" 91 "CityRoad" "findingCounts" "[I" ∈ tb := tb_mem 470 (by decide +kernel) rfl
set_option maxRecDepth 200000 in
theorem w_129 : Cond.fieldLink "CityRoad$Shelf" 13 "CityRoad$Shelf" "places" "[I" ∈ tb := tb_mem 129 (by decide +kernel) rfl
set_option maxRecDepth 200000 in
theorem w_458 : Cond.fieldLink "CityRoad" 12 "CityRoad" "rows" "LCityRoad$Shelf;" ∈ tb := tb_mem 458 (by decide +kernel) rfl
set_option maxRecDepth 200000 in
theorem w_520 : Cond.code yX8_exists cX8_exists 2 (some .boolean) ∈ tb := tb_mem 520 (by rfl) rfl
set_option maxRecDepth 200000 in
theorem w_90 : Cond.initialized "CityRoad$Shelf" ∈ tb := tb_mem 90 (by decide +kernel) rfl
set_option maxRecDepth 200000 in
theorem w_518 : Cond.instanceMethod yX8_exists ∈ tb := tb_mem 518 (by decide +kernel) rfl
set_option maxRecDepth 200000 in
theorem w_519 : Cond.selects "CityRoad$Shelf" yX8_exists yX8_exists ∈ tb := tb_mem 519 (by decide +kernel) rfl
set_option maxRecDepth 200000 in
theorem w_517 : Cond.methodLink "CityRoad" 95 yX8_exists ∈ tb := tb_mem 517 (by decide +kernel) rfl
set_option maxRecDepth 200000 in
theorem w_542 : Cond.code yX8_isThere cX8_isThere 2 (some .boolean) ∈ tb := tb_mem 542 (by rfl) rfl
set_option maxRecDepth 200000 in
theorem w_540 : Cond.instanceMethod yX8_isThere ∈ tb := tb_mem 540 (by decide +kernel) rfl
set_option maxRecDepth 200000 in
theorem w_541 : Cond.selects "CityRoad$Shelf" yX8_isThere yX8_isThere ∈ tb := tb_mem 541 (by decide +kernel) rfl
set_option maxRecDepth 200000 in
theorem w_539 : Cond.methodLink "CityRoad" 106 yX8_isThere ∈ tb := tb_mem 539 (by decide +kernel) rfl
set_option maxRecDepth 200000 in
theorem w_546 : Cond.code yX8_holds cX8_holds 3 (some .boolean) ∈ tb := tb_mem 546 (by rfl) rfl
set_option maxRecDepth 200000 in
theorem w_544 : Cond.instanceMethod yX8_holds ∈ tb := tb_mem 544 (by decide +kernel) rfl
set_option maxRecDepth 200000 in
theorem w_545 : Cond.selects "CityRoad$Shelf" yX8_holds yX8_holds ∈ tb := tb_mem 545 (by decide +kernel) rfl
set_option maxRecDepth 200000 in
theorem w_543 : Cond.methodLink "CityRoad" 109 yX8_holds ∈ tb := tb_mem 543 (by decide +kernel) rfl
set_option maxRecDepth 200000 in
theorem w_550 : Cond.code yX8_exchange cX8_exchange 5 (some .int) ∈ tb := tb_mem 550 (by rfl) rfl
set_option maxRecDepth 200000 in
theorem w_548 : Cond.instanceMethod yX8_exchange ∈ tb := tb_mem 548 (by decide +kernel) rfl
set_option maxRecDepth 200000 in
theorem w_549 : Cond.selects "CityRoad$Shelf" yX8_exchange yX8_exchange ∈ tb := tb_mem 549 (by decide +kernel) rfl
set_option maxRecDepth 200000 in
theorem w_547 : Cond.methodLink "CityRoad" 113 yX8_exchange ∈ tb := tb_mem 547 (by decide +kernel) rfl
set_option maxRecDepth 200000 in
theorem w_524 : Cond.code yX11_found cX11_found 2 (some .int) ∈ tb := tb_mem 524 (by rfl) rfl
set_option maxRecDepth 200000 in
theorem w_523 : Cond.instanceMethod yX11_found ∈ tb := tb_mem 523 (by decide +kernel) rfl
set_option maxRecDepth 200000 in
theorem w_0 : Cond.selects "CityRoad" yX11_found yX11_found ∈ tb := tb_mem 0 (by decide +kernel) rfl
set_option maxRecDepth 200000 in
theorem w_521 : Cond.methodLink "CityRoad" 99 yX11_found ∈ tb := tb_mem 521 (by decide +kernel) rfl
set_option maxRecDepth 200000 in
theorem w_459 : Cond.fieldLink "CityRoad" 20 "CityRoad" "texts" "LCityRoad$Shelf;" ∈ tb := tb_mem 459 (by decide +kernel) rfl
theorem gdX1_exists_17 : decode cX1_exists 17 = .ok (.ireturn, 1) := by decide +kernel
theorem gdX1_exists_16 : decode cX1_exists 16 = .ok (.iconst 0, 1) := by decide +kernel
theorem gdX1_exists_0 : decode cX1_exists 0 = .ok (.iload_n 1, 1) := by decide +kernel
theorem gdX1_exists_1 : decode cX1_exists 1 = .ok (.ifCond .lt 15, 3) := by decide +kernel
theorem gdX1_exists_4 : decode cX1_exists 4 = .ok (.iload_n 1, 1) := by decide +kernel
theorem gdX1_exists_5 : decode cX1_exists 5 = .ok (.aload_n 0, 1) := by decide +kernel
theorem gdX1_exists_6 : decode cX1_exists 6 = .ok (.getfield 58, 3) := by decide +kernel
theorem gdX1_exists_9 : decode cX1_exists 9 = .ok (.if_icmp .ge 7, 3) := by decide +kernel
theorem gdX1_exists_12 : decode cX1_exists 12 = .ok (.iconst 1, 1) := by decide +kernel
theorem gdX1_exists_13 : decode cX1_exists 13 = .ok (.goto 4, 3) := by decide +kernel
theorem gdX1_trait_78 : decode cX1_trait 78 = .ok (.ireturn, 1) := by decide +kernel
theorem gdX1_trait_0 : decode cX1_trait 0 = .ok (.iload_n 2, 1) := by decide +kernel
theorem gdX1_trait_1 : decode cX1_trait 1 = .ok (.tableswitch 78 0 4 #[35, 42, 49, 56, 63], 35) := by decide +kernel
theorem gdX1_trait_36 : decode cX1_trait 36 = .ok (.aload_n 0, 1) := by decide +kernel
theorem gdX1_trait_37 : decode cX1_trait 37 = .ok (.getfield 11, 3) := by decide +kernel
theorem gdX1_trait_40 : decode cX1_trait 40 = .ok (.iload_n 1, 1) := by decide +kernel
theorem gdX1_trait_41 : decode cX1_trait 41 = .ok (.iaload, 1) := by decide +kernel
theorem gdX1_trait_42 : decode cX1_trait 42 = .ok (.ireturn, 1) := by decide +kernel
theorem gdX1_trait_43 : decode cX1_trait 43 = .ok (.aload_n 0, 1) := by decide +kernel
theorem gdX1_trait_44 : decode cX1_trait 44 = .ok (.getfield 15, 3) := by decide +kernel
theorem gdX1_trait_47 : decode cX1_trait 47 = .ok (.iload_n 1, 1) := by decide +kernel
theorem gdX1_trait_48 : decode cX1_trait 48 = .ok (.iaload, 1) := by decide +kernel
theorem gdX1_trait_49 : decode cX1_trait 49 = .ok (.ireturn, 1) := by decide +kernel
theorem gdX1_trait_50 : decode cX1_trait 50 = .ok (.aload_n 0, 1) := by decide +kernel
theorem gdX1_trait_51 : decode cX1_trait 51 = .ok (.getfield 18, 3) := by decide +kernel
theorem gdX1_trait_54 : decode cX1_trait 54 = .ok (.iload_n 1, 1) := by decide +kernel
theorem gdX1_trait_55 : decode cX1_trait 55 = .ok (.iaload, 1) := by decide +kernel
theorem gdX1_trait_56 : decode cX1_trait 56 = .ok (.ireturn, 1) := by decide +kernel
theorem gdX1_trait_57 : decode cX1_trait 57 = .ok (.aload_n 0, 1) := by decide +kernel
theorem gdX1_trait_58 : decode cX1_trait 58 = .ok (.getfield 21, 3) := by decide +kernel
theorem gdX1_trait_61 : decode cX1_trait 61 = .ok (.iload_n 1, 1) := by decide +kernel
theorem gdX1_trait_62 : decode cX1_trait 62 = .ok (.iaload, 1) := by decide +kernel
theorem gdX1_trait_63 : decode cX1_trait 63 = .ok (.ireturn, 1) := by decide +kernel
theorem gdX1_trait_64 : decode cX1_trait 64 = .ok (.aload_n 0, 1) := by decide +kernel
theorem gdX1_trait_65 : decode cX1_trait 65 = .ok (.getfield 30, 3) := by decide +kernel
theorem gdX1_trait_68 : decode cX1_trait 68 = .ok (.iload_n 1, 1) := by decide +kernel
theorem gdX1_trait_69 : decode cX1_trait 69 = .ok (.baload, 1) := by decide +kernel
theorem gdX1_trait_70 : decode cX1_trait 70 = .ok (.ifCond .eq 7, 3) := by decide +kernel
theorem gdX1_trait_77 : decode cX1_trait 77 = .ok (.iconst 0, 1) := by decide +kernel
theorem gdX1_trait_73 : decode cX1_trait 73 = .ok (.iconst 1, 1) := by decide +kernel
theorem gdX1_trait_74 : decode cX1_trait 74 = .ok (.goto 4, 3) := by decide +kernel
theorem gdX1_trait_79 : decode cX1_trait 79 = .ok (.aload_n 0, 1) := by decide +kernel
theorem gdX1_trait_80 : decode cX1_trait 80 = .ok (.getfield 24, 3) := by decide +kernel
theorem gdX1_trait_83 : decode cX1_trait 83 = .ok (.iload_n 1, 1) := by decide +kernel
theorem gdX1_trait_84 : decode cX1_trait 84 = .ok (.iaload, 1) := by decide +kernel
theorem gdX1_trait_85 : decode cX1_trait 85 = .ok (.ireturn, 1) := by decide +kernel
theorem gdX11_tell_0 : decode cX11_tell 0 = .ok (.aload_n 0, 1) := by decide +kernel
theorem gdX11_tell_1 : decode cX11_tell 1 = .ok (.iload_n 1, 1) := by decide +kernel
theorem gdX11_tell_2 : decode cX11_tell 2 = .ok (.putfield 465, 3) := by decide +kernel
theorem gdX11_tell_5 : decode cX11_tell 5 = .ok (.iconst 1, 1) := by decide +kernel
theorem gdX11_tell_6 : decode cX11_tell 6 = .ok (.ireturn, 1) := by decide +kernel
theorem gdX11_house_20 : decode cX11_house 20 = .ok (.iconst (-1), 1) := by decide +kernel
theorem gdX11_house_21 : decode cX11_house 21 = .ok (.ireturn, 1) := by decide +kernel
theorem gdX11_house_0 : decode cX11_house 0 = .ok (.aload_n 0, 1) := by decide +kernel
theorem gdX11_house_1 : decode cX11_house 1 = .ok (.getfield 33, 3) := by decide +kernel
theorem gdX11_house_4 : decode cX11_house 4 = .ok (.iload_n 1, 1) := by decide +kernel
theorem gdX11_house_5 : decode cX11_house 5 = .ok (.invokevirtual 170, 3) := by decide +kernel
theorem gdX11_house_8 : decode cX11_house 8 = .ok (.ifCond .eq 12, 3) := by decide +kernel
theorem gdX11_house_11 : decode cX11_house 11 = .ok (.iload_n 2, 1) := by decide +kernel
theorem gdX11_house_12 : decode cX11_house 12 = .ok (.ifCond .lt 8, 3) := by decide +kernel
theorem gdX11_house_15 : decode cX11_house 15 = .ok (.iload_n 2, 1) := by decide +kernel
theorem gdX11_house_16 : decode cX11_house 16 = .ok (.iconst 5, 1) := by decide +kernel
theorem gdX11_house_17 : decode cX11_house 17 = .ok (.if_icmp .le 5, 3) := by decide +kernel
theorem gdX11_house_22 : decode cX11_house 22 = .ok (.aload_n 0, 1) := by decide +kernel
theorem gdX11_house_23 : decode cX11_house 23 = .ok (.aload_n 0, 1) := by decide +kernel
theorem gdX11_house_24 : decode cX11_house 24 = .ok (.getfield 33, 3) := by decide +kernel
theorem gdX11_house_27 : decode cX11_house 27 = .ok (.iload_n 1, 1) := by decide +kernel
theorem gdX11_house_28 : decode cX11_house 28 = .ok (.iload_n 2, 1) := by decide +kernel
theorem gdX11_house_29 : decode cX11_house 29 = .ok (.invokevirtual 187, 3) := by decide +kernel
theorem gdX11_house_32 : decode cX11_house 32 = .ok (.invokevirtual 117, 3) := by decide +kernel
theorem gdX11_house_35 : decode cX11_house 35 = .ok (.ireturn, 1) := by decide +kernel
theorem gdX11_later_16 : decode cX11_later 16 = .ok (.iconst (-1), 1) := by decide +kernel
theorem gdX11_later_17 : decode cX11_later 17 = .ok (.ireturn, 1) := by decide +kernel
theorem gdX11_later_0 : decode cX11_later 0 = .ok (.iload_n 1, 1) := by decide +kernel
theorem gdX11_later_1 : decode cX11_later 1 = .ok (.ifCond .lt 15, 3) := by decide +kernel
theorem gdX11_later_4 : decode cX11_later 4 = .ok (.iload_n 1, 1) := by decide +kernel
theorem gdX11_later_5 : decode cX11_later 5 = .ok (.sipush 999, 3) := by decide +kernel
theorem gdX11_later_8 : decode cX11_later 8 = .ok (.aload_n 0, 1) := by decide +kernel
theorem gdX11_later_9 : decode cX11_later 9 = .ok (.getfield 136, 3) := by decide +kernel
theorem gdX11_later_12 : decode cX11_later 12 = .ok (.isub, 1) := by decide +kernel
theorem gdX11_later_13 : decode cX11_later 13 = .ok (.if_icmp .le 5, 3) := by decide +kernel
theorem gdX11_later_18 : decode cX11_later 18 = .ok (.aload_n 0, 1) := by decide +kernel
theorem gdX11_later_19 : decode cX11_later 19 = .ok (.dup, 1) := by decide +kernel
theorem gdX11_later_20 : decode cX11_later 20 = .ok (.getfield 136, 3) := by decide +kernel
theorem gdX11_later_23 : decode cX11_later 23 = .ok (.iload_n 1, 1) := by decide +kernel
theorem gdX11_later_24 : decode cX11_later 24 = .ok (.iadd, 1) := by decide +kernel
theorem gdX11_later_25 : decode cX11_later 25 = .ok (.putfield 136, 3) := by decide +kernel
theorem gdX11_later_28 : decode cX11_later 28 = .ok (.aload_n 0, 1) := by decide +kernel
theorem gdX11_later_29 : decode cX11_later 29 = .ok (.getfield 136, 3) := by decide +kernel
theorem gdX11_later_32 : decode cX11_later 32 = .ok (.ireturn, 1) := by decide +kernel
theorem gdX8_exists_17 : decode cX8_exists 17 = .ok (.ireturn, 1) := by decide +kernel
theorem gdX8_exists_16 : decode cX8_exists 16 = .ok (.iconst 0, 1) := by decide +kernel
theorem gdX8_exists_0 : decode cX8_exists 0 = .ok (.iload_n 1, 1) := by decide +kernel
theorem gdX8_exists_1 : decode cX8_exists 1 = .ok (.ifCond .lt 15, 3) := by decide +kernel
theorem gdX8_exists_4 : decode cX8_exists 4 = .ok (.iload_n 1, 1) := by decide +kernel
theorem gdX8_exists_5 : decode cX8_exists 5 = .ok (.aload_n 0, 1) := by decide +kernel
theorem gdX8_exists_6 : decode cX8_exists 6 = .ok (.getfield 22, 3) := by decide +kernel
theorem gdX8_exists_9 : decode cX8_exists 9 = .ok (.if_icmp .ge 7, 3) := by decide +kernel
theorem gdX8_exists_12 : decode cX8_exists 12 = .ok (.iconst 1, 1) := by decide +kernel
theorem gdX8_exists_13 : decode cX8_exists 13 = .ok (.goto 4, 3) := by decide +kernel
theorem gdX8_isThere_15 : decode cX8_isThere 15 = .ok (.ireturn, 1) := by decide +kernel
theorem gdX8_isThere_0 : decode cX8_isThere 0 = .ok (.aload_n 0, 1) := by decide +kernel
theorem gdX8_isThere_1 : decode cX8_isThere 1 = .ok (.getfield 9, 3) := by decide +kernel
theorem gdX8_isThere_4 : decode cX8_isThere 4 = .ok (.iload_n 1, 1) := by decide +kernel
theorem gdX8_isThere_5 : decode cX8_isThere 5 = .ok (.iaload, 1) := by decide +kernel
theorem gdX8_isThere_6 : decode cX8_isThere 6 = .ok (.iconst (-1), 1) := by decide +kernel
theorem gdX8_isThere_7 : decode cX8_isThere 7 = .ok (.if_icmp .eq 7, 3) := by decide +kernel
theorem gdX8_isThere_14 : decode cX8_isThere 14 = .ok (.iconst 0, 1) := by decide +kernel
theorem gdX8_isThere_10 : decode cX8_isThere 10 = .ok (.iconst 1, 1) := by decide +kernel
theorem gdX8_isThere_11 : decode cX8_isThere 11 = .ok (.goto 4, 3) := by decide +kernel
theorem gdX11_found_0 : decode cX11_found 0 = .ok (.aload_n 0, 1) := by decide +kernel
theorem gdX11_found_1 : decode cX11_found 1 = .ok (.iload_n 1, 1) := by decide +kernel
theorem gdX11_found_2 : decode cX11_found 2 = .ok (.putfield 477, 3) := by decide +kernel
theorem gdX11_found_5 : decode cX11_found 5 = .ok (.aload_n 0, 1) := by decide +kernel
theorem gdX11_found_6 : decode cX11_found 6 = .ok (.getfield 91, 3) := by decide +kernel
theorem gdX11_found_9 : decode cX11_found 9 = .ok (.iload_n 1, 1) := by decide +kernel
theorem gdX11_found_10 : decode cX11_found 10 = .ok (.dup2, 1) := by decide +kernel
theorem gdX11_found_11 : decode cX11_found 11 = .ok (.iaload, 1) := by decide +kernel
theorem gdX11_found_12 : decode cX11_found 12 = .ok (.iconst 1, 1) := by decide +kernel
theorem gdX11_found_13 : decode cX11_found 13 = .ok (.iadd, 1) := by decide +kernel
theorem gdX11_found_14 : decode cX11_found 14 = .ok (.iastore, 1) := by decide +kernel
theorem gdX11_found_15 : decode cX11_found 15 = .ok (.bipush (-3), 2) := by decide +kernel
theorem gdX11_found_17 : decode cX11_found 17 = .ok (.ireturn, 1) := by decide +kernel
theorem gdX8_holds_19 : decode cX8_holds 19 = .ok (.ireturn, 1) := by decide +kernel
theorem gdX8_holds_18 : decode cX8_holds 18 = .ok (.iconst 0, 1) := by decide +kernel
theorem gdX8_holds_0 : decode cX8_holds 0 = .ok (.iload_n 2, 1) := by decide +kernel
theorem gdX8_holds_1 : decode cX8_holds 1 = .ok (.ifCond .lt 17, 3) := by decide +kernel
theorem gdX8_holds_4 : decode cX8_holds 4 = .ok (.iload_n 2, 1) := by decide +kernel
theorem gdX8_holds_5 : decode cX8_holds 5 = .ok (.aload_n 0, 1) := by decide +kernel
theorem gdX8_holds_6 : decode cX8_holds 6 = .ok (.getfield 9, 3) := by decide +kernel
theorem gdX8_holds_9 : decode cX8_holds 9 = .ok (.iload_n 1, 1) := by decide +kernel
theorem gdX8_holds_10 : decode cX8_holds 10 = .ok (.iaload, 1) := by decide +kernel
theorem gdX8_holds_11 : decode cX8_holds 11 = .ok (.if_icmp .ge 7, 3) := by decide +kernel
theorem gdX8_holds_14 : decode cX8_holds 14 = .ok (.iconst 1, 1) := by decide +kernel
theorem gdX8_holds_15 : decode cX8_holds 15 = .ok (.goto 4, 3) := by decide +kernel
theorem gdX8_exchange_0 : decode cX8_exchange 0 = .ok (.aload_n 0, 1) := by decide +kernel
theorem gdX8_exchange_1 : decode cX8_exchange 1 = .ok (.getfield 13, 3) := by decide +kernel
theorem gdX8_exchange_4 : decode cX8_exchange 4 = .ok (.iload_n 1, 1) := by decide +kernel
theorem gdX8_exchange_5 : decode cX8_exchange 5 = .ok (.bipush 40, 2) := by decide +kernel
theorem gdX8_exchange_7 : decode cX8_exchange 7 = .ok (.imul, 1) := by decide +kernel
theorem gdX8_exchange_8 : decode cX8_exchange 8 = .ok (.iload_n 2, 1) := by decide +kernel
theorem gdX8_exchange_9 : decode cX8_exchange 9 = .ok (.iadd, 1) := by decide +kernel
theorem gdX8_exchange_10 : decode cX8_exchange 10 = .ok (.iaload, 1) := by decide +kernel
theorem gdX8_exchange_11 : decode cX8_exchange 11 = .ok (.istore 4, 2) := by decide +kernel
theorem gdX8_exchange_13 : decode cX8_exchange 13 = .ok (.aload_n 0, 1) := by decide +kernel
theorem gdX8_exchange_14 : decode cX8_exchange 14 = .ok (.getfield 13, 3) := by decide +kernel
theorem gdX8_exchange_17 : decode cX8_exchange 17 = .ok (.iload_n 1, 1) := by decide +kernel
theorem gdX8_exchange_18 : decode cX8_exchange 18 = .ok (.bipush 40, 2) := by decide +kernel
theorem gdX8_exchange_20 : decode cX8_exchange 20 = .ok (.imul, 1) := by decide +kernel
theorem gdX8_exchange_21 : decode cX8_exchange 21 = .ok (.iload_n 2, 1) := by decide +kernel
theorem gdX8_exchange_22 : decode cX8_exchange 22 = .ok (.iadd, 1) := by decide +kernel
theorem gdX8_exchange_23 : decode cX8_exchange 23 = .ok (.iload_n 3, 1) := by decide +kernel
theorem gdX8_exchange_24 : decode cX8_exchange 24 = .ok (.iastore, 1) := by decide +kernel
theorem gdX8_exchange_25 : decode cX8_exchange 25 = .ok (.iload 4, 2) := by decide +kernel
theorem gdX8_exchange_27 : decode cX8_exchange 27 = .ok (.ireturn, 1) := by decide +kernel
theorem gdX11_lay_0 : decode cX11_lay 0 = .ok (.aload_n 0, 1) := by decide +kernel
theorem gdX11_lay_1 : decode cX11_lay 1 = .ok (.getfield 12, 3) := by decide +kernel
theorem gdX11_lay_4 : decode cX11_lay 4 = .ok (.iload_n 1, 1) := by decide +kernel
theorem gdX11_lay_5 : decode cX11_lay 5 = .ok (.invokevirtual 95, 3) := by decide +kernel
theorem gdX11_lay_8 : decode cX11_lay 8 = .ok (.ifCond .ne 5, 3) := by decide +kernel
theorem gdX11_lay_13 : decode cX11_lay 13 = .ok (.aload_n 0, 1) := by decide +kernel
theorem gdX11_lay_14 : decode cX11_lay 14 = .ok (.getfield 12, 3) := by decide +kernel
theorem gdX11_lay_17 : decode cX11_lay 17 = .ok (.iload_n 1, 1) := by decide +kernel
theorem gdX11_lay_18 : decode cX11_lay 18 = .ok (.invokevirtual 106, 3) := by decide +kernel
theorem gdX11_lay_21 : decode cX11_lay 21 = .ok (.ifCond .ne 9, 3) := by decide +kernel
theorem gdX11_lay_30 : decode cX11_lay 30 = .ok (.aload_n 0, 1) := by decide +kernel
theorem gdX11_lay_31 : decode cX11_lay 31 = .ok (.getfield 12, 3) := by decide +kernel
theorem gdX11_lay_34 : decode cX11_lay 34 = .ok (.iload_n 1, 1) := by decide +kernel
theorem gdX11_lay_35 : decode cX11_lay 35 = .ok (.iload_n 2, 1) := by decide +kernel
theorem gdX11_lay_36 : decode cX11_lay 36 = .ok (.invokevirtual 109, 3) := by decide +kernel
theorem gdX11_lay_39 : decode cX11_lay 39 = .ok (.ifCond .ne 9, 3) := by decide +kernel
theorem gdX11_lay_48 : decode cX11_lay 48 = .ok (.aload_n 0, 1) := by decide +kernel
theorem gdX11_lay_49 : decode cX11_lay 49 = .ok (.aload_n 0, 1) := by decide +kernel
theorem gdX11_lay_50 : decode cX11_lay 50 = .ok (.getfield 12, 3) := by decide +kernel
theorem gdX11_lay_53 : decode cX11_lay 53 = .ok (.iload_n 1, 1) := by decide +kernel
theorem gdX11_lay_54 : decode cX11_lay 54 = .ok (.iload_n 2, 1) := by decide +kernel
theorem gdX11_lay_55 : decode cX11_lay 55 = .ok (.iload_n 3, 1) := by decide +kernel
theorem gdX11_lay_56 : decode cX11_lay 56 = .ok (.invokevirtual 113, 3) := by decide +kernel
theorem gdX11_lay_59 : decode cX11_lay 59 = .ok (.invokevirtual 117, 3) := by decide +kernel
theorem gdX11_lay_62 : decode cX11_lay 62 = .ok (.ireturn, 1) := by decide +kernel
theorem gdX11_lay_42 : decode cX11_lay 42 = .ok (.aload_n 0, 1) := by decide +kernel
theorem gdX11_lay_43 : decode cX11_lay 43 = .ok (.iconst 2, 1) := by decide +kernel
theorem gdX11_lay_44 : decode cX11_lay 44 = .ok (.invokevirtual 99, 3) := by decide +kernel
theorem gdX11_lay_47 : decode cX11_lay 47 = .ok (.ireturn, 1) := by decide +kernel
theorem gdX11_lay_24 : decode cX11_lay 24 = .ok (.aload_n 0, 1) := by decide +kernel
theorem gdX11_lay_25 : decode cX11_lay 25 = .ok (.iconst 1, 1) := by decide +kernel
theorem gdX11_lay_26 : decode cX11_lay 26 = .ok (.invokevirtual 99, 3) := by decide +kernel
theorem gdX11_lay_29 : decode cX11_lay 29 = .ok (.ireturn, 1) := by decide +kernel
theorem gdX11_lay_11 : decode cX11_lay 11 = .ok (.iconst (-1), 1) := by decide +kernel
theorem gdX11_lay_12 : decode cX11_lay 12 = .ok (.ireturn, 1) := by decide +kernel
theorem gdX11_put_0 : decode cX11_put 0 = .ok (.aload_n 0, 1) := by decide +kernel
theorem gdX11_put_1 : decode cX11_put 1 = .ok (.getfield 20, 3) := by decide +kernel
theorem gdX11_put_4 : decode cX11_put 4 = .ok (.iload_n 1, 1) := by decide +kernel
theorem gdX11_put_5 : decode cX11_put 5 = .ok (.invokevirtual 95, 3) := by decide +kernel
theorem gdX11_put_8 : decode cX11_put 8 = .ok (.ifCond .ne 5, 3) := by decide +kernel
theorem gdX11_put_13 : decode cX11_put 13 = .ok (.aload_n 0, 1) := by decide +kernel
theorem gdX11_put_14 : decode cX11_put 14 = .ok (.getfield 20, 3) := by decide +kernel
theorem gdX11_put_17 : decode cX11_put 17 = .ok (.iload_n 1, 1) := by decide +kernel
theorem gdX11_put_18 : decode cX11_put 18 = .ok (.invokevirtual 106, 3) := by decide +kernel
theorem gdX11_put_21 : decode cX11_put 21 = .ok (.ifCond .ne 9, 3) := by decide +kernel
theorem gdX11_put_30 : decode cX11_put 30 = .ok (.aload_n 0, 1) := by decide +kernel
theorem gdX11_put_31 : decode cX11_put 31 = .ok (.getfield 20, 3) := by decide +kernel
theorem gdX11_put_34 : decode cX11_put 34 = .ok (.iload_n 1, 1) := by decide +kernel
theorem gdX11_put_35 : decode cX11_put 35 = .ok (.iload_n 2, 1) := by decide +kernel
theorem gdX11_put_36 : decode cX11_put 36 = .ok (.invokevirtual 109, 3) := by decide +kernel
theorem gdX11_put_39 : decode cX11_put 39 = .ok (.ifCond .ne 9, 3) := by decide +kernel
theorem gdX11_put_48 : decode cX11_put 48 = .ok (.aload_n 0, 1) := by decide +kernel
theorem gdX11_put_49 : decode cX11_put 49 = .ok (.getfield 20, 3) := by decide +kernel
theorem gdX11_put_52 : decode cX11_put 52 = .ok (.iload_n 1, 1) := by decide +kernel
theorem gdX11_put_53 : decode cX11_put 53 = .ok (.iload_n 2, 1) := by decide +kernel
theorem gdX11_put_54 : decode cX11_put 54 = .ok (.iload_n 3, 1) := by decide +kernel
theorem gdX11_put_55 : decode cX11_put 55 = .ok (.i2b, 1) := by decide +kernel
theorem gdX11_put_56 : decode cX11_put 56 = .ok (.invokevirtual 113, 3) := by decide +kernel
theorem gdX11_put_59 : decode cX11_put 59 = .ok (.sipush 1000, 3) := by decide +kernel
theorem gdX11_put_62 : decode cX11_put 62 = .ok (.iadd, 1) := by decide +kernel
theorem gdX11_put_63 : decode cX11_put 63 = .ok (.ireturn, 1) := by decide +kernel
theorem gdX11_put_42 : decode cX11_put 42 = .ok (.aload_n 0, 1) := by decide +kernel
theorem gdX11_put_43 : decode cX11_put 43 = .ok (.iconst 2, 1) := by decide +kernel
theorem gdX11_put_44 : decode cX11_put 44 = .ok (.invokevirtual 99, 3) := by decide +kernel
theorem gdX11_put_47 : decode cX11_put 47 = .ok (.ireturn, 1) := by decide +kernel
theorem gdX11_put_24 : decode cX11_put 24 = .ok (.aload_n 0, 1) := by decide +kernel
theorem gdX11_put_25 : decode cX11_put 25 = .ok (.iconst 1, 1) := by decide +kernel
theorem gdX11_put_26 : decode cX11_put 26 = .ok (.invokevirtual 99, 3) := by decide +kernel
theorem gdX11_put_29 : decode cX11_put 29 = .ok (.ireturn, 1) := by decide +kernel
theorem gdX11_put_11 : decode cX11_put 11 = .ok (.iconst (-1), 1) := by decide +kernel
theorem gdX11_put_12 : decode cX11_put 12 = .ok (.ireturn, 1) := by decide +kernel
theorem okm_X1_exists : okM yX1_exists cX1_exists 2 (some .boolean) 1 := ⟨w_670, w_94, by decide +kernel, by decide +kernel, by decide +kernel⟩
theorem okw_X1_exists : okV yX1_exists := ⟨w_668, w_669⟩
theorem okm_X1_trait : okM yX1_trait cX1_trait 3 (some .int) 2 := ⟨w_698, w_94, by decide +kernel, by decide +kernel, by decide +kernel⟩
theorem okw_X1_trait : okV yX1_trait := ⟨w_696, w_697⟩
theorem okm_X11_tell : okM yX11_tell cX11_tell 2 (some .int) 1 := ⟨w_554, w_89, by decide +kernel, by decide +kernel, by decide +kernel⟩
theorem okw_X11_tell : okV yX11_tell := ⟨w_553, w_1⟩
theorem okm_X8_exists : okM yX8_exists cX8_exists 2 (some .boolean) 1 := ⟨w_520, w_90, by decide +kernel, by decide +kernel, by decide +kernel⟩
theorem okw_X8_exists : okV yX8_exists := ⟨w_518, w_519⟩
theorem okm_X8_isThere : okM yX8_isThere cX8_isThere 2 (some .boolean) 1 := ⟨w_542, w_90, by decide +kernel, by decide +kernel, by decide +kernel⟩
theorem okw_X8_isThere : okV yX8_isThere := ⟨w_540, w_541⟩
theorem okm_X8_holds : okM yX8_holds cX8_holds 3 (some .boolean) 2 := ⟨w_546, w_90, by decide +kernel, by decide +kernel, by decide +kernel⟩
theorem okw_X8_holds : okV yX8_holds := ⟨w_544, w_545⟩
theorem okm_X8_exchange : okM yX8_exchange cX8_exchange 5 (some .int) 3 := ⟨w_550, w_90, by decide +kernel, by decide +kernel, by decide +kernel⟩
theorem okw_X8_exchange : okV yX8_exchange := ⟨w_548, w_549⟩
theorem okm_X11_found : okM yX11_found cX11_found 2 (some .int) 1 := ⟨w_524, w_89, by decide +kernel, by decide +kernel, by decide +kernel⟩
theorem okw_X11_found : okV yX11_found := ⟨w_523, w_0⟩
noncomputable def b_X1_exists_17 (o : OO) (y0 : Int) : Option (Int) := qZ y0 (some y0)
noncomputable def b_X1_exists_16 (o : OO) : Option (Int) := b_X1_exists_17 o 0
noncomputable def s_X1_exists (o : OO) (x1 : Int) : Option (Int) := qLt x1 0 (b_X1_exists_16 o) (qLt x1 (o.1 10 12) (b_X1_exists_17 o 1) (b_X1_exists_16 o))
set_option maxHeartbeats 4000000 in
set_option maxRecDepth 100000 in
theorem c_X1_exists (l : Launch) (g : GG) (ad : Nat → Nat) (o : OO) (x1 : Int) (v : Int) (h : s_X1_exists o x1 = some v) : CI l g yX1_exists cX1_exists 2 (some .boolean) 0 0 (wC g ad o) [.ref (ad 10), iv x1] v (wC g ad o) := by
  refine met_I (by decide) (Nat.le_of_ble_eq_true rfl) ?_
  intro X E hQ
  show Go X 0 (wC g ad o) [(0, .ref (ad 10)), (1, iv x1)] []
  have j17 : ∀ (y0 : Int), b_X1_exists_17 o y0 = some v → Go X 17 (wC g ad o) [] [iv y0] := by
    intro y0 h
    unfold b_X1_exists_17 at h
    obtain ⟨hz, h⟩ := qZ_of h
    exact g_zret E hQ hz (Option.some.inj h) rfl gdX1_exists_17
  have j16 : b_X1_exists_16 o = some v → Go X 16 (wC g ad o) [] [] := by
    intro h
    unfold b_X1_exists_16 at h
    refine g_iconst E gdX1_exists_16 ?_
    exact j17 0 h
  unfold s_X1_exists at h
  refine g_iload_n E gdX1_exists_0 rfl 1 rfl ?_
  refine g_if_lt E 16 gdX1_exists_1 (by decide) h (fun h => ?_) (fun h => ?_)
  ·
    refine g_sub E [] rfl ?_
    exact j16  h
  ·
    refine g_iload_n E gdX1_exists_4 rfl 1 rfl ?_
    refine g_aload_n E gdX1_exists_5 rfl 0 rfl ?_
    refine g_get (T := TX1) E fw_X1 10 (wC_10 g ad o) rfl 12 (by decide) w_172 rfl rfl gdX1_exists_6 ?_
    refine g_icmp_ge E 16 gdX1_exists_9 (by decide) h (fun h => ?_) (fun h => ?_)
    ·
      refine g_sub E [] rfl ?_
      exact j16  h
    ·
      refine g_iconst E gdX1_exists_12 ?_
      refine g_goto E 17 gdX1_exists_13 (by decide) ?_
      refine g_sub E [] rfl ?_
      exact j17 1 h
noncomputable def b_X1_trait_78 (o : OO) (y0 : Int) : Option (Int) := some y0
noncomputable def s_X1_trait (o : OO) (x1 : Int) (x2 : Int) : Option (Int) := qEq x2 0 (qIn x1 32 (qNm (o.1 11 x1.toNat) (fun n2 => some n2))) (qEq x2 1 (qIn x1 32 (qNm (o.1 12 x1.toNat) (fun n4 => some n4))) (qEq x2 2 (qIn x1 32 (qNm (o.1 13 x1.toNat) (fun n6 => some n6))) (qEq x2 3 (qIn x1 32 (qNm (o.1 14 x1.toNat) (fun n8 => some n8))) (qEq x2 4 (qIn x1 32 (qNm (o.1 17 x1.toNat) (fun n10 => qEq n10 0 (b_X1_trait_78 o 0) (b_X1_trait_78 o 1)))) (qIn x1 32 (qNm (o.1 15 x1.toNat) (fun n12 => some n12)))))))
set_option maxHeartbeats 4000000 in
set_option maxRecDepth 100000 in
theorem c_X1_trait (l : Launch) (g : GG) (ad : Nat → Nat) (o : OO) (x1 : Int) (x2 : Int) (v : Int) (h : s_X1_trait o x1 x2 = some v) : CI l g yX1_trait cX1_trait 3 (some .int) 0 0 (wC g ad o) [.ref (ad 10), iv x1, iv x2] v (wC g ad o) := by
  refine met_I (by decide) (Nat.le_of_ble_eq_true rfl) ?_
  intro X E hQ
  show Go X 0 (wC g ad o) [(0, .ref (ad 10)), (1, iv x1), (2, iv x2)] []
  have j78 : ∀ (y0 : Int), b_X1_trait_78 o y0 = some v → Go X 78 (wC g ad o) [] [iv y0] := by
    intro y0 h
    unfold b_X1_trait_78 at h
    exact g_iret E hQ (Option.some.inj h) rfl gdX1_trait_78
  unfold s_X1_trait at h
  refine g_iload_n E gdX1_trait_0 rfl 2 rfl ?_
  obtain ⟨h1, -, ⟨hx, h⟩ | ⟨hx0, h⟩⟩ := qEq_of h
  ·
    refine g_tabIn (kx := 0) (off := 35) E 36 gdX1_trait_1 hx (by decide) (by decide) (by decide) (by decide) (by decide) ?_
    refine g_aload_n E gdX1_trait_36 rfl 0 rfl ?_
    refine g_get (T := TX1) E fw_X1 10 (wC_10 g ad o) rfl 0 (by decide) w_160 rfl rfl gdX1_trait_37 ?_
    refine g_iload_n E gdX1_trait_40 rfl 1 rfl ?_
    obtain ⟨hi1, h⟩ := qIn_of h
    refine g_iald E 11 (wC_11 g ad o) (by decide) hi1 gdX1_trait_41 ?_
    obtain ⟨n2, e_n2, h⟩ := qNm_of h
    refine g_nmi e_n2 ?_
    exact g_iret E hQ (Option.some.inj h) rfl gdX1_trait_42
  ·
    obtain ⟨h1, -, ⟨hx, h⟩ | ⟨hx1, h⟩⟩ := qEq_of h
    ·
      refine g_tabIn (kx := 1) (off := 42) E 43 gdX1_trait_1 hx (by decide) (by decide) (by decide) (by decide) (by decide) ?_
      refine g_aload_n E gdX1_trait_43 rfl 0 rfl ?_
      refine g_get (T := TX1) E fw_X1 10 (wC_10 g ad o) rfl 1 (by decide) w_161 rfl rfl gdX1_trait_44 ?_
      refine g_iload_n E gdX1_trait_47 rfl 1 rfl ?_
      obtain ⟨hi3, h⟩ := qIn_of h
      refine g_iald E 12 (wC_12 g ad o) (by decide) hi3 gdX1_trait_48 ?_
      obtain ⟨n4, e_n4, h⟩ := qNm_of h
      refine g_nmi e_n4 ?_
      exact g_iret E hQ (Option.some.inj h) rfl gdX1_trait_49
    ·
      obtain ⟨h1, -, ⟨hx, h⟩ | ⟨hx2, h⟩⟩ := qEq_of h
      ·
        refine g_tabIn (kx := 2) (off := 49) E 50 gdX1_trait_1 hx (by decide) (by decide) (by decide) (by decide) (by decide) ?_
        refine g_aload_n E gdX1_trait_50 rfl 0 rfl ?_
        refine g_get (T := TX1) E fw_X1 10 (wC_10 g ad o) rfl 2 (by decide) w_162 rfl rfl gdX1_trait_51 ?_
        refine g_iload_n E gdX1_trait_54 rfl 1 rfl ?_
        obtain ⟨hi5, h⟩ := qIn_of h
        refine g_iald E 13 (wC_13 g ad o) (by decide) hi5 gdX1_trait_55 ?_
        obtain ⟨n6, e_n6, h⟩ := qNm_of h
        refine g_nmi e_n6 ?_
        exact g_iret E hQ (Option.some.inj h) rfl gdX1_trait_56
      ·
        obtain ⟨h1, -, ⟨hx, h⟩ | ⟨hx3, h⟩⟩ := qEq_of h
        ·
          refine g_tabIn (kx := 3) (off := 56) E 57 gdX1_trait_1 hx (by decide) (by decide) (by decide) (by decide) (by decide) ?_
          refine g_aload_n E gdX1_trait_57 rfl 0 rfl ?_
          refine g_get (T := TX1) E fw_X1 10 (wC_10 g ad o) rfl 3 (by decide) w_163 rfl rfl gdX1_trait_58 ?_
          refine g_iload_n E gdX1_trait_61 rfl 1 rfl ?_
          obtain ⟨hi7, h⟩ := qIn_of h
          refine g_iald E 14 (wC_14 g ad o) (by decide) hi7 gdX1_trait_62 ?_
          obtain ⟨n8, e_n8, h⟩ := qNm_of h
          refine g_nmi e_n8 ?_
          exact g_iret E hQ (Option.some.inj h) rfl gdX1_trait_63
        ·
          obtain ⟨h1, -, ⟨hx, h⟩ | ⟨hx4, h⟩⟩ := qEq_of h
          ·
            refine g_tabIn (kx := 4) (off := 63) E 64 gdX1_trait_1 hx (by decide) (by decide) (by decide) (by decide) (by decide) ?_
            refine g_aload_n E gdX1_trait_64 rfl 0 rfl ?_
            refine g_get (T := TX1) E fw_X1 10 (wC_10 g ad o) rfl 6 (by decide) w_166 rfl rfl gdX1_trait_65 ?_
            refine g_iload_n E gdX1_trait_68 rfl 1 rfl ?_
            obtain ⟨hi9, h⟩ := qIn_of h
            refine g_zald E 17 (wC_17 g ad o) (by decide) hi9 gdX1_trait_69 ?_
            obtain ⟨n10, e_n10, h⟩ := qNm_of h
            refine g_nmi e_n10 ?_
            refine g_if_eq E 77 gdX1_trait_70 (by decide) h (fun h => ?_) (fun h => ?_)
            ·
              refine g_iconst E gdX1_trait_77 ?_
              refine g_sub E [] rfl ?_
              exact j78 0 h
            ·
              refine g_iconst E gdX1_trait_73 ?_
              refine g_goto E 78 gdX1_trait_74 (by decide) ?_
              refine g_sub E [] rfl ?_
              exact j78 1 h
          ·
            refine g_tabOut E 79 gdX1_trait_1 h1 (by omega) (by decide) ?_
            refine g_aload_n E gdX1_trait_79 rfl 0 rfl ?_
            refine g_get (T := TX1) E fw_X1 10 (wC_10 g ad o) rfl 4 (by decide) w_164 rfl rfl gdX1_trait_80 ?_
            refine g_iload_n E gdX1_trait_83 rfl 1 rfl ?_
            obtain ⟨hi11, h⟩ := qIn_of h
            refine g_iald E 15 (wC_15 g ad o) (by decide) hi11 gdX1_trait_84 ?_
            obtain ⟨n12, e_n12, h⟩ := qNm_of h
            refine g_nmi e_n12 ?_
            exact g_iret E hQ (Option.some.inj h) rfl gdX1_trait_85
noncomputable def s_X11_tell (o : OO) (x1 : Int) : Option (Int × OO) := qNm (st1 o 0 14 x1) (fun o1 => some (1, o1))
set_option maxHeartbeats 4000000 in
set_option maxRecDepth 100000 in
theorem c_X11_tell (l : Launch) (g : GG) (ad : Nat → Nat) (o : OO) (x1 : Int) (v : Int × OO) (h : s_X11_tell o x1 = some v) : CI l g yX11_tell cX11_tell 2 (some .int) 0 0 (wC g ad o) [.ref (ad 0), iv x1] v.1 (wC g ad v.2) := by
  refine met_I (by decide) (Nat.le_of_ble_eq_true rfl) ?_
  intro X E hQ
  show Go X 0 (wC g ad o) [(0, .ref (ad 0)), (1, iv x1)] []
  unfold s_X11_tell at h
  refine g_aload_n E gdX11_tell_0 rfl 0 rfl ?_
  refine g_iload_n E gdX11_tell_1 rfl 1 rfl ?_
  obtain ⟨o1, e_o1, h⟩ := qNm_of h
  refine g_puti (T := TX11) (ws' := wC g ad o1) E fw_X11 tyX11 tyX11_ok nmX11 0 (wC_0 g ad o) rfl 14 (by decide) w_472 rfl rfl (by decide +kernel) (Nat.le_of_ble_eq_true rfl) (by rw [e_o1]; exact wC_p0_14 g ad o _) gdX11_tell_2 ?_
  refine g_iconst E gdX11_tell_5 ?_
  exact g_iret E hQ (by rw [← Option.some.inj h]) (by rw [← Option.some.inj h]) gdX11_tell_6
noncomputable def b_X11_house_20 (o : OO) : Option (Int × OO) := some ((-1), o)
noncomputable def s_X11_house (o : OO) (x1 : Int) (x2 : Int) : Option (Int × OO) := qB (s_X1_exists o x1) (fun r1 => qEq r1 0 (b_X11_house_20 o) (qLt x2 0 (b_X11_house_20 o) (qLt 5 x2 (b_X11_house_20 o) (qB (s_X1_trait o x1 x2) (fun r3 => qB2 (s_X11_tell o r3) (fun r5 o7 => some (r5, o7)))))))
set_option maxHeartbeats 4000000 in
set_option maxRecDepth 100000 in
theorem c_X11_house (l : Launch) (g : GG) (ad : Nat → Nat) (o : OO) (x1 : Int) (x2 : Int) (v : Int × OO) (h : s_X11_house o x1 x2 = some v) : CI l g yX11_house cX11_house 3 (some .int) 1 22 (wC g ad o) [.ref (ad 0), iv x1, iv x2] v.1 (wC g ad v.2) := by
  refine met_I (by decide) (Nat.le_of_ble_eq_true rfl) ?_
  intro X E hQ
  show Go X 0 (wC g ad o) [(0, .ref (ad 0)), (1, iv x1), (2, iv x2)] []
  have j20 : ∀ (o : OO), b_X11_house_20 o = some v → Go X 20 (wC g ad o) [] [] := by
    intro o h
    unfold b_X11_house_20 at h
    refine g_iconst E gdX11_house_20 ?_
    exact g_iret E hQ (by rw [← Option.some.inj h]) (by rw [← Option.some.inj h]) gdX11_house_21
  unfold s_X11_house at h
  refine g_aload_n E gdX11_house_0 rfl 0 rfl ?_
  refine g_get (T := TX11) E fw_X11 0 (wC_0 g ad o) rfl 3 (by decide) w_461 rfl rfl gdX11_house_1 ?_
  refine g_iload_n E gdX11_house_4 rfl 1 rfl ?_
  obtain ⟨r1, hc2, h⟩ := qB_of h
  refine g_Vi (r := r1) (As := [iv x1]) (rest := []) (w := wC g ad o) E (c_X1_exists l g ad o x1 r1 hc2) okm_X1_exists okw_X1_exists w_667 rfl (wC_10 g ad o) rfl rfl (Nat.le_of_ble_eq_true rfl) ⟨Nat.le_of_ble_eq_true rfl, Nat.le_of_ble_eq_true rfl⟩ gdX11_house_5 ?_
  refine g_if_eq E 20 gdX11_house_8 (by decide) h (fun h => ?_) (fun h => ?_)
  ·
    refine g_sub E [] rfl ?_
    exact j20 o h
  ·
    refine g_iload_n E gdX11_house_11 rfl 2 rfl ?_
    refine g_if_lt E 20 gdX11_house_12 (by decide) h (fun h => ?_) (fun h => ?_)
    ·
      refine g_sub E [] rfl ?_
      exact j20 o h
    ·
      refine g_iload_n E gdX11_house_15 rfl 2 rfl ?_
      refine g_iconst E gdX11_house_16 ?_
      refine g_icmp_le E 22 gdX11_house_17 (by decide) h (fun h => ?_) (fun h => ?_)
      ·
        refine g_aload_n E gdX11_house_22 rfl 0 rfl ?_
        refine g_aload_n E gdX11_house_23 rfl 0 rfl ?_
        refine g_get (T := TX11) E fw_X11 0 (wC_0 g ad o) rfl 3 (by decide) w_461 rfl rfl gdX11_house_24 ?_
        refine g_iload_n E gdX11_house_27 rfl 1 rfl ?_
        refine g_iload_n E gdX11_house_28 rfl 2 rfl ?_
        obtain ⟨r3, hc4, h⟩ := qB_of h
        refine g_Vi (r := r3) (As := [iv x1, iv x2]) (rest := [.ref (ad 0)]) (w := wC g ad o) E (c_X1_trait l g ad o x1 x2 r3 hc4) okm_X1_trait okw_X1_trait w_695 rfl (wC_10 g ad o) rfl rfl (Nat.le_of_ble_eq_true rfl) ⟨Nat.le_of_ble_eq_true rfl, Nat.le_of_ble_eq_true rfl⟩ gdX11_house_29 ?_
        obtain ⟨r5, o7, hc6, h⟩ := qB2_of h
        refine g_Vi (r := r5) (As := [iv r3]) (rest := []) (w := wC g ad o7) E (c_X11_tell l g ad o r3 (r5, o7) hc6) okm_X11_tell okw_X11_tell w_551 rfl (wC_0 g ad o) rfl rfl (Nat.le_of_ble_eq_true rfl) ⟨Nat.le_of_ble_eq_true rfl, Nat.le_of_ble_eq_true rfl⟩ gdX11_house_32 ?_
        exact g_iret E hQ (by rw [← Option.some.inj h]) (by rw [← Option.some.inj h]) gdX11_house_35
      ·
        refine g_sub E [] rfl ?_
        exact j20 o h
noncomputable def b_X11_later_16 (o : OO) : Option (Int × OO) := some ((-1), o)
noncomputable def s_X11_later (o : OO) (x1 : Int) : Option (Int × OO) := qLt x1 0 (b_X11_later_16 o) (qLt (999 - (o.1 0 13)) x1 (b_X11_later_16 o) (qNm (st1 o 0 13 ((o.1 0 13) + x1)) (fun o1 => some (o1.1 0 13, o1))))
set_option maxHeartbeats 4000000 in
set_option maxRecDepth 100000 in
theorem c_X11_later (l : Launch) (g : GG) (ad : Nat → Nat) (o : OO) (x1 : Int) (v : Int × OO) (h : s_X11_later o x1 = some v) : CI l g yX11_later cX11_later 2 (some .int) 0 0 (wC g ad o) [.ref (ad 0), iv x1] v.1 (wC g ad v.2) := by
  refine met_I (by decide) (Nat.le_of_ble_eq_true rfl) ?_
  intro X E hQ
  show Go X 0 (wC g ad o) [(0, .ref (ad 0)), (1, iv x1)] []
  have j16 : ∀ (o : OO), b_X11_later_16 o = some v → Go X 16 (wC g ad o) [] [] := by
    intro o h
    unfold b_X11_later_16 at h
    refine g_iconst E gdX11_later_16 ?_
    exact g_iret E hQ (by rw [← Option.some.inj h]) (by rw [← Option.some.inj h]) gdX11_later_17
  unfold s_X11_later at h
  refine g_iload_n E gdX11_later_0 rfl 1 rfl ?_
  refine g_if_lt E 16 gdX11_later_1 (by decide) h (fun h => ?_) (fun h => ?_)
  ·
    refine g_sub E [] rfl ?_
    exact j16 o h
  ·
    refine g_iload_n E gdX11_later_4 rfl 1 rfl ?_
    refine g_sipush E gdX11_later_5 (by decide) ?_
    refine g_aload_n E gdX11_later_8 rfl 0 rfl ?_
    refine g_get (T := TX11) E fw_X11 0 (wC_0 g ad o) rfl 13 (by decide) w_471 rfl rfl gdX11_later_9 ?_
    refine g_isub E gdX11_later_12 ?_
    refine g_icmp_le E 18 gdX11_later_13 (by decide) h (fun h => ?_) (fun h => ?_)
    ·
      refine g_aload_n E gdX11_later_18 rfl 0 rfl ?_
      refine g_dup E gdX11_later_19 rfl ?_
      refine g_get (T := TX11) E fw_X11 0 (wC_0 g ad o) rfl 13 (by decide) w_471 rfl rfl gdX11_later_20 ?_
      refine g_iload_n E gdX11_later_23 rfl 1 rfl ?_
      refine g_iadd E gdX11_later_24 ?_
      obtain ⟨o1, e_o1, h⟩ := qNm_of h
      refine g_puti (T := TX11) (ws' := wC g ad o1) E fw_X11 tyX11 tyX11_ok nmX11 0 (wC_0 g ad o) rfl 13 (by decide) w_471 rfl rfl (by decide +kernel) (Nat.le_of_ble_eq_true rfl) (by rw [e_o1]; exact wC_p0_13 g ad o _) gdX11_later_25 ?_
      refine g_aload_n E gdX11_later_28 rfl 0 rfl ?_
      refine g_get (T := TX11) E fw_X11 0 (wC_0 g ad o1) rfl 13 (by decide) w_471 rfl rfl gdX11_later_29 ?_
      exact g_iret E hQ (by rw [← Option.some.inj h]) (by rw [← Option.some.inj h]) gdX11_later_32
    ·
      refine g_sub E [] rfl ?_
      exact j16 o h
noncomputable def b_X8_exists_17 (o : OO) (y0 : Int) : Option (Int) := qZ y0 (some y0)
noncomputable def b_X8_exists_16 (o : OO) : Option (Int) := b_X8_exists_17 o 0
noncomputable def s_X8_exists (o : OO) (x1 : Int) : Option (Int) := qLt x1 0 (b_X8_exists_16 o) (qLt x1 (o.1 1 0) (b_X8_exists_17 o 1) (b_X8_exists_16 o))
set_option maxHeartbeats 4000000 in
set_option maxRecDepth 100000 in
theorem c_X8_exists (l : Launch) (g : GG) (ad : Nat → Nat) (o : OO) (x1 : Int) (v : Int) (h : s_X8_exists o x1 = some v) : CI l g yX8_exists cX8_exists 2 (some .boolean) 0 0 (wC g ad o) [.ref (ad 1), iv x1] v (wC g ad o) := by
  refine met_I (by decide) (Nat.le_of_ble_eq_true rfl) ?_
  intro X E hQ
  show Go X 0 (wC g ad o) [(0, .ref (ad 1)), (1, iv x1)] []
  have j17 : ∀ (y0 : Int), b_X8_exists_17 o y0 = some v → Go X 17 (wC g ad o) [] [iv y0] := by
    intro y0 h
    unfold b_X8_exists_17 at h
    obtain ⟨hz, h⟩ := qZ_of h
    exact g_zret E hQ hz (Option.some.inj h) rfl gdX8_exists_17
  have j16 : b_X8_exists_16 o = some v → Go X 16 (wC g ad o) [] [] := by
    intro h
    unfold b_X8_exists_16 at h
    refine g_iconst E gdX8_exists_16 ?_
    exact j17 0 h
  unfold s_X8_exists at h
  refine g_iload_n E gdX8_exists_0 rfl 1 rfl ?_
  refine g_if_lt E 16 gdX8_exists_1 (by decide) h (fun h => ?_) (fun h => ?_)
  ·
    refine g_sub E [] rfl ?_
    exact j16  h
  ·
    refine g_iload_n E gdX8_exists_4 rfl 1 rfl ?_
    refine g_aload_n E gdX8_exists_5 rfl 0 rfl ?_
    refine g_get (T := TX8) E fw_X8 1 (wC_1 g ad o) rfl 0 (by decide) w_126 rfl rfl gdX8_exists_6 ?_
    refine g_icmp_ge E 16 gdX8_exists_9 (by decide) h (fun h => ?_) (fun h => ?_)
    ·
      refine g_sub E [] rfl ?_
      exact j16  h
    ·
      refine g_iconst E gdX8_exists_12 ?_
      refine g_goto E 17 gdX8_exists_13 (by decide) ?_
      refine g_sub E [] rfl ?_
      exact j17 1 h
noncomputable def b_X8_isThere_15 (o : OO) (y0 : Int) : Option (Int) := qZ y0 (some y0)
noncomputable def s_X8_isThere (o : OO) (x1 : Int) : Option (Int) := qIn x1 6 (qNm (o.1 2 x1.toNat) (fun n2 => qEq n2 (-1) (b_X8_isThere_15 o 0) (b_X8_isThere_15 o 1)))
set_option maxHeartbeats 4000000 in
set_option maxRecDepth 100000 in
theorem c_X8_isThere (l : Launch) (g : GG) (ad : Nat → Nat) (o : OO) (x1 : Int) (v : Int) (h : s_X8_isThere o x1 = some v) : CI l g yX8_isThere cX8_isThere 2 (some .boolean) 0 0 (wC g ad o) [.ref (ad 1), iv x1] v (wC g ad o) := by
  refine met_I (by decide) (Nat.le_of_ble_eq_true rfl) ?_
  intro X E hQ
  show Go X 0 (wC g ad o) [(0, .ref (ad 1)), (1, iv x1)] []
  have j15 : ∀ (y0 : Int), b_X8_isThere_15 o y0 = some v → Go X 15 (wC g ad o) [] [iv y0] := by
    intro y0 h
    unfold b_X8_isThere_15 at h
    obtain ⟨hz, h⟩ := qZ_of h
    exact g_zret E hQ hz (Option.some.inj h) rfl gdX8_isThere_15
  unfold s_X8_isThere at h
  refine g_aload_n E gdX8_isThere_0 rfl 0 rfl ?_
  refine g_get (T := TX8) E fw_X8 1 (wC_1 g ad o) rfl 2 (by decide) w_128 rfl rfl gdX8_isThere_1 ?_
  refine g_iload_n E gdX8_isThere_4 rfl 1 rfl ?_
  obtain ⟨hi1, h⟩ := qIn_of h
  refine g_iald E 2 (wC_2 g ad o) (by decide) hi1 gdX8_isThere_5 ?_
  obtain ⟨n2, e_n2, h⟩ := qNm_of h
  refine g_nmi e_n2 ?_
  refine g_iconst E gdX8_isThere_6 ?_
  refine g_icmp_eq E 14 gdX8_isThere_7 (by decide) h (fun h => ?_) (fun h => ?_)
  ·
    refine g_iconst E gdX8_isThere_14 ?_
    refine g_sub E [] rfl ?_
    exact j15 0 h
  ·
    refine g_iconst E gdX8_isThere_10 ?_
    refine g_goto E 15 gdX8_isThere_11 (by decide) ?_
    refine g_sub E [] rfl ?_
    exact j15 1 h
noncomputable def s_X11_found (o : OO) (x1 : Int) : Option (Int × OO) := qNm (st1 o 0 17 x1) (fun o1 => qIn x1 6 (qNm (o1.1 77 x1.toNat) (fun n3 => qIn x1 6 (qNm (st1 o1 77 x1.toNat (n3 + 1)) (fun o5 => some ((-3), o5))))))
set_option maxHeartbeats 4000000 in
set_option maxRecDepth 100000 in
theorem c_X11_found (l : Launch) (g : GG) (ad : Nat → Nat) (o : OO) (x1 : Int) (v : Int × OO) (h : s_X11_found o x1 = some v) : CI l g yX11_found cX11_found 2 (some .int) 0 0 (wC g ad o) [.ref (ad 0), iv x1] v.1 (wC g ad v.2) := by
  refine met_I (by decide) (Nat.le_of_ble_eq_true rfl) ?_
  intro X E hQ
  show Go X 0 (wC g ad o) [(0, .ref (ad 0)), (1, iv x1)] []
  unfold s_X11_found at h
  refine g_aload_n E gdX11_found_0 rfl 0 rfl ?_
  refine g_iload_n E gdX11_found_1 rfl 1 rfl ?_
  obtain ⟨o1, e_o1, h⟩ := qNm_of h
  refine g_puti (T := TX11) (ws' := wC g ad o1) E fw_X11 tyX11 tyX11_ok nmX11 0 (wC_0 g ad o) rfl 17 (by decide) w_475 rfl rfl (by decide +kernel) (Nat.le_of_ble_eq_true rfl) (by rw [e_o1]; exact wC_p0_17 g ad o _) gdX11_found_2 ?_
  refine g_aload_n E gdX11_found_5 rfl 0 rfl ?_
  refine g_get (T := TX11) E fw_X11 0 (wC_0 g ad o1) rfl 12 (by decide) w_470 rfl rfl gdX11_found_6 ?_
  refine g_iload_n E gdX11_found_9 rfl 1 rfl ?_
  refine g_dup2 E gdX11_found_10 rfl rfl ?_
  obtain ⟨hi2, h⟩ := qIn_of h
  refine g_iald E 77 (wC_77 g ad o1) (by decide) hi2 gdX11_found_11 ?_
  obtain ⟨n3, e_n3, h⟩ := qNm_of h
  refine g_nmi e_n3 ?_
  refine g_iconst E gdX11_found_12 ?_
  refine g_iadd E gdX11_found_13 ?_
  obtain ⟨hi4, h⟩ := qIn_of h
  obtain ⟨o5, e_o5, h⟩ := qNm_of h
  refine g_iast (ws' := wC g ad o5) E 77 (wC_77 g ad o1) (by decide) hi4 (by rw [e_o5]; exact wC_s77 g ad o1 _ _) gdX11_found_14 ?_
  refine g_bipush E gdX11_found_15 (by decide) ?_
  exact g_iret E hQ (by rw [← Option.some.inj h]) (by rw [← Option.some.inj h]) gdX11_found_17
noncomputable def b_X8_holds_19 (o : OO) (y0 : Int) : Option (Int) := qZ y0 (some y0)
noncomputable def b_X8_holds_18 (o : OO) : Option (Int) := b_X8_holds_19 o 0
noncomputable def s_X8_holds (o : OO) (x1 : Int) (x2 : Int) : Option (Int) := qLt x2 0 (b_X8_holds_18 o) (qIn x1 6 (qNm (o.1 2 x1.toNat) (fun n2 => qLt x2 n2 (b_X8_holds_19 o 1) (b_X8_holds_18 o))))
set_option maxHeartbeats 4000000 in
set_option maxRecDepth 100000 in
theorem c_X8_holds (l : Launch) (g : GG) (ad : Nat → Nat) (o : OO) (x1 : Int) (x2 : Int) (v : Int) (h : s_X8_holds o x1 x2 = some v) : CI l g yX8_holds cX8_holds 3 (some .boolean) 0 0 (wC g ad o) [.ref (ad 1), iv x1, iv x2] v (wC g ad o) := by
  refine met_I (by decide) (Nat.le_of_ble_eq_true rfl) ?_
  intro X E hQ
  show Go X 0 (wC g ad o) [(0, .ref (ad 1)), (1, iv x1), (2, iv x2)] []
  have j19 : ∀ (y0 : Int), b_X8_holds_19 o y0 = some v → Go X 19 (wC g ad o) [] [iv y0] := by
    intro y0 h
    unfold b_X8_holds_19 at h
    obtain ⟨hz, h⟩ := qZ_of h
    exact g_zret E hQ hz (Option.some.inj h) rfl gdX8_holds_19
  have j18 : b_X8_holds_18 o = some v → Go X 18 (wC g ad o) [] [] := by
    intro h
    unfold b_X8_holds_18 at h
    refine g_iconst E gdX8_holds_18 ?_
    exact j19 0 h
  unfold s_X8_holds at h
  refine g_iload_n E gdX8_holds_0 rfl 2 rfl ?_
  refine g_if_lt E 18 gdX8_holds_1 (by decide) h (fun h => ?_) (fun h => ?_)
  ·
    refine g_sub E [] rfl ?_
    exact j18  h
  ·
    refine g_iload_n E gdX8_holds_4 rfl 2 rfl ?_
    refine g_aload_n E gdX8_holds_5 rfl 0 rfl ?_
    refine g_get (T := TX8) E fw_X8 1 (wC_1 g ad o) rfl 2 (by decide) w_128 rfl rfl gdX8_holds_6 ?_
    refine g_iload_n E gdX8_holds_9 rfl 1 rfl ?_
    obtain ⟨hi1, h⟩ := qIn_of h
    refine g_iald E 2 (wC_2 g ad o) (by decide) hi1 gdX8_holds_10 ?_
    obtain ⟨n2, e_n2, h⟩ := qNm_of h
    refine g_nmi e_n2 ?_
    refine g_icmp_ge E 18 gdX8_holds_11 (by decide) h (fun h => ?_) (fun h => ?_)
    ·
      refine g_sub E [] rfl ?_
      exact j18  h
    ·
      refine g_iconst E gdX8_holds_14 ?_
      refine g_goto E 19 gdX8_holds_15 (by decide) ?_
      refine g_sub E [] rfl ?_
      exact j19 1 h
noncomputable def s_X8_exchange (o : OO) (x1 : Int) (x2 : Int) (x3 : Int) : Option (Int × OO) := qIn ((x1 * 40) + x2) 240 (qNm (o.1 3 ((x1 * 40) + x2).toNat) (fun n2 => qIn ((x1 * 40) + x2) 240 (qNm (st1 o 3 (((x1 * 40) + x2).toNat) x3) (fun o4 => some (n2, o4)))))
set_option maxHeartbeats 4000000 in
set_option maxRecDepth 100000 in
theorem c_X8_exchange (l : Launch) (g : GG) (ad : Nat → Nat) (o : OO) (x1 : Int) (x2 : Int) (x3 : Int) (v : Int × OO) (h : s_X8_exchange o x1 x2 x3 = some v) : CI l g yX8_exchange cX8_exchange 5 (some .int) 0 0 (wC g ad o) [.ref (ad 1), iv x1, iv x2, iv x3] v.1 (wC g ad v.2) := by
  refine met_I (by decide) (Nat.le_of_ble_eq_true rfl) ?_
  intro X E hQ
  show Go X 0 (wC g ad o) [(0, .ref (ad 1)), (1, iv x1), (2, iv x2), (3, iv x3)] []
  unfold s_X8_exchange at h
  refine g_aload_n E gdX8_exchange_0 rfl 0 rfl ?_
  refine g_get (T := TX8) E fw_X8 1 (wC_1 g ad o) rfl 3 (by decide) w_129 rfl rfl gdX8_exchange_1 ?_
  refine g_iload_n E gdX8_exchange_4 rfl 1 rfl ?_
  refine g_bipush E gdX8_exchange_5 (by decide) ?_
  refine g_imul E gdX8_exchange_7 ?_
  refine g_iload_n E gdX8_exchange_8 rfl 2 rfl ?_
  refine g_iadd E gdX8_exchange_9 ?_
  obtain ⟨hi1, h⟩ := qIn_of h
  refine g_iald E 3 (wC_3 g ad o) (by decide) hi1 gdX8_exchange_10 ?_
  obtain ⟨n2, e_n2, h⟩ := qNm_of h
  refine g_nmi e_n2 ?_
  refine g_istore E [(4, iv n2), (0, .ref (ad 1)), (1, iv x1), (2, iv x2), (3, iv x3)] gdX8_exchange_11 (by decide) rfl ?_
  refine g_aload_n E gdX8_exchange_13 rfl 1 rfl ?_
  refine g_get (T := TX8) E fw_X8 1 (wC_1 g ad o) rfl 3 (by decide) w_129 rfl rfl gdX8_exchange_14 ?_
  refine g_iload_n E gdX8_exchange_17 rfl 2 rfl ?_
  refine g_bipush E gdX8_exchange_18 (by decide) ?_
  refine g_imul E gdX8_exchange_20 ?_
  refine g_iload_n E gdX8_exchange_21 rfl 3 rfl ?_
  refine g_iadd E gdX8_exchange_22 ?_
  refine g_iload_n E gdX8_exchange_23 rfl 4 rfl ?_
  obtain ⟨hi3, h⟩ := qIn_of h
  obtain ⟨o4, e_o4, h⟩ := qNm_of h
  refine g_iast (ws' := wC g ad o4) E 3 (wC_3 g ad o) (by decide) hi3 (by rw [e_o4]; exact wC_s3 g ad o _ _) gdX8_exchange_24 ?_
  refine g_iload E gdX8_exchange_25 0 rfl ?_
  exact g_iret E hQ (by rw [← Option.some.inj h]) (by rw [← Option.some.inj h]) gdX8_exchange_27
noncomputable def s_X11_lay (o : OO) (x1 : Int) (x2 : Int) (x3 : Int) : Option (Int × OO) := qB (s_X8_exists o x1) (fun r1 => qEq r1 0 (some ((-1), o)) (qB (s_X8_isThere o x1) (fun r3 => qEq r3 0 (qB2 (s_X11_found o 1) (fun r16 o18 => some (r16, o18))) (qB (s_X8_holds o x1 x2) (fun r5 => qEq r5 0 (qB2 (s_X11_found o 2) (fun r13 o15 => some (r13, o15))) (qB2 (s_X8_exchange o x1 x2 x3) (fun r7 o9 => qB2 (s_X11_tell o9 r7) (fun r10 o12 => some (r10, o12)))))))))
set_option maxHeartbeats 4000000 in
set_option maxRecDepth 100000 in
theorem c_X11_lay (l : Launch) (g : GG) (ad : Nat → Nat) (o : OO) (x1 : Int) (x2 : Int) (x3 : Int) (v : Int × OO) (h : s_X11_lay o x1 x2 x3 = some v) : CI l g yX11_lay cX11_lay 4 (some .int) 1 24 (wC g ad o) [.ref (ad 0), iv x1, iv x2, iv x3] v.1 (wC g ad v.2) := by
  refine met_I (by decide) (Nat.le_of_ble_eq_true rfl) ?_
  intro X E hQ
  show Go X 0 (wC g ad o) [(0, .ref (ad 0)), (1, iv x1), (2, iv x2), (3, iv x3)] []
  unfold s_X11_lay at h
  refine g_aload_n E gdX11_lay_0 rfl 0 rfl ?_
  refine g_get (T := TX11) E fw_X11 0 (wC_0 g ad o) rfl 0 (by decide) w_458 rfl rfl gdX11_lay_1 ?_
  refine g_iload_n E gdX11_lay_4 rfl 1 rfl ?_
  obtain ⟨r1, hc2, h⟩ := qB_of h
  refine g_Vi (r := r1) (As := [iv x1]) (rest := []) (w := wC g ad o) E (c_X8_exists l g ad o x1 r1 hc2) okm_X8_exists okw_X8_exists w_517 rfl (wC_1 g ad o) rfl rfl (Nat.le_of_ble_eq_true rfl) ⟨Nat.le_of_ble_eq_true rfl, Nat.le_of_ble_eq_true rfl⟩ gdX11_lay_5 ?_
  refine g_if_ne E 13 gdX11_lay_8 (by decide) h (fun h => ?_) (fun h => ?_)
  ·
    refine g_aload_n E gdX11_lay_13 rfl 0 rfl ?_
    refine g_get (T := TX11) E fw_X11 0 (wC_0 g ad o) rfl 0 (by decide) w_458 rfl rfl gdX11_lay_14 ?_
    refine g_iload_n E gdX11_lay_17 rfl 1 rfl ?_
    obtain ⟨r3, hc4, h⟩ := qB_of h
    refine g_Vi (r := r3) (As := [iv x1]) (rest := []) (w := wC g ad o) E (c_X8_isThere l g ad o x1 r3 hc4) okm_X8_isThere okw_X8_isThere w_539 rfl (wC_1 g ad o) rfl rfl (Nat.le_of_ble_eq_true rfl) ⟨Nat.le_of_ble_eq_true rfl, Nat.le_of_ble_eq_true rfl⟩ gdX11_lay_18 ?_
    refine g_if_ne E 30 gdX11_lay_21 (by decide) h (fun h => ?_) (fun h => ?_)
    ·
      refine g_aload_n E gdX11_lay_30 rfl 0 rfl ?_
      refine g_get (T := TX11) E fw_X11 0 (wC_0 g ad o) rfl 0 (by decide) w_458 rfl rfl gdX11_lay_31 ?_
      refine g_iload_n E gdX11_lay_34 rfl 1 rfl ?_
      refine g_iload_n E gdX11_lay_35 rfl 2 rfl ?_
      obtain ⟨r5, hc6, h⟩ := qB_of h
      refine g_Vi (r := r5) (As := [iv x1, iv x2]) (rest := []) (w := wC g ad o) E (c_X8_holds l g ad o x1 x2 r5 hc6) okm_X8_holds okw_X8_holds w_543 rfl (wC_1 g ad o) rfl rfl (Nat.le_of_ble_eq_true rfl) ⟨Nat.le_of_ble_eq_true rfl, Nat.le_of_ble_eq_true rfl⟩ gdX11_lay_36 ?_
      refine g_if_ne E 48 gdX11_lay_39 (by decide) h (fun h => ?_) (fun h => ?_)
      ·
        refine g_aload_n E gdX11_lay_48 rfl 0 rfl ?_
        refine g_aload_n E gdX11_lay_49 rfl 0 rfl ?_
        refine g_get (T := TX11) E fw_X11 0 (wC_0 g ad o) rfl 0 (by decide) w_458 rfl rfl gdX11_lay_50 ?_
        refine g_iload_n E gdX11_lay_53 rfl 1 rfl ?_
        refine g_iload_n E gdX11_lay_54 rfl 2 rfl ?_
        refine g_iload_n E gdX11_lay_55 rfl 3 rfl ?_
        obtain ⟨r7, o9, hc8, h⟩ := qB2_of h
        refine g_Vi (r := r7) (As := [iv x1, iv x2, iv x3]) (rest := [.ref (ad 0)]) (w := wC g ad o9) E (c_X8_exchange l g ad o x1 x2 x3 (r7, o9) hc8) okm_X8_exchange okw_X8_exchange w_547 rfl (wC_1 g ad o) rfl rfl (Nat.le_of_ble_eq_true rfl) ⟨Nat.le_of_ble_eq_true rfl, Nat.le_of_ble_eq_true rfl⟩ gdX11_lay_56 ?_
        obtain ⟨r10, o12, hc11, h⟩ := qB2_of h
        refine g_Vi (r := r10) (As := [iv r7]) (rest := []) (w := wC g ad o12) E (c_X11_tell l g ad o9 r7 (r10, o12) hc11) okm_X11_tell okw_X11_tell w_551 rfl (wC_0 g ad o9) rfl rfl (Nat.le_of_ble_eq_true rfl) ⟨Nat.le_of_ble_eq_true rfl, Nat.le_of_ble_eq_true rfl⟩ gdX11_lay_59 ?_
        exact g_iret E hQ (by rw [← Option.some.inj h]) (by rw [← Option.some.inj h]) gdX11_lay_62
      ·
        refine g_aload_n E gdX11_lay_42 rfl 0 rfl ?_
        refine g_iconst E gdX11_lay_43 ?_
        obtain ⟨r13, o15, hc14, h⟩ := qB2_of h
        refine g_Vi (r := r13) (As := [iv 2]) (rest := []) (w := wC g ad o15) E (c_X11_found l g ad o 2 (r13, o15) hc14) okm_X11_found okw_X11_found w_521 rfl (wC_0 g ad o) rfl rfl (Nat.le_of_ble_eq_true rfl) ⟨Nat.le_of_ble_eq_true rfl, Nat.le_of_ble_eq_true rfl⟩ gdX11_lay_44 ?_
        exact g_iret E hQ (by rw [← Option.some.inj h]) (by rw [← Option.some.inj h]) gdX11_lay_47
    ·
      refine g_aload_n E gdX11_lay_24 rfl 0 rfl ?_
      refine g_iconst E gdX11_lay_25 ?_
      obtain ⟨r16, o18, hc17, h⟩ := qB2_of h
      refine g_Vi (r := r16) (As := [iv 1]) (rest := []) (w := wC g ad o18) E (c_X11_found l g ad o 1 (r16, o18) hc17) okm_X11_found okw_X11_found w_521 rfl (wC_0 g ad o) rfl rfl (Nat.le_of_ble_eq_true rfl) ⟨Nat.le_of_ble_eq_true rfl, Nat.le_of_ble_eq_true rfl⟩ gdX11_lay_26 ?_
      exact g_iret E hQ (by rw [← Option.some.inj h]) (by rw [← Option.some.inj h]) gdX11_lay_29
  ·
    refine g_iconst E gdX11_lay_11 ?_
    exact g_iret E hQ (by rw [← Option.some.inj h]) (by rw [← Option.some.inj h]) gdX11_lay_12
noncomputable def b_X8_exists__4_17 (o : OO) (y0 : Int) : Option (Int) := qZ y0 (some y0)
noncomputable def b_X8_exists__4_16 (o : OO) : Option (Int) := b_X8_exists__4_17 o 0
noncomputable def s_X8_exists__4 (o : OO) (x1 : Int) : Option (Int) := qLt x1 0 (b_X8_exists__4_16 o) (qLt x1 (o.1 4 0) (b_X8_exists__4_17 o 1) (b_X8_exists__4_16 o))
set_option maxHeartbeats 4000000 in
set_option maxRecDepth 100000 in
theorem c_X8_exists__4 (l : Launch) (g : GG) (ad : Nat → Nat) (o : OO) (x1 : Int) (v : Int) (h : s_X8_exists__4 o x1 = some v) : CI l g yX8_exists cX8_exists 2 (some .boolean) 0 0 (wC g ad o) [.ref (ad 4), iv x1] v (wC g ad o) := by
  refine met_I (by decide) (Nat.le_of_ble_eq_true rfl) ?_
  intro X E hQ
  show Go X 0 (wC g ad o) [(0, .ref (ad 4)), (1, iv x1)] []
  have j17 : ∀ (y0 : Int), b_X8_exists__4_17 o y0 = some v → Go X 17 (wC g ad o) [] [iv y0] := by
    intro y0 h
    unfold b_X8_exists__4_17 at h
    obtain ⟨hz, h⟩ := qZ_of h
    exact g_zret E hQ hz (Option.some.inj h) rfl gdX8_exists_17
  have j16 : b_X8_exists__4_16 o = some v → Go X 16 (wC g ad o) [] [] := by
    intro h
    unfold b_X8_exists__4_16 at h
    refine g_iconst E gdX8_exists_16 ?_
    exact j17 0 h
  unfold s_X8_exists__4 at h
  refine g_iload_n E gdX8_exists_0 rfl 1 rfl ?_
  refine g_if_lt E 16 gdX8_exists_1 (by decide) h (fun h => ?_) (fun h => ?_)
  ·
    refine g_sub E [] rfl ?_
    exact j16  h
  ·
    refine g_iload_n E gdX8_exists_4 rfl 1 rfl ?_
    refine g_aload_n E gdX8_exists_5 rfl 0 rfl ?_
    refine g_get (T := TX8) E fw_X8 4 (wC_4 g ad o) rfl 0 (by decide) w_126 rfl rfl gdX8_exists_6 ?_
    refine g_icmp_ge E 16 gdX8_exists_9 (by decide) h (fun h => ?_) (fun h => ?_)
    ·
      refine g_sub E [] rfl ?_
      exact j16  h
    ·
      refine g_iconst E gdX8_exists_12 ?_
      refine g_goto E 17 gdX8_exists_13 (by decide) ?_
      refine g_sub E [] rfl ?_
      exact j17 1 h
noncomputable def b_X8_isThere__4_15 (o : OO) (y0 : Int) : Option (Int) := qZ y0 (some y0)
noncomputable def s_X8_isThere__4 (o : OO) (x1 : Int) : Option (Int) := qIn x1 6 (qNm (o.1 5 x1.toNat) (fun n2 => qEq n2 (-1) (b_X8_isThere__4_15 o 0) (b_X8_isThere__4_15 o 1)))
set_option maxHeartbeats 4000000 in
set_option maxRecDepth 100000 in
theorem c_X8_isThere__4 (l : Launch) (g : GG) (ad : Nat → Nat) (o : OO) (x1 : Int) (v : Int) (h : s_X8_isThere__4 o x1 = some v) : CI l g yX8_isThere cX8_isThere 2 (some .boolean) 0 0 (wC g ad o) [.ref (ad 4), iv x1] v (wC g ad o) := by
  refine met_I (by decide) (Nat.le_of_ble_eq_true rfl) ?_
  intro X E hQ
  show Go X 0 (wC g ad o) [(0, .ref (ad 4)), (1, iv x1)] []
  have j15 : ∀ (y0 : Int), b_X8_isThere__4_15 o y0 = some v → Go X 15 (wC g ad o) [] [iv y0] := by
    intro y0 h
    unfold b_X8_isThere__4_15 at h
    obtain ⟨hz, h⟩ := qZ_of h
    exact g_zret E hQ hz (Option.some.inj h) rfl gdX8_isThere_15
  unfold s_X8_isThere__4 at h
  refine g_aload_n E gdX8_isThere_0 rfl 0 rfl ?_
  refine g_get (T := TX8) E fw_X8 4 (wC_4 g ad o) rfl 2 (by decide) w_128 rfl rfl gdX8_isThere_1 ?_
  refine g_iload_n E gdX8_isThere_4 rfl 1 rfl ?_
  obtain ⟨hi1, h⟩ := qIn_of h
  refine g_iald E 5 (wC_5 g ad o) (by decide) hi1 gdX8_isThere_5 ?_
  obtain ⟨n2, e_n2, h⟩ := qNm_of h
  refine g_nmi e_n2 ?_
  refine g_iconst E gdX8_isThere_6 ?_
  refine g_icmp_eq E 14 gdX8_isThere_7 (by decide) h (fun h => ?_) (fun h => ?_)
  ·
    refine g_iconst E gdX8_isThere_14 ?_
    refine g_sub E [] rfl ?_
    exact j15 0 h
  ·
    refine g_iconst E gdX8_isThere_10 ?_
    refine g_goto E 15 gdX8_isThere_11 (by decide) ?_
    refine g_sub E [] rfl ?_
    exact j15 1 h
noncomputable def b_X8_holds__4_19 (o : OO) (y0 : Int) : Option (Int) := qZ y0 (some y0)
noncomputable def b_X8_holds__4_18 (o : OO) : Option (Int) := b_X8_holds__4_19 o 0
noncomputable def s_X8_holds__4 (o : OO) (x1 : Int) (x2 : Int) : Option (Int) := qLt x2 0 (b_X8_holds__4_18 o) (qIn x1 6 (qNm (o.1 5 x1.toNat) (fun n2 => qLt x2 n2 (b_X8_holds__4_19 o 1) (b_X8_holds__4_18 o))))
set_option maxHeartbeats 4000000 in
set_option maxRecDepth 100000 in
theorem c_X8_holds__4 (l : Launch) (g : GG) (ad : Nat → Nat) (o : OO) (x1 : Int) (x2 : Int) (v : Int) (h : s_X8_holds__4 o x1 x2 = some v) : CI l g yX8_holds cX8_holds 3 (some .boolean) 0 0 (wC g ad o) [.ref (ad 4), iv x1, iv x2] v (wC g ad o) := by
  refine met_I (by decide) (Nat.le_of_ble_eq_true rfl) ?_
  intro X E hQ
  show Go X 0 (wC g ad o) [(0, .ref (ad 4)), (1, iv x1), (2, iv x2)] []
  have j19 : ∀ (y0 : Int), b_X8_holds__4_19 o y0 = some v → Go X 19 (wC g ad o) [] [iv y0] := by
    intro y0 h
    unfold b_X8_holds__4_19 at h
    obtain ⟨hz, h⟩ := qZ_of h
    exact g_zret E hQ hz (Option.some.inj h) rfl gdX8_holds_19
  have j18 : b_X8_holds__4_18 o = some v → Go X 18 (wC g ad o) [] [] := by
    intro h
    unfold b_X8_holds__4_18 at h
    refine g_iconst E gdX8_holds_18 ?_
    exact j19 0 h
  unfold s_X8_holds__4 at h
  refine g_iload_n E gdX8_holds_0 rfl 2 rfl ?_
  refine g_if_lt E 18 gdX8_holds_1 (by decide) h (fun h => ?_) (fun h => ?_)
  ·
    refine g_sub E [] rfl ?_
    exact j18  h
  ·
    refine g_iload_n E gdX8_holds_4 rfl 2 rfl ?_
    refine g_aload_n E gdX8_holds_5 rfl 0 rfl ?_
    refine g_get (T := TX8) E fw_X8 4 (wC_4 g ad o) rfl 2 (by decide) w_128 rfl rfl gdX8_holds_6 ?_
    refine g_iload_n E gdX8_holds_9 rfl 1 rfl ?_
    obtain ⟨hi1, h⟩ := qIn_of h
    refine g_iald E 5 (wC_5 g ad o) (by decide) hi1 gdX8_holds_10 ?_
    obtain ⟨n2, e_n2, h⟩ := qNm_of h
    refine g_nmi e_n2 ?_
    refine g_icmp_ge E 18 gdX8_holds_11 (by decide) h (fun h => ?_) (fun h => ?_)
    ·
      refine g_sub E [] rfl ?_
      exact j18  h
    ·
      refine g_iconst E gdX8_holds_14 ?_
      refine g_goto E 19 gdX8_holds_15 (by decide) ?_
      refine g_sub E [] rfl ?_
      exact j19 1 h
noncomputable def s_X8_exchange__4 (o : OO) (x1 : Int) (x2 : Int) (x3 : Int) : Option (Int × OO) := qIn ((x1 * 40) + x2) 240 (qNm (o.1 6 ((x1 * 40) + x2).toNat) (fun n2 => qIn ((x1 * 40) + x2) 240 (qNm (st1 o 6 (((x1 * 40) + x2).toNat) x3) (fun o4 => some (n2, o4)))))
set_option maxHeartbeats 4000000 in
set_option maxRecDepth 100000 in
theorem c_X8_exchange__4 (l : Launch) (g : GG) (ad : Nat → Nat) (o : OO) (x1 : Int) (x2 : Int) (x3 : Int) (v : Int × OO) (h : s_X8_exchange__4 o x1 x2 x3 = some v) : CI l g yX8_exchange cX8_exchange 5 (some .int) 0 0 (wC g ad o) [.ref (ad 4), iv x1, iv x2, iv x3] v.1 (wC g ad v.2) := by
  refine met_I (by decide) (Nat.le_of_ble_eq_true rfl) ?_
  intro X E hQ
  show Go X 0 (wC g ad o) [(0, .ref (ad 4)), (1, iv x1), (2, iv x2), (3, iv x3)] []
  unfold s_X8_exchange__4 at h
  refine g_aload_n E gdX8_exchange_0 rfl 0 rfl ?_
  refine g_get (T := TX8) E fw_X8 4 (wC_4 g ad o) rfl 3 (by decide) w_129 rfl rfl gdX8_exchange_1 ?_
  refine g_iload_n E gdX8_exchange_4 rfl 1 rfl ?_
  refine g_bipush E gdX8_exchange_5 (by decide) ?_
  refine g_imul E gdX8_exchange_7 ?_
  refine g_iload_n E gdX8_exchange_8 rfl 2 rfl ?_
  refine g_iadd E gdX8_exchange_9 ?_
  obtain ⟨hi1, h⟩ := qIn_of h
  refine g_iald E 6 (wC_6 g ad o) (by decide) hi1 gdX8_exchange_10 ?_
  obtain ⟨n2, e_n2, h⟩ := qNm_of h
  refine g_nmi e_n2 ?_
  refine g_istore E [(4, iv n2), (0, .ref (ad 4)), (1, iv x1), (2, iv x2), (3, iv x3)] gdX8_exchange_11 (by decide) rfl ?_
  refine g_aload_n E gdX8_exchange_13 rfl 1 rfl ?_
  refine g_get (T := TX8) E fw_X8 4 (wC_4 g ad o) rfl 3 (by decide) w_129 rfl rfl gdX8_exchange_14 ?_
  refine g_iload_n E gdX8_exchange_17 rfl 2 rfl ?_
  refine g_bipush E gdX8_exchange_18 (by decide) ?_
  refine g_imul E gdX8_exchange_20 ?_
  refine g_iload_n E gdX8_exchange_21 rfl 3 rfl ?_
  refine g_iadd E gdX8_exchange_22 ?_
  refine g_iload_n E gdX8_exchange_23 rfl 4 rfl ?_
  obtain ⟨hi3, h⟩ := qIn_of h
  obtain ⟨o4, e_o4, h⟩ := qNm_of h
  refine g_iast (ws' := wC g ad o4) E 6 (wC_6 g ad o) (by decide) hi3 (by rw [e_o4]; exact wC_s6 g ad o _ _) gdX8_exchange_24 ?_
  refine g_iload E gdX8_exchange_25 0 rfl ?_
  exact g_iret E hQ (by rw [← Option.some.inj h]) (by rw [← Option.some.inj h]) gdX8_exchange_27
noncomputable def s_X11_put (o : OO) (x1 : Int) (x2 : Int) (x3 : Int) : Option (Int × OO) := qB (s_X8_exists__4 o x1) (fun r1 => qEq r1 0 (some ((-1), o)) (qB (s_X8_isThere__4 o x1) (fun r3 => qEq r3 0 (qB2 (s_X11_found o 1) (fun r13 o15 => some (r13, o15))) (qB (s_X8_holds__4 o x1 x2) (fun r5 => qEq r5 0 (qB2 (s_X11_found o 2) (fun r10 o12 => some (r10, o12))) (qB2 (s_X8_exchange__4 o x1 x2 (jb x3)) (fun r7 o9 => some (r7 + 1000, o9))))))))
set_option maxHeartbeats 4000000 in
set_option maxRecDepth 100000 in
theorem c_X11_put (l : Launch) (g : GG) (ad : Nat → Nat) (o : OO) (x1 : Int) (x2 : Int) (x3 : Int) (v : Int × OO) (h : s_X11_put o x1 x2 x3 = some v) : CI l g yX11_put cX11_put 4 (some .int) 1 24 (wC g ad o) [.ref (ad 0), iv x1, iv x2, iv x3] v.1 (wC g ad v.2) := by
  refine met_I (by decide) (Nat.le_of_ble_eq_true rfl) ?_
  intro X E hQ
  show Go X 0 (wC g ad o) [(0, .ref (ad 0)), (1, iv x1), (2, iv x2), (3, iv x3)] []
  unfold s_X11_put at h
  refine g_aload_n E gdX11_put_0 rfl 0 rfl ?_
  refine g_get (T := TX11) E fw_X11 0 (wC_0 g ad o) rfl 1 (by decide) w_459 rfl rfl gdX11_put_1 ?_
  refine g_iload_n E gdX11_put_4 rfl 1 rfl ?_
  obtain ⟨r1, hc2, h⟩ := qB_of h
  refine g_Vi (r := r1) (As := [iv x1]) (rest := []) (w := wC g ad o) E (c_X8_exists__4 l g ad o x1 r1 hc2) okm_X8_exists okw_X8_exists w_517 rfl (wC_4 g ad o) rfl rfl (Nat.le_of_ble_eq_true rfl) ⟨Nat.le_of_ble_eq_true rfl, Nat.le_of_ble_eq_true rfl⟩ gdX11_put_5 ?_
  refine g_if_ne E 13 gdX11_put_8 (by decide) h (fun h => ?_) (fun h => ?_)
  ·
    refine g_aload_n E gdX11_put_13 rfl 0 rfl ?_
    refine g_get (T := TX11) E fw_X11 0 (wC_0 g ad o) rfl 1 (by decide) w_459 rfl rfl gdX11_put_14 ?_
    refine g_iload_n E gdX11_put_17 rfl 1 rfl ?_
    obtain ⟨r3, hc4, h⟩ := qB_of h
    refine g_Vi (r := r3) (As := [iv x1]) (rest := []) (w := wC g ad o) E (c_X8_isThere__4 l g ad o x1 r3 hc4) okm_X8_isThere okw_X8_isThere w_539 rfl (wC_4 g ad o) rfl rfl (Nat.le_of_ble_eq_true rfl) ⟨Nat.le_of_ble_eq_true rfl, Nat.le_of_ble_eq_true rfl⟩ gdX11_put_18 ?_
    refine g_if_ne E 30 gdX11_put_21 (by decide) h (fun h => ?_) (fun h => ?_)
    ·
      refine g_aload_n E gdX11_put_30 rfl 0 rfl ?_
      refine g_get (T := TX11) E fw_X11 0 (wC_0 g ad o) rfl 1 (by decide) w_459 rfl rfl gdX11_put_31 ?_
      refine g_iload_n E gdX11_put_34 rfl 1 rfl ?_
      refine g_iload_n E gdX11_put_35 rfl 2 rfl ?_
      obtain ⟨r5, hc6, h⟩ := qB_of h
      refine g_Vi (r := r5) (As := [iv x1, iv x2]) (rest := []) (w := wC g ad o) E (c_X8_holds__4 l g ad o x1 x2 r5 hc6) okm_X8_holds okw_X8_holds w_543 rfl (wC_4 g ad o) rfl rfl (Nat.le_of_ble_eq_true rfl) ⟨Nat.le_of_ble_eq_true rfl, Nat.le_of_ble_eq_true rfl⟩ gdX11_put_36 ?_
      refine g_if_ne E 48 gdX11_put_39 (by decide) h (fun h => ?_) (fun h => ?_)
      ·
        refine g_aload_n E gdX11_put_48 rfl 0 rfl ?_
        refine g_get (T := TX11) E fw_X11 0 (wC_0 g ad o) rfl 1 (by decide) w_459 rfl rfl gdX11_put_49 ?_
        refine g_iload_n E gdX11_put_52 rfl 1 rfl ?_
        refine g_iload_n E gdX11_put_53 rfl 2 rfl ?_
        refine g_iload_n E gdX11_put_54 rfl 3 rfl ?_
        refine g_i2b E gdX11_put_55 ?_
        obtain ⟨r7, o9, hc8, h⟩ := qB2_of h
        refine g_Vi (r := r7) (As := [iv x1, iv x2, iv (jb x3)]) (rest := []) (w := wC g ad o9) E (c_X8_exchange__4 l g ad o x1 x2 (jb x3) (r7, o9) hc8) okm_X8_exchange okw_X8_exchange w_547 rfl (wC_4 g ad o) rfl rfl (Nat.le_of_ble_eq_true rfl) ⟨Nat.le_of_ble_eq_true rfl, Nat.le_of_ble_eq_true rfl⟩ gdX11_put_56 ?_
        refine g_sipush E gdX11_put_59 (by decide) ?_
        refine g_iadd E gdX11_put_62 ?_
        exact g_iret E hQ (by rw [← Option.some.inj h]) (by rw [← Option.some.inj h]) gdX11_put_63
      ·
        refine g_aload_n E gdX11_put_42 rfl 0 rfl ?_
        refine g_iconst E gdX11_put_43 ?_
        obtain ⟨r10, o12, hc11, h⟩ := qB2_of h
        refine g_Vi (r := r10) (As := [iv 2]) (rest := []) (w := wC g ad o12) E (c_X11_found l g ad o 2 (r10, o12) hc11) okm_X11_found okw_X11_found w_521 rfl (wC_0 g ad o) rfl rfl (Nat.le_of_ble_eq_true rfl) ⟨Nat.le_of_ble_eq_true rfl, Nat.le_of_ble_eq_true rfl⟩ gdX11_put_44 ?_
        exact g_iret E hQ (by rw [← Option.some.inj h]) (by rw [← Option.some.inj h]) gdX11_put_47
    ·
      refine g_aload_n E gdX11_put_24 rfl 0 rfl ?_
      refine g_iconst E gdX11_put_25 ?_
      obtain ⟨r13, o15, hc14, h⟩ := qB2_of h
      refine g_Vi (r := r13) (As := [iv 1]) (rest := []) (w := wC g ad o15) E (c_X11_found l g ad o 1 (r13, o15) hc14) okm_X11_found okw_X11_found w_521 rfl (wC_0 g ad o) rfl rfl (Nat.le_of_ble_eq_true rfl) ⟨Nat.le_of_ble_eq_true rfl, Nat.le_of_ble_eq_true rfl⟩ gdX11_put_26 ?_
      exact g_iret E hQ (by rw [← Option.some.inj h]) (by rw [← Option.some.inj h]) gdX11_put_29
  ·
    refine g_iconst E gdX11_put_11 ?_
    exact g_iret E hQ (by rw [← Option.some.inj h]) (by rw [← Option.some.inj h]) gdX11_put_12
