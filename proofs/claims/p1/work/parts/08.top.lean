set_option maxRecDepth 200000 in
theorem q_542 : Cond.code yX8_isThere cX8_isThere 2 (some .boolean) ∈ tb := tb_mem 542 (by rfl) rfl
set_option maxRecDepth 200000 in
theorem q_540 : Cond.instanceMethod yX8_isThere ∈ tb := tb_mem 540 (by decide +kernel) rfl
set_option maxRecDepth 200000 in
theorem q_541 : Cond.selects "CityRoad$Shelf" yX8_isThere yX8_isThere ∈ tb := tb_mem 541 (by decide +kernel) rfl
set_option maxRecDepth 200000 in
theorem q_539 : Cond.methodLink "CityRoad" 106 yX8_isThere ∈ tb := tb_mem 539 (by decide +kernel) rfl
set_option maxRecDepth 200000 in
theorem q_520 : Cond.code yX8_exists cX8_exists 2 (some .boolean) ∈ tb := tb_mem 520 (by rfl) rfl
set_option maxRecDepth 200000 in
theorem q_518 : Cond.instanceMethod yX8_exists ∈ tb := tb_mem 518 (by decide +kernel) rfl
set_option maxRecDepth 200000 in
theorem q_519 : Cond.selects "CityRoad$Shelf" yX8_exists yX8_exists ∈ tb := tb_mem 519 (by decide +kernel) rfl
set_option maxRecDepth 200000 in
theorem q_517 : Cond.methodLink "CityRoad" 95 yX8_exists ∈ tb := tb_mem 517 (by decide +kernel) rfl
set_option maxRecDepth 200000 in
theorem q_524 : Cond.code yX11_found cX11_found 2 (some .int) ∈ tb := tb_mem 524 (by rfl) rfl
set_option maxRecDepth 200000 in
theorem q_89 : Cond.initialized "CityRoad" ∈ tb := tb_mem 89 (by decide +kernel) rfl
set_option maxRecDepth 200000 in
theorem q_523 : Cond.instanceMethod yX11_found ∈ tb := tb_mem 523 (by decide +kernel) rfl
set_option maxRecDepth 200000 in
theorem q_0 : Cond.selects "CityRoad" yX11_found yX11_found ∈ tb := tb_mem 0 (by decide +kernel) rfl
set_option maxRecDepth 200000 in
theorem q_521 : Cond.methodLink "CityRoad" 99 yX11_found ∈ tb := tb_mem 521 (by decide +kernel) rfl
set_option maxRecDepth 200000 in
theorem q_471 : Cond.fieldLink "CityRoad" 136 "CityRoad" "today" "I" ∈ tb := tb_mem 471 (by decide +kernel) rfl
set_option maxRecDepth 200000 in
theorem q_623 : Cond.code yX3_isCell cX3_isCell 1 (some .boolean) ∈ tb := tb_mem 623 (by rfl) rfl
set_option maxRecDepth 200000 in
theorem q_622 : Cond.static yX3_isCell ∈ tb := tb_mem 622 (by decide +kernel) rfl
set_option maxRecDepth 200000 in
theorem q_621 : Cond.methodLink "CityRoad" 140 yX3_isCell ∈ tb := tb_mem 621 (by decide +kernel) rfl
set_option maxRecDepth 200000 in
theorem q_631 : Cond.code yX3_change cX3_change 4 none ∈ tb := tb_mem 631 (by rfl) rfl
set_option maxRecDepth 200000 in
theorem q_629 : Cond.instanceMethod yX3_change ∈ tb := tb_mem 629 (by decide +kernel) rfl
set_option maxRecDepth 200000 in
theorem q_630 : Cond.selects "CityRoad$Ground" yX3_change yX3_change ∈ tb := tb_mem 630 (by decide +kernel) rfl
set_option maxRecDepth 200000 in
theorem q_628 : Cond.methodLink "CityRoad" 146 yX3_change ∈ tb := tb_mem 628 (by decide +kernel) rfl
set_option maxRecDepth 200000 in
theorem q_627 : Cond.code yX1_standingOn cX1_standingOn 2 (some .int) ∈ tb := tb_mem 627 (by rfl) rfl
set_option maxRecDepth 200000 in
theorem q_625 : Cond.instanceMethod yX1_standingOn ∈ tb := tb_mem 625 (by decide +kernel) rfl
set_option maxRecDepth 200000 in
theorem q_626 : Cond.selects "CityRoad$Buildings" yX1_standingOn yX1_standingOn ∈ tb := tb_mem 626 (by decide +kernel) rfl
set_option maxRecDepth 200000 in
theorem q_624 : Cond.methodLink "CityRoad" 143 yX1_standingOn ∈ tb := tb_mem 624 (by decide +kernel) rfl
set_option maxRecDepth 200000 in
theorem q_638 : Cond.code yX1_isUse cX1_isUse 1 (some .boolean) ∈ tb := tb_mem 638 (by rfl) rfl
set_option maxRecDepth 200000 in
theorem q_637 : Cond.static yX1_isUse ∈ tb := tb_mem 637 (by decide +kernel) rfl
set_option maxRecDepth 200000 in
theorem q_636 : Cond.methodLink "CityRoad" 150 yX1_isUse ∈ tb := tb_mem 636 (by decide +kernel) rfl
set_option maxRecDepth 200000 in
theorem q_641 : Cond.code yX1_isWorth cX1_isWorth 1 (some .boolean) ∈ tb := tb_mem 641 (by rfl) rfl
set_option maxRecDepth 200000 in
theorem q_640 : Cond.static yX1_isWorth ∈ tb := tb_mem 640 (by decide +kernel) rfl
set_option maxRecDepth 200000 in
theorem q_639 : Cond.methodLink "CityRoad" 153 yX1_isWorth ∈ tb := tb_mem 639 (by decide +kernel) rfl
set_option maxRecDepth 200000 in
theorem q_646 : Cond.code yX1_number cX1_number 1 (some .int) ∈ tb := tb_mem 646 (by rfl) rfl
set_option maxRecDepth 200000 in
theorem q_644 : Cond.instanceMethod yX1_number ∈ tb := tb_mem 644 (by decide +kernel) rfl
set_option maxRecDepth 200000 in
theorem q_645 : Cond.selects "CityRoad$Buildings" yX1_number yX1_number ∈ tb := tb_mem 645 (by decide +kernel) rfl
set_option maxRecDepth 200000 in
theorem q_643 : Cond.methodLink "CityRoad" 156 yX1_number ∈ tb := tb_mem 643 (by decide +kernel) rfl
set_option maxRecDepth 200000 in
theorem q_650 : Cond.code yX1_tellingsLeft cX1_tellingsLeft 1 (some .int) ∈ tb := tb_mem 650 (by rfl) rfl
set_option maxRecDepth 200000 in
theorem q_648 : Cond.instanceMethod yX1_tellingsLeft ∈ tb := tb_mem 648 (by decide +kernel) rfl
set_option maxRecDepth 200000 in
theorem q_649 : Cond.selects "CityRoad$Buildings" yX1_tellingsLeft yX1_tellingsLeft ∈ tb := tb_mem 649 (by decide +kernel) rfl
set_option maxRecDepth 200000 in
theorem q_647 : Cond.methodLink "CityRoad" 160 yX1_tellingsLeft ∈ tb := tb_mem 647 (by decide +kernel) rfl
set_option maxRecDepth 200000 in
theorem q_654 : Cond.code yX3_isWater cX3_isWater 2 (some .boolean) ∈ tb := tb_mem 654 (by rfl) rfl
set_option maxRecDepth 200000 in
theorem q_652 : Cond.instanceMethod yX3_isWater ∈ tb := tb_mem 652 (by decide +kernel) rfl
set_option maxRecDepth 200000 in
theorem q_653 : Cond.selects "CityRoad$Ground" yX3_isWater yX3_isWater ∈ tb := tb_mem 653 (by decide +kernel) rfl
set_option maxRecDepth 200000 in
theorem q_651 : Cond.methodLink "CityRoad" 163 yX3_isWater ∈ tb := tb_mem 651 (by decide +kernel) rfl
set_option maxRecDepth 200000 in
theorem q_658 : Cond.code yX1_add cX1_add 7 (some .int) ∈ tb := tb_mem 658 (by rfl) rfl
set_option maxRecDepth 200000 in
theorem q_656 : Cond.instanceMethod yX1_add ∈ tb := tb_mem 656 (by decide +kernel) rfl
set_option maxRecDepth 200000 in
theorem q_657 : Cond.selects "CityRoad$Buildings" yX1_add yX1_add ∈ tb := tb_mem 657 (by decide +kernel) rfl
set_option maxRecDepth 200000 in
theorem q_655 : Cond.methodLink "CityRoad" 166 yX1_add ∈ tb := tb_mem 655 (by decide +kernel) rfl
set_option maxRecDepth 200000 in
theorem q_670 : Cond.code yX1_exists cX1_exists 2 (some .boolean) ∈ tb := tb_mem 670 (by rfl) rfl
set_option maxRecDepth 200000 in
theorem q_668 : Cond.instanceMethod yX1_exists ∈ tb := tb_mem 668 (by decide +kernel) rfl
set_option maxRecDepth 200000 in
theorem q_669 : Cond.selects "CityRoad$Buildings" yX1_exists yX1_exists ∈ tb := tb_mem 669 (by decide +kernel) rfl
set_option maxRecDepth 200000 in
theorem q_667 : Cond.methodLink "CityRoad" 170 yX1_exists ∈ tb := tb_mem 667 (by decide +kernel) rfl
set_option maxRecDepth 200000 in
theorem q_738 : Cond.code yX5_exists cX5_exists 2 (some .boolean) ∈ tb := tb_mem 738 (by rfl) rfl
set_option maxRecDepth 200000 in
theorem q_736 : Cond.instanceMethod yX5_exists ∈ tb := tb_mem 736 (by decide +kernel) rfl
set_option maxRecDepth 200000 in
theorem q_737 : Cond.selects "CityRoad$Persons" yX5_exists yX5_exists ∈ tb := tb_mem 737 (by decide +kernel) rfl
set_option maxRecDepth 200000 in
theorem q_735 : Cond.methodLink "CityRoad" 200 yX5_exists ∈ tb := tb_mem 735 (by decide +kernel) rfl
set_option maxRecDepth 200000 in
theorem q_885 : Cond.code yX4_exists cX4_exists 2 (some .boolean) ∈ tb := tb_mem 885 (by rfl) rfl
set_option maxRecDepth 200000 in
theorem q_883 : Cond.instanceMethod yX4_exists ∈ tb := tb_mem 883 (by decide +kernel) rfl
set_option maxRecDepth 200000 in
theorem q_884 : Cond.selects "CityRoad$Marks" yX4_exists yX4_exists ∈ tb := tb_mem 884 (by decide +kernel) rfl
set_option maxRecDepth 200000 in
theorem q_882 : Cond.methodLink "CityRoad" 250 yX4_exists ∈ tb := tb_mem 882 (by decide +kernel) rfl
set_option maxRecDepth 200000 in
theorem q_1305 : Cond.code yX0_exists cX0_exists 2 (some .boolean) ∈ tb := tb_mem 1305 (by rfl) rfl
set_option maxRecDepth 200000 in
theorem q_1303 : Cond.instanceMethod yX0_exists ∈ tb := tb_mem 1303 (by decide +kernel) rfl
set_option maxRecDepth 200000 in
theorem q_1304 : Cond.selects "CityRoad$Acts" yX0_exists yX0_exists ∈ tb := tb_mem 1304 (by decide +kernel) rfl
set_option maxRecDepth 200000 in
theorem q_1302 : Cond.methodLink "CityRoad" 427 yX0_exists ∈ tb := tb_mem 1302 (by decide +kernel) rfl
set_option maxRecDepth 200000 in
theorem q_706 : Cond.code yX5_number cX5_number 1 (some .int) ∈ tb := tb_mem 706 (by rfl) rfl
set_option maxRecDepth 200000 in
theorem q_704 : Cond.instanceMethod yX5_number ∈ tb := tb_mem 704 (by decide +kernel) rfl
set_option maxRecDepth 200000 in
theorem q_705 : Cond.selects "CityRoad$Persons" yX5_number yX5_number ∈ tb := tb_mem 705 (by decide +kernel) rfl
set_option maxRecDepth 200000 in
theorem q_703 : Cond.methodLink "CityRoad" 190 yX5_number ∈ tb := tb_mem 703 (by decide +kernel) rfl
set_option maxRecDepth 200000 in
theorem q_718 : Cond.code yX5_add cX5_add 5 (some .int) ∈ tb := tb_mem 718 (by rfl) rfl
set_option maxRecDepth 200000 in
theorem q_716 : Cond.instanceMethod yX5_add ∈ tb := tb_mem 716 (by decide +kernel) rfl
set_option maxRecDepth 200000 in
theorem q_717 : Cond.selects "CityRoad$Persons" yX5_add yX5_add ∈ tb := tb_mem 717 (by decide +kernel) rfl
set_option maxRecDepth 200000 in
theorem q_715 : Cond.methodLink "CityRoad" 194 yX5_add ∈ tb := tb_mem 715 (by decide +kernel) rfl
set_option maxRecDepth 200000 in
theorem q_686 : Cond.code yX11_isDay cX11_isDay 1 (some .boolean) ∈ tb := tb_mem 686 (by rfl) rfl
set_option maxRecDepth 200000 in
theorem q_685 : Cond.static yX11_isDay ∈ tb := tb_mem 685 (by decide +kernel) rfl
set_option maxRecDepth 200000 in
theorem q_684 : Cond.methodLink "CityRoad" 180 yX11_isDay ∈ tb := tb_mem 684 (by decide +kernel) rfl
set_option maxRecDepth 200000 in
theorem q_755 : Cond.code yX7_number cX7_number 1 (some .int) ∈ tb := tb_mem 755 (by rfl) rfl
set_option maxRecDepth 200000 in
theorem q_753 : Cond.instanceMethod yX7_number ∈ tb := tb_mem 753 (by decide +kernel) rfl
set_option maxRecDepth 200000 in
theorem q_754 : Cond.selects "CityRoad$Rules" yX7_number yX7_number ∈ tb := tb_mem 754 (by decide +kernel) rfl
set_option maxRecDepth 200000 in
theorem q_752 : Cond.methodLink "CityRoad" 205 yX7_number ∈ tb := tb_mem 752 (by decide +kernel) rfl
set_option maxRecDepth 200000 in
theorem q_770 : Cond.code yX7_isLetter cX7_isLetter 1 (some .boolean) ∈ tb := tb_mem 770 (by rfl) rfl
set_option maxRecDepth 200000 in
theorem q_769 : Cond.static yX7_isLetter ∈ tb := tb_mem 769 (by decide +kernel) rfl
set_option maxRecDepth 200000 in
theorem q_768 : Cond.methodLink "CityRoad" 209 yX7_isLetter ∈ tb := tb_mem 768 (by decide +kernel) rfl
set_option maxRecDepth 200000 in
theorem q_778 : Cond.code yX7_deciding cX7_deciding 6 (some .int) ∈ tb := tb_mem 778 (by rfl) rfl
set_option maxRecDepth 200000 in
theorem q_776 : Cond.instanceMethod yX7_deciding ∈ tb := tb_mem 776 (by decide +kernel) rfl
set_option maxRecDepth 200000 in
theorem q_777 : Cond.selects "CityRoad$Rules" yX7_deciding yX7_deciding ∈ tb := tb_mem 777 (by decide +kernel) rfl
set_option maxRecDepth 200000 in
theorem q_785 : Cond.methodLink "CityRoad" 215 yX7_deciding ∈ tb := tb_mem 785 (by decide +kernel) rfl
set_option maxRecDepth 200000 in
theorem q_793 : Cond.code yX4_number cX4_number 1 (some .int) ∈ tb := tb_mem 793 (by rfl) rfl
set_option maxRecDepth 200000 in
theorem q_791 : Cond.instanceMethod yX4_number ∈ tb := tb_mem 791 (by decide +kernel) rfl
set_option maxRecDepth 200000 in
theorem q_792 : Cond.selects "CityRoad$Marks" yX4_number yX4_number ∈ tb := tb_mem 792 (by decide +kernel) rfl
set_option maxRecDepth 200000 in
theorem q_790 : Cond.methodLink "CityRoad" 218 yX4_number ∈ tb := tb_mem 790 (by decide +kernel) rfl
set_option maxRecDepth 200000 in
theorem q_872 : Cond.code yX4_add cX4_add 5 (some .int) ∈ tb := tb_mem 872 (by rfl) rfl
set_option maxRecDepth 200000 in
theorem q_870 : Cond.instanceMethod yX4_add ∈ tb := tb_mem 870 (by decide +kernel) rfl
set_option maxRecDepth 200000 in
theorem q_871 : Cond.selects "CityRoad$Marks" yX4_add yX4_add ∈ tb := tb_mem 871 (by decide +kernel) rfl
set_option maxRecDepth 200000 in
theorem q_869 : Cond.methodLink "CityRoad" 235 yX4_add ∈ tb := tb_mem 869 (by decide +kernel) rfl
set_option maxRecDepth 200000 in
theorem q_1002 : Cond.code yX4_setGrant cX4_setGrant 4 none ∈ tb := tb_mem 1002 (by rfl) rfl
set_option maxRecDepth 200000 in
theorem q_1000 : Cond.instanceMethod yX4_setGrant ∈ tb := tb_mem 1000 (by decide +kernel) rfl
set_option maxRecDepth 200000 in
theorem q_1001 : Cond.selects "CityRoad$Marks" yX4_setGrant yX4_setGrant ∈ tb := tb_mem 1001 (by decide +kernel) rfl
set_option maxRecDepth 200000 in
theorem q_999 : Cond.methodLink "CityRoad" 314 yX4_setGrant ∈ tb := tb_mem 999 (by decide +kernel) rfl
set_option maxRecDepth 200000 in
theorem q_473 : Cond.fieldLink "CityRoad" 417 "CityRoad" "coins" "J" ∈ tb := tb_mem 473 (by decide +kernel) rfl
set_option maxRecDepth 200000 in
theorem q_1376 : Cond.code yX11_weighingFault cX11_weighingFault 3 (some .int) ∈ tb := tb_mem 1376 (by rfl) rfl
set_option maxRecDepth 200000 in
theorem q_1375 : Cond.instanceMethod yX11_weighingFault ∈ tb := tb_mem 1375 (by decide +kernel) rfl
set_option maxRecDepth 200000 in
theorem q_35 : Cond.selects "CityRoad" yX11_weighingFault yX11_weighingFault ∈ tb := tb_mem 35 (by decide +kernel) rfl
set_option maxRecDepth 200000 in
theorem q_1373 : Cond.methodLink "CityRoad" 459 yX11_weighingFault ∈ tb := tb_mem 1373 (by decide +kernel) rfl
set_option maxRecDepth 200000 in
theorem q_472 : Cond.fieldLink "CityRoad" 465 "CityRoad" "asked" "I" ∈ tb := tb_mem 472 (by decide +kernel) rfl
set_option maxRecDepth 200000 in
theorem q_474 : Cond.fieldLink "CityRoad" 337 "CityRoad" "set" "J" ∈ tb := tb_mem 474 (by decide +kernel) rfl
theorem dX11_weighingFault_0 : decode cX11_weighingFault 0 = .ok (.aload_n 0, 1) := by decide +kernel
theorem dX11_weighingFault_1 : decode cX11_weighingFault 1 = .ok (.getfield 12, 3) := by decide +kernel
theorem dX11_weighingFault_4 : decode cX11_weighingFault 4 = .ok (.iload_n 1, 1) := by decide +kernel
theorem dX11_weighingFault_5 : decode cX11_weighingFault 5 = .ok (.invokevirtual 106, 3) := by decide +kernel
theorem dX11_weighingFault_8 : decode cX11_weighingFault 8 = .ok (.ifCond .eq 14, 3) := by decide +kernel
theorem dX11_weighingFault_22 : decode cX11_weighingFault 22 = .ok (.iconst 1, 1) := by decide +kernel
theorem dX11_weighingFault_23 : decode cX11_weighingFault 23 = .ok (.ireturn, 1) := by decide +kernel
theorem dX11_lay_0 : decode cX11_lay 0 = .ok (.aload_n 0, 1) := by decide +kernel
theorem dX11_lay_1 : decode cX11_lay 1 = .ok (.getfield 12, 3) := by decide +kernel
theorem dX11_lay_4 : decode cX11_lay 4 = .ok (.iload_n 1, 1) := by decide +kernel
theorem dX11_lay_5 : decode cX11_lay 5 = .ok (.invokevirtual 95, 3) := by decide +kernel
theorem dX11_lay_8 : decode cX11_lay 8 = .ok (.ifCond .ne 5, 3) := by decide +kernel
theorem dX11_lay_11 : decode cX11_lay 11 = .ok (.iconst (-1), 1) := by decide +kernel
theorem dX11_lay_12 : decode cX11_lay 12 = .ok (.ireturn, 1) := by decide +kernel
theorem dX11_lay_13 : decode cX11_lay 13 = .ok (.aload_n 0, 1) := by decide +kernel
theorem dX11_lay_14 : decode cX11_lay 14 = .ok (.getfield 12, 3) := by decide +kernel
theorem dX11_lay_17 : decode cX11_lay 17 = .ok (.iload_n 1, 1) := by decide +kernel
theorem dX11_lay_18 : decode cX11_lay 18 = .ok (.invokevirtual 106, 3) := by decide +kernel
theorem dX11_lay_21 : decode cX11_lay 21 = .ok (.ifCond .ne 9, 3) := by decide +kernel
theorem dX11_lay_24 : decode cX11_lay 24 = .ok (.aload_n 0, 1) := by decide +kernel
theorem dX11_lay_25 : decode cX11_lay 25 = .ok (.iconst 1, 1) := by decide +kernel
theorem dX11_lay_26 : decode cX11_lay 26 = .ok (.invokevirtual 99, 3) := by decide +kernel
theorem dX11_lay_29 : decode cX11_lay 29 = .ok (.ireturn, 1) := by decide +kernel
theorem dX11_tear_0 : decode cX11_tear 0 = .ok (.aload_n 0, 1) := by decide +kernel
theorem dX11_tear_1 : decode cX11_tear 1 = .ok (.getfield 12, 3) := by decide +kernel
theorem dX11_tear_4 : decode cX11_tear 4 = .ok (.iload_n 1, 1) := by decide +kernel
theorem dX11_tear_5 : decode cX11_tear 5 = .ok (.invokevirtual 95, 3) := by decide +kernel
theorem dX11_tear_8 : decode cX11_tear 8 = .ok (.ifCond .ne 5, 3) := by decide +kernel
theorem dX11_tear_11 : decode cX11_tear 11 = .ok (.iconst (-1), 1) := by decide +kernel
theorem dX11_tear_12 : decode cX11_tear 12 = .ok (.ireturn, 1) := by decide +kernel
theorem dX11_tear_13 : decode cX11_tear 13 = .ok (.aload_n 0, 1) := by decide +kernel
theorem dX11_tear_14 : decode cX11_tear 14 = .ok (.getfield 12, 3) := by decide +kernel
theorem dX11_tear_17 : decode cX11_tear 17 = .ok (.iload_n 1, 1) := by decide +kernel
theorem dX11_tear_18 : decode cX11_tear 18 = .ok (.invokevirtual 106, 3) := by decide +kernel
theorem dX11_tear_21 : decode cX11_tear 21 = .ok (.ifCond .ne 9, 3) := by decide +kernel
theorem dX11_tear_24 : decode cX11_tear 24 = .ok (.aload_n 0, 1) := by decide +kernel
theorem dX11_tear_25 : decode cX11_tear 25 = .ok (.iconst 1, 1) := by decide +kernel
theorem dX11_tear_26 : decode cX11_tear 26 = .ok (.invokevirtual 99, 3) := by decide +kernel
theorem dX11_tear_29 : decode cX11_tear 29 = .ok (.ireturn, 1) := by decide +kernel
theorem dX11_copy_0 : decode cX11_copy 0 = .ok (.aload_n 0, 1) := by decide +kernel
theorem dX11_copy_1 : decode cX11_copy 1 = .ok (.getfield 12, 3) := by decide +kernel
theorem dX11_copy_4 : decode cX11_copy 4 = .ok (.iload_n 1, 1) := by decide +kernel
theorem dX11_copy_5 : decode cX11_copy 5 = .ok (.invokevirtual 95, 3) := by decide +kernel
theorem dX11_copy_8 : decode cX11_copy 8 = .ok (.ifCond .eq 14, 3) := by decide +kernel
theorem dX11_copy_22 : decode cX11_copy 22 = .ok (.iconst (-1), 1) := by decide +kernel
theorem dX11_copy_23 : decode cX11_copy 23 = .ok (.ireturn, 1) := by decide +kernel
theorem dX11_copy_11 : decode cX11_copy 11 = .ok (.aload_n 0, 1) := by decide +kernel
theorem dX11_copy_12 : decode cX11_copy 12 = .ok (.getfield 12, 3) := by decide +kernel
theorem dX11_copy_15 : decode cX11_copy 15 = .ok (.iload_n 3, 1) := by decide +kernel
theorem dX11_copy_16 : decode cX11_copy 16 = .ok (.invokevirtual 95, 3) := by decide +kernel
theorem dX11_copy_19 : decode cX11_copy 19 = .ok (.ifCond .ne 5, 3) := by decide +kernel
theorem dX11_copy_24 : decode cX11_copy 24 = .ok (.iload 5, 2) := by decide +kernel
theorem dX11_copy_26 : decode cX11_copy 26 = .ok (.ifCond .ge 9, 3) := by decide +kernel
theorem dX11_copy_35 : decode cX11_copy 35 = .ok (.aload_n 0, 1) := by decide +kernel
theorem dX11_copy_36 : decode cX11_copy 36 = .ok (.getfield 12, 3) := by decide +kernel
theorem dX11_copy_39 : decode cX11_copy 39 = .ok (.iload_n 1, 1) := by decide +kernel
theorem dX11_copy_40 : decode cX11_copy 40 = .ok (.invokevirtual 106, 3) := by decide +kernel
theorem dX11_copy_43 : decode cX11_copy 43 = .ok (.ifCond .eq 14, 3) := by decide +kernel
theorem dX11_copy_57 : decode cX11_copy 57 = .ok (.aload_n 0, 1) := by decide +kernel
theorem dX11_copy_58 : decode cX11_copy 58 = .ok (.iconst 1, 1) := by decide +kernel
theorem dX11_copy_59 : decode cX11_copy 59 = .ok (.invokevirtual 99, 3) := by decide +kernel
theorem dX11_copy_62 : decode cX11_copy 62 = .ok (.ireturn, 1) := by decide +kernel
theorem dX11_copy_29 : decode cX11_copy 29 = .ok (.aload_n 0, 1) := by decide +kernel
theorem dX11_copy_30 : decode cX11_copy 30 = .ok (.iconst 5, 1) := by decide +kernel
theorem dX11_copy_31 : decode cX11_copy 31 = .ok (.invokevirtual 99, 3) := by decide +kernel
theorem dX11_copy_34 : decode cX11_copy 34 = .ok (.ireturn, 1) := by decide +kernel
theorem dX11_put_0 : decode cX11_put 0 = .ok (.aload_n 0, 1) := by decide +kernel
theorem dX11_put_1 : decode cX11_put 1 = .ok (.getfield 20, 3) := by decide +kernel
theorem dX11_put_4 : decode cX11_put 4 = .ok (.iload_n 1, 1) := by decide +kernel
theorem dX11_put_5 : decode cX11_put 5 = .ok (.invokevirtual 95, 3) := by decide +kernel
theorem dX11_put_8 : decode cX11_put 8 = .ok (.ifCond .ne 5, 3) := by decide +kernel
theorem dX11_put_11 : decode cX11_put 11 = .ok (.iconst (-1), 1) := by decide +kernel
theorem dX11_put_12 : decode cX11_put 12 = .ok (.ireturn, 1) := by decide +kernel
theorem dX11_put_13 : decode cX11_put 13 = .ok (.aload_n 0, 1) := by decide +kernel
theorem dX11_put_14 : decode cX11_put 14 = .ok (.getfield 20, 3) := by decide +kernel
theorem dX11_put_17 : decode cX11_put 17 = .ok (.iload_n 1, 1) := by decide +kernel
theorem dX11_put_18 : decode cX11_put 18 = .ok (.invokevirtual 106, 3) := by decide +kernel
theorem dX11_put_21 : decode cX11_put 21 = .ok (.ifCond .ne 9, 3) := by decide +kernel
theorem dX11_put_24 : decode cX11_put 24 = .ok (.aload_n 0, 1) := by decide +kernel
theorem dX11_put_25 : decode cX11_put 25 = .ok (.iconst 1, 1) := by decide +kernel
theorem dX11_put_26 : decode cX11_put 26 = .ok (.invokevirtual 99, 3) := by decide +kernel
theorem dX11_put_29 : decode cX11_put 29 = .ok (.ireturn, 1) := by decide +kernel
theorem dX11_fault_0 : decode cX11_fault 0 = .ok (.aload_n 0, 1) := by decide +kernel
theorem dX11_fault_1 : decode cX11_fault 1 = .ok (.getfield 20, 3) := by decide +kernel
theorem dX11_fault_4 : decode cX11_fault 4 = .ok (.iload_n 1, 1) := by decide +kernel
theorem dX11_fault_5 : decode cX11_fault 5 = .ok (.invokevirtual 95, 3) := by decide +kernel
theorem dX11_fault_8 : decode cX11_fault 8 = .ok (.ifCond .ne 5, 3) := by decide +kernel
theorem dX11_fault_11 : decode cX11_fault 11 = .ok (.iconst (-1), 1) := by decide +kernel
theorem dX11_fault_12 : decode cX11_fault 12 = .ok (.ireturn, 1) := by decide +kernel
theorem dX11_fault_13 : decode cX11_fault 13 = .ok (.aload_n 0, 1) := by decide +kernel
theorem dX11_fault_14 : decode cX11_fault 14 = .ok (.getfield 20, 3) := by decide +kernel
theorem dX11_fault_17 : decode cX11_fault 17 = .ok (.iload_n 1, 1) := by decide +kernel
theorem dX11_fault_18 : decode cX11_fault 18 = .ok (.invokevirtual 106, 3) := by decide +kernel
theorem dX11_fault_21 : decode cX11_fault 21 = .ok (.ifCond .ne 9, 3) := by decide +kernel
theorem dX11_fault_24 : decode cX11_fault 24 = .ok (.aload_n 0, 1) := by decide +kernel
theorem dX11_fault_25 : decode cX11_fault 25 = .ok (.iconst 1, 1) := by decide +kernel
theorem dX11_fault_26 : decode cX11_fault 26 = .ok (.invokevirtual 99, 3) := by decide +kernel
theorem dX11_fault_29 : decode cX11_fault 29 = .ok (.ireturn, 1) := by decide +kernel
theorem dX11_later_0 : decode cX11_later 0 = .ok (.iload_n 1, 1) := by decide +kernel
theorem dX11_later_1 : decode cX11_later 1 = .ok (.ifCond .lt 15, 3) := by decide +kernel
theorem dX11_later_16 : decode cX11_later 16 = .ok (.iconst (-1), 1) := by decide +kernel
theorem dX11_later_17 : decode cX11_later 17 = .ok (.ireturn, 1) := by decide +kernel
theorem dX11_later_4 : decode cX11_later 4 = .ok (.iload_n 1, 1) := by decide +kernel
theorem dX11_later_5 : decode cX11_later 5 = .ok (.sipush 999, 3) := by decide +kernel
theorem dX11_later_8 : decode cX11_later 8 = .ok (.aload_n 0, 1) := by decide +kernel
theorem dX11_later_9 : decode cX11_later 9 = .ok (.getfield 136, 3) := by decide +kernel
theorem dX11_later_12 : decode cX11_later 12 = .ok (.isub, 1) := by decide +kernel
theorem dX11_later_13 : decode cX11_later 13 = .ok (.if_icmp .le 5, 3) := by decide +kernel
theorem dX11_later_18 : decode cX11_later 18 = .ok (.aload_n 0, 1) := by decide +kernel
theorem dX11_later_19 : decode cX11_later 19 = .ok (.dup, 1) := by decide +kernel
theorem dX11_later_20 : decode cX11_later 20 = .ok (.getfield 136, 3) := by decide +kernel
theorem dX11_later_23 : decode cX11_later 23 = .ok (.iload_n 1, 1) := by decide +kernel
theorem dX11_later_24 : decode cX11_later 24 = .ok (.iadd, 1) := by decide +kernel
theorem dX11_later_25 : decode cX11_later 25 = .ok (.putfield 136, 3) := by decide +kernel
theorem dX11_later_28 : decode cX11_later 28 = .ok (.aload_n 0, 1) := by decide +kernel
theorem dX11_later_29 : decode cX11_later 29 = .ok (.getfield 136, 3) := by decide +kernel
theorem dX11_later_32 : decode cX11_later 32 = .ok (.ireturn, 1) := by decide +kernel
theorem dX11_cell_0 : decode cX11_cell 0 = .ok (.iload_n 1, 1) := by decide +kernel
theorem dX11_cell_1 : decode cX11_cell 1 = .ok (.invokestatic 140, 3) := by decide +kernel
theorem dX11_cell_4 : decode cX11_cell 4 = .ok (.ifCond .eq 22, 3) := by decide +kernel
theorem dX11_cell_26 : decode cX11_cell 26 = .ok (.iconst (-1), 1) := by decide +kernel
theorem dX11_cell_27 : decode cX11_cell 27 = .ok (.ireturn, 1) := by decide +kernel
theorem dX11_cell_7 : decode cX11_cell 7 = .ok (.iload_n 2, 1) := by decide +kernel
theorem dX11_cell_8 : decode cX11_cell 8 = .ok (.ifCond .lt 18, 3) := by decide +kernel
theorem dX11_cell_11 : decode cX11_cell 11 = .ok (.iload_n 2, 1) := by decide +kernel
theorem dX11_cell_12 : decode cX11_cell 12 = .ok (.iconst 4, 1) := by decide +kernel
theorem dX11_cell_13 : decode cX11_cell 13 = .ok (.if_icmp .gt 13, 3) := by decide +kernel
theorem dX11_cell_16 : decode cX11_cell 16 = .ok (.iload_n 3, 1) := by decide +kernel
theorem dX11_cell_17 : decode cX11_cell 17 = .ok (.ifCond .lt 9, 3) := by decide +kernel
theorem dX11_cell_20 : decode cX11_cell 20 = .ok (.iload_n 3, 1) := by decide +kernel
theorem dX11_cell_21 : decode cX11_cell 21 = .ok (.bipush 99, 2) := by decide +kernel
theorem dX11_cell_23 : decode cX11_cell 23 = .ok (.if_icmp .le 5, 3) := by decide +kernel
theorem dX11_cell_28 : decode cX11_cell 28 = .ok (.iload_n 2, 1) := by decide +kernel
theorem dX11_cell_29 : decode cX11_cell 29 = .ok (.iconst 4, 1) := by decide +kernel
theorem dX11_cell_30 : decode cX11_cell 30 = .ok (.if_icmp .ne 19, 3) := by decide +kernel
theorem dX11_cell_49 : decode cX11_cell 49 = .ok (.aload_n 0, 1) := by decide +kernel
theorem dX11_cell_50 : decode cX11_cell 50 = .ok (.getfield 26, 3) := by decide +kernel
theorem dX11_cell_53 : decode cX11_cell 53 = .ok (.iload_n 1, 1) := by decide +kernel
theorem dX11_cell_54 : decode cX11_cell 54 = .ok (.iload_n 2, 1) := by decide +kernel
theorem dX11_cell_55 : decode cX11_cell 55 = .ok (.iload_n 3, 1) := by decide +kernel
theorem dX11_cell_56 : decode cX11_cell 56 = .ok (.invokevirtual 146, 3) := by decide +kernel
theorem dX11_cell_59 : decode cX11_cell 59 = .ok (.iconst 1, 1) := by decide +kernel
theorem dX11_cell_60 : decode cX11_cell 60 = .ok (.ireturn, 1) := by decide +kernel
theorem dX11_cell_33 : decode cX11_cell 33 = .ok (.aload_n 0, 1) := by decide +kernel
theorem dX11_cell_34 : decode cX11_cell 34 = .ok (.getfield 33, 3) := by decide +kernel
theorem dX11_cell_37 : decode cX11_cell 37 = .ok (.iload_n 1, 1) := by decide +kernel
theorem dX11_cell_38 : decode cX11_cell 38 = .ok (.invokevirtual 143, 3) := by decide +kernel
theorem dX11_cell_41 : decode cX11_cell 41 = .ok (.bipush (-9), 2) := by decide +kernel
theorem dX11_cell_43 : decode cX11_cell 43 = .ok (.if_icmp .eq 6, 3) := by decide +kernel
theorem dX11_building_0 : decode cX11_building 0 = .ok (.iload_n 1, 1) := by decide +kernel
theorem dX11_building_1 : decode cX11_building 1 = .ok (.invokestatic 140, 3) := by decide +kernel
theorem dX11_building_4 : decode cX11_building 4 = .ok (.ifCond .eq 28, 3) := by decide +kernel
theorem dX11_building_32 : decode cX11_building 32 = .ok (.iconst (-1), 1) := by decide +kernel
theorem dX11_building_33 : decode cX11_building 33 = .ok (.ireturn, 1) := by decide +kernel
theorem dX11_building_7 : decode cX11_building 7 = .ok (.iload_n 2, 1) := by decide +kernel
theorem dX11_building_8 : decode cX11_building 8 = .ok (.invokestatic 150, 3) := by decide +kernel
theorem dX11_building_11 : decode cX11_building 11 = .ok (.ifCond .eq 21, 3) := by decide +kernel
theorem dX11_building_14 : decode cX11_building 14 = .ok (.iload_n 3, 1) := by decide +kernel
theorem dX11_building_15 : decode cX11_building 15 = .ok (.ifCond .lt 17, 3) := by decide +kernel
theorem dX11_building_18 : decode cX11_building 18 = .ok (.iload_n 3, 1) := by decide +kernel
theorem dX11_building_19 : decode cX11_building 19 = .ok (.bipush 20, 2) := by decide +kernel
theorem dX11_building_21 : decode cX11_building 21 = .ok (.if_icmp .gt 11, 3) := by decide +kernel
theorem dX11_building_24 : decode cX11_building 24 = .ok (.iload 4, 2) := by decide +kernel
theorem dX11_building_26 : decode cX11_building 26 = .ok (.invokestatic 153, 3) := by decide +kernel
theorem dX11_building_29 : decode cX11_building 29 = .ok (.ifCond .ne 5, 3) := by decide +kernel
theorem dX11_building_34 : decode cX11_building 34 = .ok (.aload_n 0, 1) := by decide +kernel
theorem dX11_building_35 : decode cX11_building 35 = .ok (.getfield 33, 3) := by decide +kernel
theorem dX11_building_38 : decode cX11_building 38 = .ok (.invokevirtual 156, 3) := by decide +kernel
theorem dX11_building_41 : decode cX11_building 41 = .ok (.bipush 32, 2) := by decide +kernel
theorem dX11_building_43 : decode cX11_building 43 = .ok (.if_icmp .ge 14, 3) := by decide +kernel
theorem dX11_building_46 : decode cX11_building 46 = .ok (.aload_n 0, 1) := by decide +kernel
theorem dX11_building_47 : decode cX11_building 47 = .ok (.getfield 33, 3) := by decide +kernel
theorem dX11_building_50 : decode cX11_building 50 = .ok (.invokevirtual 160, 3) := by decide +kernel
theorem dX11_building_53 : decode cX11_building 53 = .ok (.iconst 1, 1) := by decide +kernel
theorem dX11_building_54 : decode cX11_building 54 = .ok (.if_icmp .ge 6, 3) := by decide +kernel
theorem dX11_building_60 : decode cX11_building 60 = .ok (.aload_n 0, 1) := by decide +kernel
theorem dX11_building_61 : decode cX11_building 61 = .ok (.getfield 26, 3) := by decide +kernel
theorem dX11_building_64 : decode cX11_building 64 = .ok (.iload_n 1, 1) := by decide +kernel
theorem dX11_building_65 : decode cX11_building 65 = .ok (.invokevirtual 163, 3) := by decide +kernel
theorem dX11_building_68 : decode cX11_building 68 = .ok (.ifCond .ne 16, 3) := by decide +kernel
theorem dX11_building_71 : decode cX11_building 71 = .ok (.aload_n 0, 1) := by decide +kernel
theorem dX11_building_72 : decode cX11_building 72 = .ok (.getfield 33, 3) := by decide +kernel
theorem dX11_building_75 : decode cX11_building 75 = .ok (.iload_n 1, 1) := by decide +kernel
theorem dX11_building_76 : decode cX11_building 76 = .ok (.invokevirtual 143, 3) := by decide +kernel
theorem dX11_building_79 : decode cX11_building 79 = .ok (.bipush (-9), 2) := by decide +kernel
theorem dX11_building_81 : decode cX11_building 81 = .ok (.if_icmp .eq 6, 3) := by decide +kernel
theorem dX11_building_87 : decode cX11_building 87 = .ok (.aload_n 0, 1) := by decide +kernel
theorem dX11_building_88 : decode cX11_building 88 = .ok (.getfield 33, 3) := by decide +kernel
theorem dX11_building_91 : decode cX11_building 91 = .ok (.iload_n 1, 1) := by decide +kernel
theorem dX11_building_92 : decode cX11_building 92 = .ok (.iload_n 2, 1) := by decide +kernel
theorem dX11_building_93 : decode cX11_building 93 = .ok (.iload_n 3, 1) := by decide +kernel
theorem dX11_building_94 : decode cX11_building 94 = .ok (.iload 4, 2) := by decide +kernel
theorem dX11_building_96 : decode cX11_building 96 = .ok (.aload_n 0, 1) := by decide +kernel
theorem dX11_building_97 : decode cX11_building 97 = .ok (.getfield 136, 3) := by decide +kernel
theorem dX11_building_100 : decode cX11_building 100 = .ok (.invokevirtual 166, 3) := by decide +kernel
theorem dX11_building_103 : decode cX11_building 103 = .ok (.ireturn, 1) := by decide +kernel
theorem dX11_worth_0 : decode cX11_worth 0 = .ok (.aload_n 0, 1) := by decide +kernel
theorem dX11_worth_1 : decode cX11_worth 1 = .ok (.getfield 33, 3) := by decide +kernel
theorem dX11_worth_4 : decode cX11_worth 4 = .ok (.iload_n 1, 1) := by decide +kernel
theorem dX11_worth_5 : decode cX11_worth 5 = .ok (.invokevirtual 170, 3) := by decide +kernel
theorem dX11_worth_8 : decode cX11_worth 8 = .ok (.ifCond .eq 10, 3) := by decide +kernel
theorem dX11_worth_18 : decode cX11_worth 18 = .ok (.iconst (-1), 1) := by decide +kernel
theorem dX11_worth_19 : decode cX11_worth 19 = .ok (.ireturn, 1) := by decide +kernel
theorem dX11_value_0 : decode cX11_value 0 = .ok (.aload_n 0, 1) := by decide +kernel
theorem dX11_value_1 : decode cX11_value 1 = .ok (.getfield 33, 3) := by decide +kernel
theorem dX11_value_4 : decode cX11_value 4 = .ok (.iload_n 1, 1) := by decide +kernel
theorem dX11_value_5 : decode cX11_value 5 = .ok (.invokevirtual 170, 3) := by decide +kernel
theorem dX11_value_8 : decode cX11_value 8 = .ok (.ifCond .eq 10, 3) := by decide +kernel
theorem dX11_value_18 : decode cX11_value 18 = .ok (.iconst (-1), 1) := by decide +kernel
theorem dX11_value_19 : decode cX11_value 19 = .ok (.ireturn, 1) := by decide +kernel
theorem dX11_house_0 : decode cX11_house 0 = .ok (.aload_n 0, 1) := by decide +kernel
theorem dX11_house_1 : decode cX11_house 1 = .ok (.getfield 33, 3) := by decide +kernel
theorem dX11_house_4 : decode cX11_house 4 = .ok (.iload_n 1, 1) := by decide +kernel
theorem dX11_house_5 : decode cX11_house 5 = .ok (.invokevirtual 170, 3) := by decide +kernel
theorem dX11_house_8 : decode cX11_house 8 = .ok (.ifCond .eq 12, 3) := by decide +kernel
theorem dX11_house_20 : decode cX11_house 20 = .ok (.iconst (-1), 1) := by decide +kernel
theorem dX11_house_21 : decode cX11_house 21 = .ok (.ireturn, 1) := by decide +kernel
theorem dX11_who_0 : decode cX11_who 0 = .ok (.aload_n 0, 1) := by decide +kernel
theorem dX11_who_1 : decode cX11_who 1 = .ok (.getfield 40, 3) := by decide +kernel
theorem dX11_who_4 : decode cX11_who 4 = .ok (.iload_n 1, 1) := by decide +kernel
theorem dX11_who_5 : decode cX11_who 5 = .ok (.invokevirtual 200, 3) := by decide +kernel
theorem dX11_who_8 : decode cX11_who 8 = .ok (.ifCond .eq 12, 3) := by decide +kernel
theorem dX11_who_20 : decode cX11_who 20 = .ok (.iconst (-1), 1) := by decide +kernel
theorem dX11_who_21 : decode cX11_who 21 = .ok (.ireturn, 1) := by decide +kernel
theorem dX11_ramp_0 : decode cX11_ramp 0 = .ok (.aload_n 0, 1) := by decide +kernel
theorem dX11_ramp_1 : decode cX11_ramp 1 = .ok (.getfield 52, 3) := by decide +kernel
theorem dX11_ramp_4 : decode cX11_ramp 4 = .ok (.iload_n 1, 1) := by decide +kernel
theorem dX11_ramp_5 : decode cX11_ramp 5 = .ok (.invokevirtual 250, 3) := by decide +kernel
theorem dX11_ramp_8 : decode cX11_ramp 8 = .ok (.ifCond .eq 10, 3) := by decide +kernel
theorem dX11_ramp_18 : decode cX11_ramp 18 = .ok (.iconst (-1), 1) := by decide +kernel
theorem dX11_ramp_19 : decode cX11_ramp 19 = .ok (.ireturn, 1) := by decide +kernel
theorem dX11_cellOf_0 : decode cX11_cellOf 0 = .ok (.aload_n 0, 1) := by decide +kernel
theorem dX11_cellOf_1 : decode cX11_cellOf 1 = .ok (.getfield 52, 3) := by decide +kernel
theorem dX11_cellOf_4 : decode cX11_cellOf 4 = .ok (.iload_n 1, 1) := by decide +kernel
theorem dX11_cellOf_5 : decode cX11_cellOf 5 = .ok (.invokevirtual 250, 3) := by decide +kernel
theorem dX11_cellOf_8 : decode cX11_cellOf 8 = .ok (.ifCond .ne 5, 3) := by decide +kernel
theorem dX11_cellOf_11 : decode cX11_cellOf 11 = .ok (.iconst (-1), 1) := by decide +kernel
theorem dX11_cellOf_12 : decode cX11_cellOf 12 = .ok (.ireturn, 1) := by decide +kernel
theorem dX11_show_0 : decode cX11_show 0 = .ok (.aload_n 0, 1) := by decide +kernel
theorem dX11_show_1 : decode cX11_show 1 = .ok (.getfield 52, 3) := by decide +kernel
theorem dX11_show_4 : decode cX11_show 4 = .ok (.iload_n 1, 1) := by decide +kernel
theorem dX11_show_5 : decode cX11_show 5 = .ok (.invokevirtual 250, 3) := by decide +kernel
theorem dX11_show_8 : decode cX11_show 8 = .ok (.ifCond .ne 5, 3) := by decide +kernel
theorem dX11_show_11 : decode cX11_show 11 = .ok (.iconst (-1), 1) := by decide +kernel
theorem dX11_show_12 : decode cX11_show 12 = .ok (.ireturn, 1) := by decide +kernel
theorem dX11_take_0 : decode cX11_take 0 = .ok (.aload_n 0, 1) := by decide +kernel
theorem dX11_take_1 : decode cX11_take 1 = .ok (.getfield 33, 3) := by decide +kernel
theorem dX11_take_4 : decode cX11_take 4 = .ok (.iload_n 1, 1) := by decide +kernel
theorem dX11_take_5 : decode cX11_take 5 = .ok (.invokevirtual 170, 3) := by decide +kernel
theorem dX11_take_8 : decode cX11_take 8 = .ok (.ifCond .eq 14, 3) := by decide +kernel
theorem dX11_take_22 : decode cX11_take 22 = .ok (.iconst (-1), 1) := by decide +kernel
theorem dX11_take_23 : decode cX11_take 23 = .ok (.ireturn, 1) := by decide +kernel
theorem dX11_moved_0 : decode cX11_moved 0 = .ok (.aload_n 0, 1) := by decide +kernel
theorem dX11_moved_1 : decode cX11_moved 1 = .ok (.getfield 52, 3) := by decide +kernel
theorem dX11_moved_4 : decode cX11_moved 4 = .ok (.iload_n 1, 1) := by decide +kernel
theorem dX11_moved_5 : decode cX11_moved 5 = .ok (.invokevirtual 250, 3) := by decide +kernel
theorem dX11_moved_8 : decode cX11_moved 8 = .ok (.ifCond .eq 25, 3) := by decide +kernel
theorem dX11_moved_33 : decode cX11_moved 33 = .ok (.iconst (-1), 1) := by decide +kernel
theorem dX11_moved_34 : decode cX11_moved 34 = .ok (.ireturn, 1) := by decide +kernel
theorem dX11_hearing_0 : decode cX11_hearing 0 = .ok (.aload_n 0, 1) := by decide +kernel
theorem dX11_hearing_1 : decode cX11_hearing 1 = .ok (.getfield 52, 3) := by decide +kernel
theorem dX11_hearing_4 : decode cX11_hearing 4 = .ok (.iload_n 1, 1) := by decide +kernel
theorem dX11_hearing_5 : decode cX11_hearing 5 = .ok (.invokevirtual 250, 3) := by decide +kernel
theorem dX11_hearing_8 : decode cX11_hearing 8 = .ok (.ifCond .eq 28, 3) := by decide +kernel
theorem dX11_hearing_36 : decode cX11_hearing 36 = .ok (.iconst (-1), 1) := by decide +kernel
theorem dX11_hearing_37 : decode cX11_hearing 37 = .ok (.ireturn, 1) := by decide +kernel
theorem dX11_told_0 : decode cX11_told 0 = .ok (.aload_n 0, 1) := by decide +kernel
theorem dX11_told_1 : decode cX11_told 1 = .ok (.getfield 52, 3) := by decide +kernel
theorem dX11_told_4 : decode cX11_told 4 = .ok (.iload_n 1, 1) := by decide +kernel
theorem dX11_told_5 : decode cX11_told 5 = .ok (.invokevirtual 250, 3) := by decide +kernel
theorem dX11_told_8 : decode cX11_told 8 = .ok (.ifCond .eq 12, 3) := by decide +kernel
theorem dX11_told_20 : decode cX11_told 20 = .ok (.iconst (-1), 1) := by decide +kernel
theorem dX11_told_21 : decode cX11_told 21 = .ok (.ireturn, 1) := by decide +kernel
theorem dX11_mark_0 : decode cX11_mark 0 = .ok (.aload_n 0, 1) := by decide +kernel
theorem dX11_mark_1 : decode cX11_mark 1 = .ok (.getfield 52, 3) := by decide +kernel
theorem dX11_mark_4 : decode cX11_mark 4 = .ok (.iload_n 1, 1) := by decide +kernel
theorem dX11_mark_5 : decode cX11_mark 5 = .ok (.invokevirtual 250, 3) := by decide +kernel
theorem dX11_mark_8 : decode cX11_mark 8 = .ok (.ifCond .eq 14, 3) := by decide +kernel
theorem dX11_mark_22 : decode cX11_mark 22 = .ok (.iconst (-1), 1) := by decide +kernel
theorem dX11_mark_23 : decode cX11_mark 23 = .ok (.ireturn, 1) := by decide +kernel
theorem dX11_cost_0 : decode cX11_cost 0 = .ok (.aload_n 0, 1) := by decide +kernel
theorem dX11_cost_1 : decode cX11_cost 1 = .ok (.getfield 52, 3) := by decide +kernel
theorem dX11_cost_4 : decode cX11_cost 4 = .ok (.iload_n 1, 1) := by decide +kernel
theorem dX11_cost_5 : decode cX11_cost 5 = .ok (.invokevirtual 250, 3) := by decide +kernel
theorem dX11_cost_8 : decode cX11_cost 8 = .ok (.ifCond .ne 5, 3) := by decide +kernel
theorem dX11_cost_11 : decode cX11_cost 11 = .ok (.iconst (-1), 1) := by decide +kernel
theorem dX11_cost_12 : decode cX11_cost 12 = .ok (.ireturn, 1) := by decide +kernel
theorem dX11_shown_0 : decode cX11_shown 0 = .ok (.aload_n 0, 1) := by decide +kernel
theorem dX11_shown_1 : decode cX11_shown 1 = .ok (.getfield 52, 3) := by decide +kernel
theorem dX11_shown_4 : decode cX11_shown 4 = .ok (.iload_n 1, 1) := by decide +kernel
theorem dX11_shown_5 : decode cX11_shown 5 = .ok (.invokevirtual 250, 3) := by decide +kernel
theorem dX11_shown_8 : decode cX11_shown 8 = .ok (.ifCond .ne 5, 3) := by decide +kernel
theorem dX11_shown_11 : decode cX11_shown 11 = .ok (.iconst (-1), 1) := by decide +kernel
theorem dX11_shown_12 : decode cX11_shown 12 = .ok (.ireturn, 1) := by decide +kernel
theorem dX11_over_0 : decode cX11_over 0 = .ok (.aload_n 0, 1) := by decide +kernel
theorem dX11_over_1 : decode cX11_over 1 = .ok (.getfield 52, 3) := by decide +kernel
theorem dX11_over_4 : decode cX11_over 4 = .ok (.iload_n 1, 1) := by decide +kernel
theorem dX11_over_5 : decode cX11_over 5 = .ok (.invokevirtual 250, 3) := by decide +kernel
theorem dX11_over_8 : decode cX11_over 8 = .ok (.ifCond .ne 5, 3) := by decide +kernel
theorem dX11_over_11 : decode cX11_over 11 = .ok (.iconst (-1), 1) := by decide +kernel
theorem dX11_over_12 : decode cX11_over 12 = .ok (.ireturn, 1) := by decide +kernel
theorem dX11_buy_0 : decode cX11_buy 0 = .ok (.aload_n 0, 1) := by decide +kernel
theorem dX11_buy_1 : decode cX11_buy 1 = .ok (.getfield 33, 3) := by decide +kernel
theorem dX11_buy_4 : decode cX11_buy 4 = .ok (.iload_n 1, 1) := by decide +kernel
theorem dX11_buy_5 : decode cX11_buy 5 = .ok (.invokevirtual 170, 3) := by decide +kernel
theorem dX11_buy_8 : decode cX11_buy 8 = .ok (.ifCond .eq 14, 3) := by decide +kernel
theorem dX11_buy_22 : decode cX11_buy 22 = .ok (.iconst (-1), 1) := by decide +kernel
theorem dX11_buy_23 : decode cX11_buy 23 = .ok (.ireturn, 1) := by decide +kernel
theorem dX11_hear_0 : decode cX11_hear 0 = .ok (.aload_n 0, 1) := by decide +kernel
theorem dX11_hear_1 : decode cX11_hear 1 = .ok (.getfield 40, 3) := by decide +kernel
theorem dX11_hear_4 : decode cX11_hear 4 = .ok (.iload_n 1, 1) := by decide +kernel
theorem dX11_hear_5 : decode cX11_hear 5 = .ok (.invokevirtual 200, 3) := by decide +kernel
theorem dX11_hear_8 : decode cX11_hear 8 = .ok (.ifCond .eq 14, 3) := by decide +kernel
theorem dX11_hear_22 : decode cX11_hear 22 = .ok (.iconst (-1), 1) := by decide +kernel
theorem dX11_hear_23 : decode cX11_hear 23 = .ok (.ireturn, 1) := by decide +kernel
theorem dX11_early_0 : decode cX11_early 0 = .ok (.aload_n 0, 1) := by decide +kernel
theorem dX11_early_1 : decode cX11_early 1 = .ok (.getfield 52, 3) := by decide +kernel
theorem dX11_early_4 : decode cX11_early 4 = .ok (.iload_n 1, 1) := by decide +kernel
theorem dX11_early_5 : decode cX11_early 5 = .ok (.invokevirtual 250, 3) := by decide +kernel
theorem dX11_early_8 : decode cX11_early 8 = .ok (.ifCond .ne 5, 3) := by decide +kernel
theorem dX11_early_11 : decode cX11_early 11 = .ok (.iconst (-1), 1) := by decide +kernel
theorem dX11_early_12 : decode cX11_early 12 = .ok (.ireturn, 1) := by decide +kernel
theorem dX11_whither_0 : decode cX11_whither 0 = .ok (.aload_n 0, 1) := by decide +kernel
theorem dX11_whither_1 : decode cX11_whither 1 = .ok (.getfield 52, 3) := by decide +kernel
theorem dX11_whither_4 : decode cX11_whither 4 = .ok (.iload_n 1, 1) := by decide +kernel
theorem dX11_whither_5 : decode cX11_whither 5 = .ok (.invokevirtual 250, 3) := by decide +kernel
theorem dX11_whither_8 : decode cX11_whither 8 = .ok (.ifCond .ne 5, 3) := by decide +kernel
theorem dX11_whither_11 : decode cX11_whither 11 = .ok (.iconst (-1), 1) := by decide +kernel
theorem dX11_whither_12 : decode cX11_whither 12 = .ok (.ireturn, 1) := by decide +kernel
theorem dX11_fall_0 : decode cX11_fall 0 = .ok (.aload_n 0, 1) := by decide +kernel
theorem dX11_fall_1 : decode cX11_fall 1 = .ok (.getfield 52, 3) := by decide +kernel
theorem dX11_fall_4 : decode cX11_fall 4 = .ok (.iload_n 1, 1) := by decide +kernel
theorem dX11_fall_5 : decode cX11_fall 5 = .ok (.invokevirtual 250, 3) := by decide +kernel
theorem dX11_fall_8 : decode cX11_fall 8 = .ok (.ifCond .eq 13, 3) := by decide +kernel
theorem dX11_fall_21 : decode cX11_fall 21 = .ok (.iconst (-1), 1) := by decide +kernel
theorem dX11_fall_22 : decode cX11_fall 22 = .ok (.ireturn, 1) := by decide +kernel
theorem dX11_noise_0 : decode cX11_noise 0 = .ok (.aload_n 0, 1) := by decide +kernel
theorem dX11_noise_1 : decode cX11_noise 1 = .ok (.getfield 52, 3) := by decide +kernel
theorem dX11_noise_4 : decode cX11_noise 4 = .ok (.iload_n 1, 1) := by decide +kernel
theorem dX11_noise_5 : decode cX11_noise 5 = .ok (.invokevirtual 250, 3) := by decide +kernel
theorem dX11_noise_8 : decode cX11_noise 8 = .ok (.ifCond .eq 14, 3) := by decide +kernel
theorem dX11_noise_22 : decode cX11_noise 22 = .ok (.iconst (-1), 1) := by decide +kernel
theorem dX11_noise_23 : decode cX11_noise 23 = .ok (.ireturn, 1) := by decide +kernel
theorem dX11_park_0 : decode cX11_park 0 = .ok (.aload_n 0, 1) := by decide +kernel
theorem dX11_park_1 : decode cX11_park 1 = .ok (.getfield 52, 3) := by decide +kernel
theorem dX11_park_4 : decode cX11_park 4 = .ok (.iload_n 1, 1) := by decide +kernel
theorem dX11_park_5 : decode cX11_park 5 = .ok (.invokevirtual 250, 3) := by decide +kernel
theorem dX11_park_8 : decode cX11_park 8 = .ok (.ifCond .ne 5, 3) := by decide +kernel
theorem dX11_park_11 : decode cX11_park 11 = .ok (.iconst (-1), 1) := by decide +kernel
theorem dX11_park_12 : decode cX11_park 12 = .ok (.ireturn, 1) := by decide +kernel
theorem dX11_isVoid_0 : decode cX11_isVoid 0 = .ok (.aload_n 0, 1) := by decide +kernel
theorem dX11_isVoid_1 : decode cX11_isVoid 1 = .ok (.getfield 52, 3) := by decide +kernel
theorem dX11_isVoid_4 : decode cX11_isVoid 4 = .ok (.iload_n 1, 1) := by decide +kernel
theorem dX11_isVoid_5 : decode cX11_isVoid 5 = .ok (.invokevirtual 250, 3) := by decide +kernel
theorem dX11_isVoid_8 : decode cX11_isVoid 8 = .ok (.ifCond .ne 5, 3) := by decide +kernel
theorem dX11_isVoid_11 : decode cX11_isVoid 11 = .ok (.iconst (-1), 1) := by decide +kernel
theorem dX11_isVoid_12 : decode cX11_isVoid 12 = .ok (.ireturn, 1) := by decide +kernel
theorem dX11_act_0 : decode cX11_act 0 = .ok (.aload_n 0, 1) := by decide +kernel
theorem dX11_act_1 : decode cX11_act 1 = .ok (.getfield 80, 3) := by decide +kernel
theorem dX11_act_4 : decode cX11_act 4 = .ok (.iload_n 1, 1) := by decide +kernel
theorem dX11_act_5 : decode cX11_act 5 = .ok (.invokevirtual 427, 3) := by decide +kernel
theorem dX11_act_8 : decode cX11_act 8 = .ok (.ifCond .ne 6, 3) := by decide +kernel
theorem dX11_act_11 : decode cX11_act 11 = .ok (.bipush (-9), 2) := by decide +kernel
theorem dX11_act_13 : decode cX11_act 13 = .ok (.ireturn, 1) := by decide +kernel
theorem dX11_grants_0 : decode cX11_grants 0 = .ok (.aload_n 0, 1) := by decide +kernel
theorem dX11_grants_1 : decode cX11_grants 1 = .ok (.getfield 52, 3) := by decide +kernel
theorem dX11_grants_4 : decode cX11_grants 4 = .ok (.iload_n 1, 1) := by decide +kernel
theorem dX11_grants_5 : decode cX11_grants 5 = .ok (.invokevirtual 250, 3) := by decide +kernel
theorem dX11_grants_8 : decode cX11_grants 8 = .ok (.ifCond .eq 14, 3) := by decide +kernel
theorem dX11_grants_22 : decode cX11_grants 22 = .ok (.iconst (-1), 1) := by decide +kernel
theorem dX11_grants_23 : decode cX11_grants 23 = .ok (.ireturn, 1) := by decide +kernel
theorem dX11_judge_0 : decode cX11_judge 0 = .ok (.aload_n 0, 1) := by decide +kernel
theorem dX11_judge_1 : decode cX11_judge 1 = .ok (.getfield 52, 3) := by decide +kernel
theorem dX11_judge_4 : decode cX11_judge 4 = .ok (.iload_n 1, 1) := by decide +kernel
theorem dX11_judge_5 : decode cX11_judge 5 = .ok (.invokevirtual 250, 3) := by decide +kernel
theorem dX11_judge_8 : decode cX11_judge 8 = .ok (.ifCond .eq 25, 3) := by decide +kernel
theorem dX11_judge_33 : decode cX11_judge 33 = .ok (.iconst (-1), 1) := by decide +kernel
theorem dX11_judge_34 : decode cX11_judge 34 = .ok (.ireturn, 1) := by decide +kernel
theorem dX11_person_0 : decode cX11_person 0 = .ok (.iload_n 1, 1) := by decide +kernel
theorem dX11_person_1 : decode cX11_person 1 = .ok (.bipush (-9), 2) := by decide +kernel
theorem dX11_person_3 : decode cX11_person 3 = .ok (.if_icmp .eq 16, 3) := by decide +kernel
theorem dX11_person_19 : decode cX11_person 19 = .ok (.iload_n 2, 1) := by decide +kernel
theorem dX11_person_20 : decode cX11_person 20 = .ok (.bipush (-9), 2) := by decide +kernel
theorem dX11_person_22 : decode cX11_person 22 = .ok (.if_icmp .eq 12, 3) := by decide +kernel
theorem dX11_person_34 : decode cX11_person 34 = .ok (.iload 4, 2) := by decide +kernel
theorem dX11_person_36 : decode cX11_person 36 = .ok (.ifCond .lt 10, 3) := by decide +kernel
theorem dX11_person_46 : decode cX11_person 46 = .ok (.iconst (-1), 1) := by decide +kernel
theorem dX11_person_47 : decode cX11_person 47 = .ok (.ireturn, 1) := by decide +kernel
theorem dX11_person_39 : decode cX11_person 39 = .ok (.iload 4, 2) := by decide +kernel
theorem dX11_person_41 : decode cX11_person 41 = .ok (.bipush 9, 2) := by decide +kernel
theorem dX11_person_43 : decode cX11_person 43 = .ok (.if_icmp .le 5, 3) := by decide +kernel
theorem dX11_person_48 : decode cX11_person 48 = .ok (.aload_n 0, 1) := by decide +kernel
theorem dX11_person_49 : decode cX11_person 49 = .ok (.getfield 40, 3) := by decide +kernel
theorem dX11_person_52 : decode cX11_person 52 = .ok (.invokevirtual 190, 3) := by decide +kernel
theorem dX11_person_55 : decode cX11_person 55 = .ok (.bipush 40, 2) := by decide +kernel
theorem dX11_person_57 : decode cX11_person 57 = .ok (.if_icmp .lt 6, 3) := by decide +kernel
theorem dX11_person_63 : decode cX11_person 63 = .ok (.iload_n 1, 1) := by decide +kernel
theorem dX11_person_64 : decode cX11_person 64 = .ok (.bipush (-9), 2) := by decide +kernel
theorem dX11_person_66 : decode cX11_person 66 = .ok (.if_icmp .eq 18, 3) := by decide +kernel
theorem dX11_person_84 : decode cX11_person 84 = .ok (.aload_n 0, 1) := by decide +kernel
theorem dX11_person_85 : decode cX11_person 85 = .ok (.getfield 40, 3) := by decide +kernel
theorem dX11_person_88 : decode cX11_person 88 = .ok (.iload_n 2, 1) := by decide +kernel
theorem dX11_person_89 : decode cX11_person 89 = .ok (.iload_n 3, 1) := by decide +kernel
theorem dX11_person_90 : decode cX11_person 90 = .ok (.iload 4, 2) := by decide +kernel
theorem dX11_person_92 : decode cX11_person 92 = .ok (.invokevirtual 194, 3) := by decide +kernel
theorem dX11_person_95 : decode cX11_person 95 = .ok (.istore 5, 2) := by decide +kernel
theorem dX11_person_97 : decode cX11_person 97 = .ok (.iload_n 1, 1) := by decide +kernel
theorem dX11_person_98 : decode cX11_person 98 = .ok (.bipush (-9), 2) := by decide +kernel
theorem dX11_person_100 : decode cX11_person 100 = .ok (.if_icmp .eq 10, 3) := by decide +kernel
theorem dX11_person_110 : decode cX11_person 110 = .ok (.iload 5, 2) := by decide +kernel
theorem dX11_person_112 : decode cX11_person 112 = .ok (.ireturn, 1) := by decide +kernel
theorem dX11_person_25 : decode cX11_person 25 = .ok (.iload_n 2, 1) := by decide +kernel
theorem dX11_person_26 : decode cX11_person 26 = .ok (.invokestatic 140, 3) := by decide +kernel
theorem dX11_person_29 : decode cX11_person 29 = .ok (.ifCond .ne 5, 3) := by decide +kernel
theorem dX11_person_32 : decode cX11_person 32 = .ok (.iconst (-1), 1) := by decide +kernel
theorem dX11_person_33 : decode cX11_person 33 = .ok (.ireturn, 1) := by decide +kernel
theorem dX11_person_6 : decode cX11_person 6 = .ok (.aload_n 0, 1) := by decide +kernel
theorem dX11_person_7 : decode cX11_person 7 = .ok (.getfield 33, 3) := by decide +kernel
theorem dX11_person_10 : decode cX11_person 10 = .ok (.iload_n 1, 1) := by decide +kernel
theorem dX11_person_11 : decode cX11_person 11 = .ok (.invokevirtual 170, 3) := by decide +kernel
theorem dX11_person_14 : decode cX11_person 14 = .ok (.ifCond .ne 5, 3) := by decide +kernel
theorem dX11_person_17 : decode cX11_person 17 = .ok (.iconst (-1), 1) := by decide +kernel
theorem dX11_person_18 : decode cX11_person 18 = .ok (.ireturn, 1) := by decide +kernel
theorem dX11_mean_0 : decode cX11_mean 0 = .ok (.iload_n 1, 1) := by decide +kernel
theorem dX11_mean_1 : decode cX11_mean 1 = .ok (.invokestatic 150, 3) := by decide +kernel
theorem dX11_mean_4 : decode cX11_mean 4 = .ok (.ifCond .ne 5, 3) := by decide +kernel
theorem dX11_mean_7 : decode cX11_mean 7 = .ok (.iconst (-1), 1) := by decide +kernel
theorem dX11_mean_8 : decode cX11_mean 8 = .ok (.ireturn, 1) := by decide +kernel
theorem dX11_mean_9 : decode cX11_mean 9 = .ok (.iconst 0, 1) := by decide +kernel
theorem dX11_mean_10 : decode cX11_mean 10 = .ok (.istore_n 2, 1) := by decide +kernel
theorem dX11_mean_11 : decode cX11_mean 11 = .ok (.iconst 0, 1) := by decide +kernel
theorem dX11_mean_12 : decode cX11_mean 12 = .ok (.istore_n 3, 1) := by decide +kernel
theorem dX11_mean_13 : decode cX11_mean 13 = .ok (.iconst 0, 1) := by decide +kernel
theorem dX11_mean_14 : decode cX11_mean 14 = .ok (.istore 4, 2) := by decide +kernel
theorem dX11_mean_16 : decode cX11_mean 16 = .ok (.iload 4, 2) := by decide +kernel
theorem dX11_mean_18 : decode cX11_mean 18 = .ok (.aload_n 0, 1) := by decide +kernel
theorem dX11_mean_19 : decode cX11_mean 19 = .ok (.getfield 33, 3) := by decide +kernel
theorem dX11_mean_22 : decode cX11_mean 22 = .ok (.invokevirtual 156, 3) := by decide +kernel
theorem dX11_mean_25 : decode cX11_mean 25 = .ok (.if_icmp .ge 40, 3) := by decide +kernel
theorem dX11_mean_65 : decode cX11_mean 65 = .ok (.iload_n 2, 1) := by decide +kernel
theorem dX11_mean_66 : decode cX11_mean 66 = .ok (.ifCond .ne 9, 3) := by decide +kernel
theorem dX11_mean_69 : decode cX11_mean 69 = .ok (.aload_n 0, 1) := by decide +kernel
theorem dX11_mean_70 : decode cX11_mean 70 = .ok (.iconst 4, 1) := by decide +kernel
theorem dX11_mean_71 : decode cX11_mean 71 = .ok (.invokevirtual 99, 3) := by decide +kernel
theorem dX11_mean_74 : decode cX11_mean 74 = .ok (.ireturn, 1) := by decide +kernel
theorem dX11_rule_0 : decode cX11_rule 0 = .ok (.aload_n 0, 1) := by decide +kernel
theorem dX11_rule_1 : decode cX11_rule 1 = .ok (.getfield 20, 3) := by decide +kernel
theorem dX11_rule_4 : decode cX11_rule 4 = .ok (.iload_n 1, 1) := by decide +kernel
theorem dX11_rule_5 : decode cX11_rule 5 = .ok (.invokevirtual 95, 3) := by decide +kernel
theorem dX11_rule_8 : decode cX11_rule 8 = .ok (.ifCond .eq 10, 3) := by decide +kernel
theorem dX11_rule_18 : decode cX11_rule 18 = .ok (.iconst (-1), 1) := by decide +kernel
theorem dX11_rule_19 : decode cX11_rule 19 = .ok (.ireturn, 1) := by decide +kernel
theorem dX11_rule_11 : decode cX11_rule 11 = .ok (.iload_n 2, 1) := by decide +kernel
theorem dX11_rule_12 : decode cX11_rule 12 = .ok (.invokestatic 180, 3) := by decide +kernel
theorem dX11_rule_15 : decode cX11_rule 15 = .ok (.ifCond .ne 5, 3) := by decide +kernel
theorem dX11_rule_20 : decode cX11_rule 20 = .ok (.aload_n 0, 1) := by decide +kernel
theorem dX11_rule_21 : decode cX11_rule 21 = .ok (.getfield 45, 3) := by decide +kernel
theorem dX11_rule_24 : decode cX11_rule 24 = .ok (.invokevirtual 205, 3) := by decide +kernel
theorem dX11_rule_27 : decode cX11_rule 27 = .ok (.bipush 16, 2) := by decide +kernel
theorem dX11_rule_29 : decode cX11_rule 29 = .ok (.if_icmp .lt 6, 3) := by decide +kernel
theorem dX11_rule_35 : decode cX11_rule 35 = .ok (.aload_n 0, 1) := by decide +kernel
theorem dX11_rule_36 : decode cX11_rule 36 = .ok (.getfield 20, 3) := by decide +kernel
theorem dX11_rule_39 : decode cX11_rule 39 = .ok (.iload_n 1, 1) := by decide +kernel
theorem dX11_rule_40 : decode cX11_rule 40 = .ok (.invokevirtual 106, 3) := by decide +kernel
theorem dX11_rule_43 : decode cX11_rule 43 = .ok (.ifCond .ne 9, 3) := by decide +kernel
theorem dX11_rule_46 : decode cX11_rule 46 = .ok (.aload_n 0, 1) := by decide +kernel
theorem dX11_rule_47 : decode cX11_rule 47 = .ok (.iconst 1, 1) := by decide +kernel
theorem dX11_rule_48 : decode cX11_rule 48 = .ok (.invokevirtual 99, 3) := by decide +kernel
theorem dX11_rule_51 : decode cX11_rule 51 = .ok (.ireturn, 1) := by decide +kernel
theorem dX11_why_0 : decode cX11_why 0 = .ok (.iload_n 1, 1) := by decide +kernel
theorem dX11_why_1 : decode cX11_why 1 = .ok (.invokestatic 209, 3) := by decide +kernel
theorem dX11_why_4 : decode cX11_why 4 = .ok (.ifCond .eq 17, 3) := by decide +kernel
theorem dX11_why_21 : decode cX11_why 21 = .ok (.iconst (-1), 1) := by decide +kernel
theorem dX11_why_22 : decode cX11_why 22 = .ok (.ireturn, 1) := by decide +kernel
theorem dX11_why_7 : decode cX11_why 7 = .ok (.iload_n 2, 1) := by decide +kernel
theorem dX11_why_8 : decode cX11_why 8 = .ok (.invokestatic 180, 3) := by decide +kernel
theorem dX11_why_11 : decode cX11_why 11 = .ok (.ifCond .eq 10, 3) := by decide +kernel
theorem dX11_why_14 : decode cX11_why 14 = .ok (.iload_n 3, 1) := by decide +kernel
theorem dX11_why_15 : decode cX11_why 15 = .ok (.invokestatic 180, 3) := by decide +kernel
theorem dX11_why_18 : decode cX11_why 18 = .ok (.ifCond .ne 5, 3) := by decide +kernel
theorem dX11_why_23 : decode cX11_why 23 = .ok (.aload_n 0, 1) := by decide +kernel
theorem dX11_why_24 : decode cX11_why 24 = .ok (.getfield 45, 3) := by decide +kernel
theorem dX11_why_27 : decode cX11_why 27 = .ok (.iload_n 1, 1) := by decide +kernel
theorem dX11_why_28 : decode cX11_why 28 = .ok (.iload_n 2, 1) := by decide +kernel
theorem dX11_why_29 : decode cX11_why 29 = .ok (.iload_n 3, 1) := by decide +kernel
theorem dX11_why_30 : decode cX11_why 30 = .ok (.invokevirtual 215, 3) := by decide +kernel
theorem dX11_why_33 : decode cX11_why 33 = .ok (.ireturn, 1) := by decide +kernel
theorem dX11_line_0 : decode cX11_line 0 = .ok (.iload_n 1, 1) := by decide +kernel
theorem dX11_line_1 : decode cX11_line 1 = .ok (.invokestatic 140, 3) := by decide +kernel
theorem dX11_line_4 : decode cX11_line 4 = .ok (.ifCond .eq 26, 3) := by decide +kernel
theorem dX11_line_30 : decode cX11_line 30 = .ok (.iconst (-1), 1) := by decide +kernel
theorem dX11_line_31 : decode cX11_line 31 = .ok (.ireturn, 1) := by decide +kernel
theorem dX11_line_7 : decode cX11_line 7 = .ok (.iload_n 2, 1) := by decide +kernel
theorem dX11_line_8 : decode cX11_line 8 = .ok (.invokestatic 140, 3) := by decide +kernel
theorem dX11_line_11 : decode cX11_line 11 = .ok (.ifCond .eq 19, 3) := by decide +kernel
theorem dX11_line_14 : decode cX11_line 14 = .ok (.iload_n 1, 1) := by decide +kernel
theorem dX11_line_15 : decode cX11_line 15 = .ok (.iload_n 2, 1) := by decide +kernel
theorem dX11_line_16 : decode cX11_line 16 = .ok (.if_icmp .eq 14, 3) := by decide +kernel
theorem dX11_line_19 : decode cX11_line 19 = .ok (.aload_n 0, 1) := by decide +kernel
theorem dX11_line_20 : decode cX11_line 20 = .ok (.getfield 12, 3) := by decide +kernel
theorem dX11_line_23 : decode cX11_line 23 = .ok (.iload_n 3, 1) := by decide +kernel
theorem dX11_line_24 : decode cX11_line 24 = .ok (.invokevirtual 95, 3) := by decide +kernel
theorem dX11_line_27 : decode cX11_line 27 = .ok (.ifCond .ne 5, 3) := by decide +kernel
theorem dX11_line_32 : decode cX11_line 32 = .ok (.aload_n 0, 1) := by decide +kernel
theorem dX11_line_33 : decode cX11_line 33 = .ok (.getfield 52, 3) := by decide +kernel
theorem dX11_line_36 : decode cX11_line 36 = .ok (.invokevirtual 218, 3) := by decide +kernel
theorem dX11_line_39 : decode cX11_line 39 = .ok (.bipush 24, 2) := by decide +kernel
theorem dX11_line_41 : decode cX11_line 41 = .ok (.if_icmp .lt 6, 3) := by decide +kernel
theorem dX11_line_47 : decode cX11_line 47 = .ok (.aload_n 0, 1) := by decide +kernel
theorem dX11_line_48 : decode cX11_line 48 = .ok (.getfield 12, 3) := by decide +kernel
theorem dX11_line_51 : decode cX11_line 51 = .ok (.iload_n 3, 1) := by decide +kernel
theorem dX11_line_52 : decode cX11_line 52 = .ok (.invokevirtual 106, 3) := by decide +kernel
theorem dX11_line_55 : decode cX11_line 55 = .ok (.ifCond .ne 9, 3) := by decide +kernel
theorem dX11_line_58 : decode cX11_line 58 = .ok (.aload_n 0, 1) := by decide +kernel
theorem dX11_line_59 : decode cX11_line 59 = .ok (.iconst 1, 1) := by decide +kernel
theorem dX11_line_60 : decode cX11_line 60 = .ok (.invokevirtual 99, 3) := by decide +kernel
theorem dX11_line_63 : decode cX11_line 63 = .ok (.ireturn, 1) := by decide +kernel
theorem dX11_grant_0 : decode cX11_grant 0 = .ok (.iload_n 1, 1) := by decide +kernel
theorem dX11_grant_1 : decode cX11_grant 1 = .ok (.iconst 1, 1) := by decide +kernel
theorem dX11_grant_2 : decode cX11_grant 2 = .ok (.if_icmp .lt 16, 3) := by decide +kernel
theorem dX11_grant_18 : decode cX11_grant 18 = .ok (.iconst (-1), 1) := by decide +kernel
theorem dX11_grant_19 : decode cX11_grant 19 = .ok (.ireturn, 1) := by decide +kernel
theorem dX11_grant_5 : decode cX11_grant 5 = .ok (.iload_n 1, 1) := by decide +kernel
theorem dX11_grant_6 : decode cX11_grant 6 = .ok (.bipush 10, 2) := by decide +kernel
theorem dX11_grant_8 : decode cX11_grant 8 = .ok (.if_icmp .gt 10, 3) := by decide +kernel
theorem dX11_grant_11 : decode cX11_grant 11 = .ok (.iload_n 2, 1) := by decide +kernel
theorem dX11_grant_12 : decode cX11_grant 12 = .ok (.invokestatic 180, 3) := by decide +kernel
theorem dX11_grant_15 : decode cX11_grant 15 = .ok (.ifCond .ne 5, 3) := by decide +kernel
theorem dX11_grant_20 : decode cX11_grant 20 = .ok (.aload_n 0, 1) := by decide +kernel
theorem dX11_grant_21 : decode cX11_grant 21 = .ok (.getfield 52, 3) := by decide +kernel
theorem dX11_grant_24 : decode cX11_grant 24 = .ok (.invokevirtual 218, 3) := by decide +kernel
theorem dX11_grant_27 : decode cX11_grant 27 = .ok (.bipush 24, 2) := by decide +kernel
theorem dX11_grant_29 : decode cX11_grant 29 = .ok (.if_icmp .lt 6, 3) := by decide +kernel
theorem dX11_grant_35 : decode cX11_grant 35 = .ok (.aload_n 0, 1) := by decide +kernel
theorem dX11_grant_36 : decode cX11_grant 36 = .ok (.getfield 52, 3) := by decide +kernel
theorem dX11_grant_39 : decode cX11_grant 39 = .ok (.iconst 5, 1) := by decide +kernel
theorem dX11_grant_40 : decode cX11_grant 40 = .ok (.aload_n 0, 1) := by decide +kernel
theorem dX11_grant_41 : decode cX11_grant 41 = .ok (.getfield 136, 3) := by decide +kernel
theorem dX11_grant_44 : decode cX11_grant 44 = .ok (.bipush (-9), 2) := by decide +kernel
theorem dX11_grant_46 : decode cX11_grant 46 = .ok (.invokevirtual 235, 3) := by decide +kernel
theorem dX11_grant_49 : decode cX11_grant 49 = .ok (.istore_n 3, 1) := by decide +kernel
theorem dX11_grant_50 : decode cX11_grant 50 = .ok (.aload_n 0, 1) := by decide +kernel
theorem dX11_grant_51 : decode cX11_grant 51 = .ok (.getfield 52, 3) := by decide +kernel
theorem dX11_grant_54 : decode cX11_grant 54 = .ok (.iload_n 3, 1) := by decide +kernel
theorem dX11_grant_55 : decode cX11_grant 55 = .ok (.iload_n 1, 1) := by decide +kernel
theorem dX11_grant_56 : decode cX11_grant 56 = .ok (.iload_n 2, 1) := by decide +kernel
theorem dX11_grant_57 : decode cX11_grant 57 = .ok (.invokevirtual 314, 3) := by decide +kernel
theorem dX11_grant_60 : decode cX11_grant 60 = .ok (.iload_n 3, 1) := by decide +kernel
theorem dX11_grant_61 : decode cX11_grant 61 = .ok (.ireturn, 1) := by decide +kernel
theorem dX11_owed_0 : decode cX11_owed 0 = .ok (.lconst 0, 1) := by decide +kernel
theorem dX11_owed_1 : decode cX11_owed 1 = .ok (.lstore_n 1, 1) := by decide +kernel
theorem dX11_owed_2 : decode cX11_owed 2 = .ok (.iconst 0, 1) := by decide +kernel
theorem dX11_owed_3 : decode cX11_owed 3 = .ok (.istore_n 3, 1) := by decide +kernel
theorem dX11_owed_4 : decode cX11_owed 4 = .ok (.iconst 0, 1) := by decide +kernel
theorem dX11_owed_5 : decode cX11_owed 5 = .ok (.istore 4, 2) := by decide +kernel
theorem dX11_owed_7 : decode cX11_owed 7 = .ok (.iload 4, 2) := by decide +kernel
theorem dX11_owed_9 : decode cX11_owed 9 = .ok (.aload_n 0, 1) := by decide +kernel
theorem dX11_owed_10 : decode cX11_owed 10 = .ok (.getfield 52, 3) := by decide +kernel
theorem dX11_owed_13 : decode cX11_owed 13 = .ok (.invokevirtual 218, 3) := by decide +kernel
theorem dX11_owed_16 : decode cX11_owed 16 = .ok (.if_icmp .ge 63, 3) := by decide +kernel
theorem dX11_owed_79 : decode cX11_owed 79 = .ok (.aload_n 0, 1) := by decide +kernel
theorem dX11_owed_80 : decode cX11_owed 80 = .ok (.lload_n 1, 1) := by decide +kernel
theorem dX11_owed_81 : decode cX11_owed 81 = .ok (.putfield 417, 3) := by decide +kernel
theorem dX11_owed_84 : decode cX11_owed 84 = .ok (.iload_n 3, 1) := by decide +kernel
theorem dX11_owed_85 : decode cX11_owed 85 = .ok (.ireturn, 1) := by decide +kernel
theorem dX11_acts_0 : decode cX11_acts 0 = .ok (.aload_n 0, 1) := by decide +kernel
theorem dX11_acts_1 : decode cX11_acts 1 = .ok (.getfield 12, 3) := by decide +kernel
theorem dX11_acts_4 : decode cX11_acts 4 = .ok (.iload_n 1, 1) := by decide +kernel
theorem dX11_acts_5 : decode cX11_acts 5 = .ok (.invokevirtual 95, 3) := by decide +kernel
theorem dX11_acts_8 : decode cX11_acts 8 = .ok (.ifCond .ne 5, 3) := by decide +kernel
theorem dX11_acts_11 : decode cX11_acts 11 = .ok (.iconst (-1), 1) := by decide +kernel
theorem dX11_acts_12 : decode cX11_acts 12 = .ok (.ireturn, 1) := by decide +kernel
theorem dX11_acts_13 : decode cX11_acts 13 = .ok (.aload_n 0, 1) := by decide +kernel
theorem dX11_acts_14 : decode cX11_acts 14 = .ok (.getfield 12, 3) := by decide +kernel
theorem dX11_acts_17 : decode cX11_acts 17 = .ok (.iload_n 1, 1) := by decide +kernel
theorem dX11_acts_18 : decode cX11_acts 18 = .ok (.invokevirtual 106, 3) := by decide +kernel
theorem dX11_acts_21 : decode cX11_acts 21 = .ok (.ifCond .ne 9, 3) := by decide +kernel
theorem dX11_acts_24 : decode cX11_acts 24 = .ok (.aload_n 0, 1) := by decide +kernel
theorem dX11_acts_25 : decode cX11_acts 25 = .ok (.iconst 1, 1) := by decide +kernel
theorem dX11_acts_26 : decode cX11_acts 26 = .ok (.invokevirtual 99, 3) := by decide +kernel
theorem dX11_acts_29 : decode cX11_acts 29 = .ok (.ireturn, 1) := by decide +kernel
theorem dX11_best_0 : decode cX11_best 0 = .ok (.aload_n 0, 1) := by decide +kernel
theorem dX11_best_1 : decode cX11_best 1 = .ok (.getfield 12, 3) := by decide +kernel
theorem dX11_best_4 : decode cX11_best 4 = .ok (.iload_n 1, 1) := by decide +kernel
theorem dX11_best_5 : decode cX11_best 5 = .ok (.invokevirtual 95, 3) := by decide +kernel
theorem dX11_best_8 : decode cX11_best 8 = .ok (.ifCond .eq 14, 3) := by decide +kernel
theorem dX11_best_22 : decode cX11_best 22 = .ok (.iconst (-1), 1) := by decide +kernel
theorem dX11_best_23 : decode cX11_best 23 = .ok (.ireturn, 1) := by decide +kernel
theorem dX11_best_11 : decode cX11_best 11 = .ok (.aload_n 0, 1) := by decide +kernel
theorem dX11_best_12 : decode cX11_best 12 = .ok (.getfield 12, 3) := by decide +kernel
theorem dX11_best_15 : decode cX11_best 15 = .ok (.iload_n 2, 1) := by decide +kernel
theorem dX11_best_16 : decode cX11_best 16 = .ok (.invokevirtual 95, 3) := by decide +kernel
theorem dX11_best_19 : decode cX11_best 19 = .ok (.ifCond .ne 5, 3) := by decide +kernel
theorem dX11_best_24 : decode cX11_best 24 = .ok (.aload_n 0, 1) := by decide +kernel
theorem dX11_best_25 : decode cX11_best 25 = .ok (.iload_n 1, 1) := by decide +kernel
theorem dX11_best_26 : decode cX11_best 26 = .ok (.iload_n 2, 1) := by decide +kernel
theorem dX11_best_27 : decode cX11_best 27 = .ok (.invokevirtual 459, 3) := by decide +kernel
theorem dX11_best_30 : decode cX11_best 30 = .ok (.istore_n 3, 1) := by decide +kernel
theorem dX11_best_31 : decode cX11_best 31 = .ok (.iload_n 3, 1) := by decide +kernel
theorem dX11_best_32 : decode cX11_best 32 = .ok (.ifCond .eq 9, 3) := by decide +kernel
theorem dX11_best_35 : decode cX11_best 35 = .ok (.aload_n 0, 1) := by decide +kernel
theorem dX11_best_36 : decode cX11_best 36 = .ok (.iload_n 3, 1) := by decide +kernel
theorem dX11_best_37 : decode cX11_best 37 = .ok (.invokevirtual 99, 3) := by decide +kernel
theorem dX11_best_40 : decode cX11_best 40 = .ok (.ireturn, 1) := by decide +kernel
theorem dX11_asked_0 : decode cX11_asked 0 = .ok (.aload_n 0, 1) := by decide +kernel
theorem dX11_asked_1 : decode cX11_asked 1 = .ok (.getfield 465, 3) := by decide +kernel
theorem dX11_asked_4 : decode cX11_asked 4 = .ok (.ireturn, 1) := by decide +kernel
theorem dX11_finding_0 : decode cX11_finding 0 = .ok (.aload_n 0, 1) := by decide +kernel
theorem dX11_finding_1 : decode cX11_finding 1 = .ok (.getfield 477, 3) := by decide +kernel
theorem dX11_finding_4 : decode cX11_finding 4 = .ok (.ireturn, 1) := by decide +kernel
theorem dX11_findings_0 : decode cX11_findings 0 = .ok (.iload_n 1, 1) := by decide +kernel
theorem dX11_findings_1 : decode cX11_findings 1 = .ok (.iconst 1, 1) := by decide +kernel
theorem dX11_findings_2 : decode cX11_findings 2 = .ok (.if_icmp .lt 8, 3) := by decide +kernel
theorem dX11_findings_10 : decode cX11_findings 10 = .ok (.iconst (-1), 1) := by decide +kernel
theorem dX11_findings_11 : decode cX11_findings 11 = .ok (.ireturn, 1) := by decide +kernel
theorem dX11_findings_5 : decode cX11_findings 5 = .ok (.iload_n 1, 1) := by decide +kernel
theorem dX11_findings_6 : decode cX11_findings 6 = .ok (.iconst 5, 1) := by decide +kernel
theorem dX11_findings_7 : decode cX11_findings 7 = .ok (.if_icmp .le 5, 3) := by decide +kernel
theorem dX11_findings_12 : decode cX11_findings 12 = .ok (.aload_n 0, 1) := by decide +kernel
theorem dX11_findings_13 : decode cX11_findings 13 = .ok (.getfield 91, 3) := by decide +kernel
theorem dX11_findings_16 : decode cX11_findings 16 = .ok (.iload_n 1, 1) := by decide +kernel
theorem dX11_findings_17 : decode cX11_findings 17 = .ok (.iaload, 1) := by decide +kernel
theorem dX11_findings_18 : decode cX11_findings 18 = .ok (.ireturn, 1) := by decide +kernel
theorem dX11_coins_0 : decode cX11_coins 0 = .ok (.aload_n 0, 1) := by decide +kernel
theorem dX11_coins_1 : decode cX11_coins 1 = .ok (.getfield 417, 3) := by decide +kernel
theorem dX11_coins_4 : decode cX11_coins 4 = .ok (.lreturn, 1) := by decide +kernel
theorem dX11_set_0 : decode cX11_set 0 = .ok (.aload_n 0, 1) := by decide +kernel
theorem dX11_set_1 : decode cX11_set 1 = .ok (.getfield 337, 3) := by decide +kernel
theorem dX11_set_4 : decode cX11_set 4 = .ok (.lreturn, 1) := by decide +kernel
theorem ok_X8_isThere : okM yX8_isThere cX8_isThere 2 (some .boolean) 1 := ⟨q_542, q_90, by decide +kernel, by decide +kernel, by decide +kernel⟩
theorem okv_X8_isThere : okV yX8_isThere := ⟨q_540, q_541⟩
theorem ok_X8_exists : okM yX8_exists cX8_exists 2 (some .boolean) 1 := ⟨q_520, q_90, by decide +kernel, by decide +kernel, by decide +kernel⟩
theorem okv_X8_exists : okV yX8_exists := ⟨q_518, q_519⟩
theorem ok_X11_found : okM yX11_found cX11_found 2 (some .int) 1 := ⟨q_524, q_89, by decide +kernel, by decide +kernel, by decide +kernel⟩
theorem okv_X11_found : okV yX11_found := ⟨q_523, q_0⟩
theorem ok_X3_isCell : okM yX3_isCell cX3_isCell 1 (some .boolean) 1 := ⟨q_623, q_93, by decide +kernel, by decide +kernel, by decide +kernel⟩
theorem ok_X3_change : okM yX3_change cX3_change 4 none 3 := ⟨q_631, q_93, by decide +kernel, by decide +kernel, by decide +kernel⟩
theorem okv_X3_change : okV yX3_change := ⟨q_629, q_630⟩
theorem ok_X1_standingOn : okM yX1_standingOn cX1_standingOn 2 (some .int) 1 := ⟨q_627, q_94, by decide +kernel, by decide +kernel, by decide +kernel⟩
theorem okv_X1_standingOn : okV yX1_standingOn := ⟨q_625, q_626⟩
theorem ok_X1_isUse : okM yX1_isUse cX1_isUse 1 (some .boolean) 1 := ⟨q_638, q_94, by decide +kernel, by decide +kernel, by decide +kernel⟩
theorem ok_X1_isWorth : okM yX1_isWorth cX1_isWorth 1 (some .boolean) 1 := ⟨q_641, q_94, by decide +kernel, by decide +kernel, by decide +kernel⟩
theorem ok_X1_number : okM yX1_number cX1_number 1 (some .int) 0 := ⟨q_646, q_94, by decide +kernel, by decide +kernel, by decide +kernel⟩
theorem okv_X1_number : okV yX1_number := ⟨q_644, q_645⟩
theorem ok_X1_tellingsLeft : okM yX1_tellingsLeft cX1_tellingsLeft 1 (some .int) 0 := ⟨q_650, q_94, by decide +kernel, by decide +kernel, by decide +kernel⟩
theorem okv_X1_tellingsLeft : okV yX1_tellingsLeft := ⟨q_648, q_649⟩
theorem ok_X3_isWater : okM yX3_isWater cX3_isWater 2 (some .boolean) 1 := ⟨q_654, q_93, by decide +kernel, by decide +kernel, by decide +kernel⟩
theorem okv_X3_isWater : okV yX3_isWater := ⟨q_652, q_653⟩
theorem ok_X1_add : okM yX1_add cX1_add 7 (some .int) 5 := ⟨q_658, q_94, by decide +kernel, by decide +kernel, by decide +kernel⟩
theorem okv_X1_add : okV yX1_add := ⟨q_656, q_657⟩
theorem ok_X1_exists : okM yX1_exists cX1_exists 2 (some .boolean) 1 := ⟨q_670, q_94, by decide +kernel, by decide +kernel, by decide +kernel⟩
theorem okv_X1_exists : okV yX1_exists := ⟨q_668, q_669⟩
theorem ok_X5_exists : okM yX5_exists cX5_exists 2 (some .boolean) 1 := ⟨q_738, q_95, by decide +kernel, by decide +kernel, by decide +kernel⟩
theorem okv_X5_exists : okV yX5_exists := ⟨q_736, q_737⟩
theorem ok_X4_exists : okM yX4_exists cX4_exists 2 (some .boolean) 1 := ⟨q_885, q_97, by decide +kernel, by decide +kernel, by decide +kernel⟩
theorem okv_X4_exists : okV yX4_exists := ⟨q_883, q_884⟩
theorem ok_X0_exists : okM yX0_exists cX0_exists 2 (some .boolean) 1 := ⟨q_1305, q_101, by decide +kernel, by decide +kernel, by decide +kernel⟩
theorem okv_X0_exists : okV yX0_exists := ⟨q_1303, q_1304⟩
theorem ok_X5_number : okM yX5_number cX5_number 1 (some .int) 0 := ⟨q_706, q_95, by decide +kernel, by decide +kernel, by decide +kernel⟩
theorem okv_X5_number : okV yX5_number := ⟨q_704, q_705⟩
theorem ok_X5_add : okM yX5_add cX5_add 5 (some .int) 3 := ⟨q_718, q_95, by decide +kernel, by decide +kernel, by decide +kernel⟩
theorem okv_X5_add : okV yX5_add := ⟨q_716, q_717⟩
theorem ok_X11_isDay : okM yX11_isDay cX11_isDay 1 (some .boolean) 1 := ⟨q_686, q_89, by decide +kernel, by decide +kernel, by decide +kernel⟩
theorem ok_X7_number : okM yX7_number cX7_number 1 (some .int) 0 := ⟨q_755, q_96, by decide +kernel, by decide +kernel, by decide +kernel⟩
theorem okv_X7_number : okV yX7_number := ⟨q_753, q_754⟩
theorem ok_X7_isLetter : okM yX7_isLetter cX7_isLetter 1 (some .boolean) 1 := ⟨q_770, q_96, by decide +kernel, by decide +kernel, by decide +kernel⟩
theorem ok_X7_deciding : okM yX7_deciding cX7_deciding 6 (some .int) 3 := ⟨q_778, q_96, by decide +kernel, by decide +kernel, by decide +kernel⟩
theorem okv_X7_deciding : okV yX7_deciding := ⟨q_776, q_777⟩
theorem ok_X4_number : okM yX4_number cX4_number 1 (some .int) 0 := ⟨q_793, q_97, by decide +kernel, by decide +kernel, by decide +kernel⟩
theorem okv_X4_number : okV yX4_number := ⟨q_791, q_792⟩
theorem ok_X4_add : okM yX4_add cX4_add 5 (some .int) 3 := ⟨q_872, q_97, by decide +kernel, by decide +kernel, by decide +kernel⟩
theorem okv_X4_add : okV yX4_add := ⟨q_870, q_871⟩
theorem ok_X4_setGrant : okM yX4_setGrant cX4_setGrant 4 none 3 := ⟨q_1002, q_97, by decide +kernel, by decide +kernel, by decide +kernel⟩
theorem okv_X4_setGrant : okV yX4_setGrant := ⟨q_1000, q_1001⟩
theorem ok_X11_weighingFault : okM yX11_weighingFault cX11_weighingFault 3 (some .int) 2 := ⟨q_1376, q_89, by decide +kernel, by decide +kernel, by decide +kernel⟩
theorem okv_X11_weighingFault : okV yX11_weighingFault := ⟨q_1375, q_35⟩
def sp_X11_weighingFault (g : GG) (x0 : Nat) (r : Int32) (r2 : Int32) (xr : Nat) (xt : Nat) (xg : Nat) (xb : Nat) (xp : Nat) (xu : Nat) (xm : Nat) (xd : Nat) (xw : Nat) (xh : Nat) (xa : Nat) (xs : Nat) (xf : Nat) (xrs : Nat) (xrp : Nat) : Int32 × va_W := (1, [(x0, .inr (11, [.ref xr, .ref xt, .ref xg, .ref xb, .ref xp, .ref xu, .ref xm, .ref xd, .ref xw, .ref xh, .ref xa, .ref xs, .ref xf, .int 0, .int 0, .long 0, .long 0, .int 0])), (xr, .inr (8, [.int 6, .int 0, .ref xrs, .ref xrp])), (xrs, .inl (cI g, 6, .inl (fun _ => (-1))))])
set_option maxHeartbeats 4000000 in
set_option maxRecDepth 100000 in
theorem c_X11_weighingFault (l : Launch) (g : GG) (x0 : Nat) (r : Int32) (r2 : Int32) (xr : Nat) (xt : Nat) (xg : Nat) (xb : Nat) (xp : Nat) (xu : Nat) (xm : Nat) (xd : Nat) (xw : Nat) (xh : Nat) (xa : Nat) (xs : Nat) (xf : Nat) (xrs : Nat) (xrp : Nat) (h0_r : ¬ (r < 0)) (h6_r : ¬ (6 ≤ r)) (h0_r2 : ¬ (r2 < 0)) (h6_r2 : ¬ (6 ≤ r2)) : MI l g yX11_weighingFault cX11_weighingFault 3 (some .int) 1 21 0 0 [(x0, .inr (11, [.ref xr, .ref xt, .ref xg, .ref xb, .ref xp, .ref xu, .ref xm, .ref xd, .ref xw, .ref xh, .ref xa, .ref xs, .ref xf, .int 0, .int 0, .long 0, .long 0, .int 0])), (xr, .inr (8, [.int 6, .int 0, .ref xrs, .ref xrp])), (xrs, .inl (cI g, 6, .inl (fun _ => (-1))))] [.ref x0, .int r, .int r2] (fun rr_ ww_ => (rr_, ww_) = sp_X11_weighingFault g x0 r r2 xr xt xg xb xp xu xm xd xw xh xa xs xf xrs xrp) := by
  refine met_of (fun A => va_Qi _ (bW g A) A) (by decide) (Nat.le_of_ble_eq_true rfl) ?_
  intro p e s m below meth c A ls X hK hP hD hA hZ hS hl
  have hx := X.1
  have hb := X.2.1
  have hml := X.2.2.1
  have hown := X.2.2.2.1
  have hts := X.2.2.2.2.1
  have hnm := X.2.2.2.2.2.2.2
  have hl : lv_has ls 3 [(0, .ref x0), (1, .int r), (2, .int r2)] := hl
  refine lv_aload_n hx hb dX11_weighingFault_0 rfl (lv_at hl 0 rfl) ?_
  refine va_get (D := g.1) (ci := 11) (v := .ref xr) (C := RX11) (T := TX11) (N := 18) hx hb hts fw_X11 hown hK hP 0 rfl rfl 0 (by decide) (hts _ q_458) (fun _ h9 => h9) rfl dX11_weighingFault_1 ?_
  refine lv_iload_n hx hb dX11_weighingFault_4 rfl (lv_at hl 1 rfl) ?_
  refine kVi (As := [.int r]) (rest := []) (wr := [(x0, .inr (11, [.ref xr, .ref xt, .ref xg, .ref xb, .ref xp, .ref xu, .ref xm, .ref xd, .ref xw, .ref xh, .ref xa, .ref xs, .ref xf, .int 0, .int 0, .long 0, .long 0, .int 0]))]) X (c_X8_isThere l g xr r 6 0 xrs xrp h0_r h6_r) ok_X8_isThere okv_X8_isThere q_539 rfl hK hP hD hS hA hZ hl.1 [1, 2] [0] rfl rfl rfl rfl rfl 0 8 rfl rfl rfl (Nat.le_of_ble_eq_true rfl) ⟨Nat.le_of_ble_eq_true rfl, Nat.le_of_ble_eq_true rfl⟩ dX11_weighingFault_5 ⟨Nat.le_of_ble_eq_true rfl, Nat.le_of_ble_eq_true rfl⟩ (fun r_1 w1 H locs hw_2 hP hD hS => ?_)
  rw [sp_X8_isThere] at hw_2
  obtain ⟨e1, e2⟩ := Prod.mk.inj hw_2
  subst e1; subst e2
  have hP : va_P g.1 classes [(x0, .inr (11, [.ref xr, .ref xt, .ref xg, .ref xb, .ref xp, .ref xu, .ref xm, .ref xd, .ref xw, .ref xh, .ref xa, .ref xs, .ref xf, .int 0, .int 0, .long 0, .long 0, .int 0])), (xr, .inr (8, [.int 6, .int 0, .ref xrs, .ref xrp])), (xrs, .inl (cI g, 6, .inl (fun _ => (-1))))] H := hP
  have hD : va_D A [(x0, .inr (11, [.ref xr, .ref xt, .ref xg, .ref xb, .ref xp, .ref xu, .ref xm, .ref xd, .ref xw, .ref xh, .ref xa, .ref xs, .ref xf, .int 0, .int 0, .long 0, .long 0, .int 0])), (xr, .inr (8, [.int 6, .int 0, .ref xrs, .ref xrp])), (xrs, .inl (cI g, 6, .inl (fun _ => (-1))))] := hD
  refine lv_if_eq (tgt := 22) hx hb dX11_weighingFault_8 (by decide) (fun _ => ?_) (fun c_3 => absurd (by decide) c_3)
  refine lv_iconst (v := 1) hx hb dX11_weighingFault_22 (by decide) ?_
  exact rI X hK hP hD hS dX11_weighingFault_23 (by rfl) (Nat.le_of_ble_eq_true rfl) (Nat.le_of_ble_eq_true rfl) (by show ((_, _) : Int32 × va_W) = _; unfold sp_X11_weighingFault; try rfl)
def sp_X11_lay (g : GG) (x0 : Nat) (r : Int32) (i : Int32) (v : Int32) (xr : Nat) (xt : Nat) (xg : Nat) (xb : Nat) (xp : Nat) (xu : Nat) (xm : Nat) (xd : Nat) (xw : Nat) (xh : Nat) (xa : Nat) (xs : Nat) (xf : Nat) (xrs : Nat) (xrp : Nat) : Int32 := if r < 0 then (-1) else (if 6 ≤ r then (-1) else (-3))
set_option maxHeartbeats 4000000 in
set_option maxRecDepth 100000 in
theorem c_X11_lay (l : Launch) (g : GG) (x0 : Nat) (r : Int32) (i : Int32) (v : Int32) (xr : Nat) (xt : Nat) (xg : Nat) (xb : Nat) (xp : Nat) (xu : Nat) (xm : Nat) (xd : Nat) (xw : Nat) (xh : Nat) (xa : Nat) (xs : Nat) (xf : Nat) (xrs : Nat) (xrp : Nat) : MI l g yX11_lay cX11_lay 4 (some .int) 1 21 0 0 [(x0, .inr (11, [.ref xr, .ref xt, .ref xg, .ref xb, .ref xp, .ref xu, .ref xm, .ref xd, .ref xw, .ref xh, .ref xa, .ref xs, .ref xf, .int 0, .int 0, .long 0, .long 0, .int 0])), (xr, .inr (8, [.int 6, .int 0, .ref xrs, .ref xrp])), (xrs, .inl (cI g, 6, .inl (fun _ => (-1)))), (xf, .inl (cI g, 6, .inl (fun _ => 0)))] [.ref x0, .int r, .int i, .int v] (fun rr_ _ => rr_ = sp_X11_lay g x0 r i v xr xt xg xb xp xu xm xd xw xh xa xs xf xrs xrp) := by
  refine met_of (fun A => va_Qi _ (bW g A) A) (by decide) (Nat.le_of_ble_eq_true rfl) ?_
  intro p e s m below meth c A ls X hK hP hD hA hZ hS hl
  have hx := X.1
  have hb := X.2.1
  have hml := X.2.2.1
  have hown := X.2.2.2.1
  have hts := X.2.2.2.2.1
  have hnm := X.2.2.2.2.2.2.2
  have hl : lv_has ls 4 [(0, .ref x0), (1, .int r), (2, .int i), (3, .int v)] := hl
  refine lv_aload_n hx hb dX11_lay_0 rfl (lv_at hl 0 rfl) ?_
  refine va_get (D := g.1) (ci := 11) (v := .ref xr) (C := RX11) (T := TX11) (N := 18) hx hb hts fw_X11 hown hK hP 0 rfl rfl 0 (by decide) (hts _ q_458) (fun _ h9 => h9) rfl dX11_lay_1 ?_
  refine lv_iload_n hx hb dX11_lay_4 rfl (lv_at hl 1 rfl) ?_
  refine kVi (As := [.int r]) (rest := []) (wr := [(x0, .inr (11, [.ref xr, .ref xt, .ref xg, .ref xb, .ref xp, .ref xu, .ref xm, .ref xd, .ref xw, .ref xh, .ref xa, .ref xs, .ref xf, .int 0, .int 0, .long 0, .long 0, .int 0])), (xrs, .inl (cI g, 6, .inl (fun _ => (-1)))), (xf, .inl (cI g, 6, .inl (fun _ => 0)))]) X (c_X8_exists l g xr r 6 0 xrs xrp) ok_X8_exists okv_X8_exists q_517 rfl hK hP hD hS hA hZ hl.1 [1] [0, 2, 3] rfl rfl rfl rfl rfl 0 8 rfl rfl rfl (Nat.le_of_ble_eq_true rfl) ⟨Nat.le_of_ble_eq_true rfl, Nat.le_of_ble_eq_true rfl⟩ dX11_lay_5 ⟨Nat.le_of_ble_eq_true rfl, Nat.le_of_ble_eq_true rfl⟩ (fun r_1 w1 H locs hw_2 hP hD hS => ?_)
  rw [sp_X8_exists] at hw_2
  rcases Classical.em (r < 0) with c_3 | c_3
  ·
    rw [if_pos c_3] at hw_2
    obtain ⟨e1, e2⟩ := Prod.mk.inj hw_2
    subst e1; subst e2
    have hP : va_P g.1 classes [(x0, .inr (11, [.ref xr, .ref xt, .ref xg, .ref xb, .ref xp, .ref xu, .ref xm, .ref xd, .ref xw, .ref xh, .ref xa, .ref xs, .ref xf, .int 0, .int 0, .long 0, .long 0, .int 0])), (xrs, .inl (cI g, 6, .inl (fun _ => (-1)))), (xf, .inl (cI g, 6, .inl (fun _ => 0))), (xr, .inr (8, [.int 6, .int 0, .ref xrs, .ref xrp]))] H := hP
    have hD : va_D A [(x0, .inr (11, [.ref xr, .ref xt, .ref xg, .ref xb, .ref xp, .ref xu, .ref xm, .ref xd, .ref xw, .ref xh, .ref xa, .ref xs, .ref xf, .int 0, .int 0, .long 0, .long 0, .int 0])), (xrs, .inl (cI g, 6, .inl (fun _ => (-1)))), (xf, .inl (cI g, 6, .inl (fun _ => 0))), (xr, .inr (8, [.int 6, .int 0, .ref xrs, .ref xrp]))] := hD
    refine lv_if_ne (tgt := 13) hx hb dX11_lay_8 (by decide) (fun c_4 => absurd (by decide) c_4) (fun _ => ?_)
    refine lv_iconst (v := (-1)) hx hb dX11_lay_11 (by decide) ?_
    exact rI X hK hP hD hS dX11_lay_12 (by rfl) (Nat.le_of_ble_eq_true rfl) (Nat.le_of_ble_eq_true rfl) (by show _ = _; unfold sp_X11_lay; rw [if_pos c_3]; try rfl)
  ·
    rw [if_neg c_3] at hw_2
    rcases Classical.em (6 ≤ r) with c_5 | c_5
    ·
      rw [if_pos c_5] at hw_2
      obtain ⟨e1, e2⟩ := Prod.mk.inj hw_2
      subst e1; subst e2
      have hP : va_P g.1 classes [(x0, .inr (11, [.ref xr, .ref xt, .ref xg, .ref xb, .ref xp, .ref xu, .ref xm, .ref xd, .ref xw, .ref xh, .ref xa, .ref xs, .ref xf, .int 0, .int 0, .long 0, .long 0, .int 0])), (xrs, .inl (cI g, 6, .inl (fun _ => (-1)))), (xf, .inl (cI g, 6, .inl (fun _ => 0))), (xr, .inr (8, [.int 6, .int 0, .ref xrs, .ref xrp]))] H := hP
      have hD : va_D A [(x0, .inr (11, [.ref xr, .ref xt, .ref xg, .ref xb, .ref xp, .ref xu, .ref xm, .ref xd, .ref xw, .ref xh, .ref xa, .ref xs, .ref xf, .int 0, .int 0, .long 0, .long 0, .int 0])), (xrs, .inl (cI g, 6, .inl (fun _ => (-1)))), (xf, .inl (cI g, 6, .inl (fun _ => 0))), (xr, .inr (8, [.int 6, .int 0, .ref xrs, .ref xrp]))] := hD
      refine lv_if_ne (tgt := 13) hx hb dX11_lay_8 (by decide) (fun c_6 => absurd (by decide) c_6) (fun _ => ?_)
      refine lv_iconst (v := (-1)) hx hb dX11_lay_11 (by decide) ?_
      exact rI X hK hP hD hS dX11_lay_12 (by rfl) (Nat.le_of_ble_eq_true rfl) (Nat.le_of_ble_eq_true rfl) (by show _ = _; unfold sp_X11_lay; rw [if_neg c_3, if_pos c_5]; try rfl)
    ·
      rw [if_neg c_5] at hw_2
      obtain ⟨e1, e2⟩ := Prod.mk.inj hw_2
      subst e1; subst e2
      have hP : va_P g.1 classes [(x0, .inr (11, [.ref xr, .ref xt, .ref xg, .ref xb, .ref xp, .ref xu, .ref xm, .ref xd, .ref xw, .ref xh, .ref xa, .ref xs, .ref xf, .int 0, .int 0, .long 0, .long 0, .int 0])), (xrs, .inl (cI g, 6, .inl (fun _ => (-1)))), (xf, .inl (cI g, 6, .inl (fun _ => 0))), (xr, .inr (8, [.int 6, .int 0, .ref xrs, .ref xrp]))] H := hP
      have hD : va_D A [(x0, .inr (11, [.ref xr, .ref xt, .ref xg, .ref xb, .ref xp, .ref xu, .ref xm, .ref xd, .ref xw, .ref xh, .ref xa, .ref xs, .ref xf, .int 0, .int 0, .long 0, .long 0, .int 0])), (xrs, .inl (cI g, 6, .inl (fun _ => (-1)))), (xf, .inl (cI g, 6, .inl (fun _ => 0))), (xr, .inr (8, [.int 6, .int 0, .ref xrs, .ref xrp]))] := hD
      refine lv_if_ne (tgt := 13) hx hb dX11_lay_8 (by decide) (fun _ => ?_) (fun c_7 => absurd c_7 (by decide))
      refine lv_aload_n hx hb dX11_lay_13 rfl (lv_at hl 0 rfl) ?_
      refine va_get (D := g.1) (ci := 11) (v := .ref xr) (C := RX11) (T := TX11) (N := 18) hx hb hts fw_X11 hown hK hP 0 rfl rfl 0 (by decide) (hts _ q_458) (fun _ h9 => h9) rfl dX11_lay_14 ?_
      refine lv_iload_n hx hb dX11_lay_17 rfl (lv_at hl 1 rfl) ?_
      refine kVi (As := [.int r]) (rest := []) (wr := [(x0, .inr (11, [.ref xr, .ref xt, .ref xg, .ref xb, .ref xp, .ref xu, .ref xm, .ref xd, .ref xw, .ref xh, .ref xa, .ref xs, .ref xf, .int 0, .int 0, .long 0, .long 0, .int 0])), (xf, .inl (cI g, 6, .inl (fun _ => 0)))]) X (c_X8_isThere l g xr r 6 0 xrs xrp c_3 c_5) ok_X8_isThere okv_X8_isThere q_539 rfl hK hP hD hS hA hZ hl.1 [3, 1] [0, 2] rfl rfl rfl rfl rfl 0 8 rfl rfl rfl (Nat.le_of_ble_eq_true rfl) ⟨Nat.le_of_ble_eq_true rfl, Nat.le_of_ble_eq_true rfl⟩ dX11_lay_18 ⟨Nat.le_of_ble_eq_true rfl, Nat.le_of_ble_eq_true rfl⟩ (fun r_8 w1 H locs hw_9 hP hD hS => ?_)
      rw [sp_X8_isThere] at hw_9
      obtain ⟨e1, e2⟩ := Prod.mk.inj hw_9
      subst e1; subst e2
      have hP : va_P g.1 classes [(x0, .inr (11, [.ref xr, .ref xt, .ref xg, .ref xb, .ref xp, .ref xu, .ref xm, .ref xd, .ref xw, .ref xh, .ref xa, .ref xs, .ref xf, .int 0, .int 0, .long 0, .long 0, .int 0])), (xf, .inl (cI g, 6, .inl (fun _ => 0))), (xr, .inr (8, [.int 6, .int 0, .ref xrs, .ref xrp])), (xrs, .inl (cI g, 6, .inl (fun _ => (-1))))] H := hP
      have hD : va_D A [(x0, .inr (11, [.ref xr, .ref xt, .ref xg, .ref xb, .ref xp, .ref xu, .ref xm, .ref xd, .ref xw, .ref xh, .ref xa, .ref xs, .ref xf, .int 0, .int 0, .long 0, .long 0, .int 0])), (xf, .inl (cI g, 6, .inl (fun _ => 0))), (xr, .inr (8, [.int 6, .int 0, .ref xrs, .ref xrp])), (xrs, .inl (cI g, 6, .inl (fun _ => (-1))))] := hD
      refine lv_if_ne (tgt := 30) hx hb dX11_lay_21 (by decide) (fun c_10 => absurd (by decide) c_10) (fun _ => ?_)
      refine lv_aload_n hx hb dX11_lay_24 rfl (lv_at hl 0 rfl) ?_
      refine lv_iconst (v := 1) hx hb dX11_lay_25 (by decide) ?_
      refine kVi (As := [.int 1]) (rest := []) (wr := [(xr, .inr (8, [.int 6, .int 0, .ref xrs, .ref xrp])), (xrs, .inl (cI g, 6, .inl (fun _ => (-1))))]) X (c_X11_found1 l g x0 xr xt xg xb xp xu xm xd xw xh xa xs xf) ok_X11_found okv_X11_found q_521 rfl hK hP hD hS hA hZ hl.1 [0, 1] [2, 3] rfl rfl rfl rfl rfl 0 11 rfl rfl rfl (Nat.le_of_ble_eq_true rfl) ⟨Nat.le_of_ble_eq_true rfl, Nat.le_of_ble_eq_true rfl⟩ dX11_lay_26 ⟨Nat.le_of_ble_eq_true rfl, Nat.le_of_ble_eq_true rfl⟩ (fun r_11 w1 H locs hw_12 hP hD hS => ?_)
      rw [sp_X11_found1] at hw_12
      obtain ⟨e1, e2⟩ := Prod.mk.inj hw_12
      subst e1; subst e2
      have hP : va_P g.1 classes [(xr, .inr (8, [.int 6, .int 0, .ref xrs, .ref xrp])), (xrs, .inl (cI g, 6, .inl (fun _ => (-1)))), (x0, .inr (11, [.ref xr, .ref xt, .ref xg, .ref xb, .ref xp, .ref xu, .ref xm, .ref xd, .ref xw, .ref xh, .ref xa, .ref xs, .ref xf, .int 0, .int 0, .long 0, .long 0, .int 1])), (xf, .inl (cI g, 6, .inl (upd (fun _ => 0) 1 1)))] H := hP
      have hD : va_D A [(xr, .inr (8, [.int 6, .int 0, .ref xrs, .ref xrp])), (xrs, .inl (cI g, 6, .inl (fun _ => (-1)))), (x0, .inr (11, [.ref xr, .ref xt, .ref xg, .ref xb, .ref xp, .ref xu, .ref xm, .ref xd, .ref xw, .ref xh, .ref xa, .ref xs, .ref xf, .int 0, .int 0, .long 0, .long 0, .int 1])), (xf, .inl (cI g, 6, .inl (upd (fun _ => 0) 1 1)))] := hD
      exact rI X hK hP hD hS dX11_lay_29 (by rfl) (Nat.le_of_ble_eq_true rfl) (Nat.le_of_ble_eq_true rfl) (by show _ = _; unfold sp_X11_lay; rw [if_neg c_3, if_neg c_5]; try rfl)
def sp_X11_tear (g : GG) (x0 : Nat) (r : Int32) (xr : Nat) (xt : Nat) (xg : Nat) (xb : Nat) (xp : Nat) (xu : Nat) (xm : Nat) (xd : Nat) (xw : Nat) (xh : Nat) (xa : Nat) (xs : Nat) (xf : Nat) (xrs : Nat) (xrp : Nat) : Int32 := if r < 0 then (-1) else (if 6 ≤ r then (-1) else (-3))
set_option maxHeartbeats 4000000 in
set_option maxRecDepth 100000 in
theorem c_X11_tear (l : Launch) (g : GG) (x0 : Nat) (r : Int32) (xr : Nat) (xt : Nat) (xg : Nat) (xb : Nat) (xp : Nat) (xu : Nat) (xm : Nat) (xd : Nat) (xw : Nat) (xh : Nat) (xa : Nat) (xs : Nat) (xf : Nat) (xrs : Nat) (xrp : Nat) : MI l g yX11_tear cX11_tear 2 (some .int) 1 21 0 0 [(x0, .inr (11, [.ref xr, .ref xt, .ref xg, .ref xb, .ref xp, .ref xu, .ref xm, .ref xd, .ref xw, .ref xh, .ref xa, .ref xs, .ref xf, .int 0, .int 0, .long 0, .long 0, .int 0])), (xr, .inr (8, [.int 6, .int 0, .ref xrs, .ref xrp])), (xrs, .inl (cI g, 6, .inl (fun _ => (-1)))), (xf, .inl (cI g, 6, .inl (fun _ => 0)))] [.ref x0, .int r] (fun rr_ _ => rr_ = sp_X11_tear g x0 r xr xt xg xb xp xu xm xd xw xh xa xs xf xrs xrp) := by
  refine met_of (fun A => va_Qi _ (bW g A) A) (by decide) (Nat.le_of_ble_eq_true rfl) ?_
  intro p e s m below meth c A ls X hK hP hD hA hZ hS hl
  have hx := X.1
  have hb := X.2.1
  have hml := X.2.2.1
  have hown := X.2.2.2.1
  have hts := X.2.2.2.2.1
  have hnm := X.2.2.2.2.2.2.2
  have hl : lv_has ls 2 [(0, .ref x0), (1, .int r)] := hl
  refine lv_aload_n hx hb dX11_tear_0 rfl (lv_at hl 0 rfl) ?_
  refine va_get (D := g.1) (ci := 11) (v := .ref xr) (C := RX11) (T := TX11) (N := 18) hx hb hts fw_X11 hown hK hP 0 rfl rfl 0 (by decide) (hts _ q_458) (fun _ h9 => h9) rfl dX11_tear_1 ?_
  refine lv_iload_n hx hb dX11_tear_4 rfl (lv_at hl 1 rfl) ?_
  refine kVi (As := [.int r]) (rest := []) (wr := [(x0, .inr (11, [.ref xr, .ref xt, .ref xg, .ref xb, .ref xp, .ref xu, .ref xm, .ref xd, .ref xw, .ref xh, .ref xa, .ref xs, .ref xf, .int 0, .int 0, .long 0, .long 0, .int 0])), (xrs, .inl (cI g, 6, .inl (fun _ => (-1)))), (xf, .inl (cI g, 6, .inl (fun _ => 0)))]) X (c_X8_exists l g xr r 6 0 xrs xrp) ok_X8_exists okv_X8_exists q_517 rfl hK hP hD hS hA hZ hl.1 [1] [0, 2, 3] rfl rfl rfl rfl rfl 0 8 rfl rfl rfl (Nat.le_of_ble_eq_true rfl) ⟨Nat.le_of_ble_eq_true rfl, Nat.le_of_ble_eq_true rfl⟩ dX11_tear_5 ⟨Nat.le_of_ble_eq_true rfl, Nat.le_of_ble_eq_true rfl⟩ (fun r_1 w1 H locs hw_2 hP hD hS => ?_)
  rw [sp_X8_exists] at hw_2
  rcases Classical.em (r < 0) with c_3 | c_3
  ·
    rw [if_pos c_3] at hw_2
    obtain ⟨e1, e2⟩ := Prod.mk.inj hw_2
    subst e1; subst e2
    have hP : va_P g.1 classes [(x0, .inr (11, [.ref xr, .ref xt, .ref xg, .ref xb, .ref xp, .ref xu, .ref xm, .ref xd, .ref xw, .ref xh, .ref xa, .ref xs, .ref xf, .int 0, .int 0, .long 0, .long 0, .int 0])), (xrs, .inl (cI g, 6, .inl (fun _ => (-1)))), (xf, .inl (cI g, 6, .inl (fun _ => 0))), (xr, .inr (8, [.int 6, .int 0, .ref xrs, .ref xrp]))] H := hP
    have hD : va_D A [(x0, .inr (11, [.ref xr, .ref xt, .ref xg, .ref xb, .ref xp, .ref xu, .ref xm, .ref xd, .ref xw, .ref xh, .ref xa, .ref xs, .ref xf, .int 0, .int 0, .long 0, .long 0, .int 0])), (xrs, .inl (cI g, 6, .inl (fun _ => (-1)))), (xf, .inl (cI g, 6, .inl (fun _ => 0))), (xr, .inr (8, [.int 6, .int 0, .ref xrs, .ref xrp]))] := hD
    refine lv_if_ne (tgt := 13) hx hb dX11_tear_8 (by decide) (fun c_4 => absurd (by decide) c_4) (fun _ => ?_)
    refine lv_iconst (v := (-1)) hx hb dX11_tear_11 (by decide) ?_
    exact rI X hK hP hD hS dX11_tear_12 (by rfl) (Nat.le_of_ble_eq_true rfl) (Nat.le_of_ble_eq_true rfl) (by show _ = _; unfold sp_X11_tear; rw [if_pos c_3]; try rfl)
  ·
    rw [if_neg c_3] at hw_2
    rcases Classical.em (6 ≤ r) with c_5 | c_5
    ·
      rw [if_pos c_5] at hw_2
      obtain ⟨e1, e2⟩ := Prod.mk.inj hw_2
      subst e1; subst e2
      have hP : va_P g.1 classes [(x0, .inr (11, [.ref xr, .ref xt, .ref xg, .ref xb, .ref xp, .ref xu, .ref xm, .ref xd, .ref xw, .ref xh, .ref xa, .ref xs, .ref xf, .int 0, .int 0, .long 0, .long 0, .int 0])), (xrs, .inl (cI g, 6, .inl (fun _ => (-1)))), (xf, .inl (cI g, 6, .inl (fun _ => 0))), (xr, .inr (8, [.int 6, .int 0, .ref xrs, .ref xrp]))] H := hP
      have hD : va_D A [(x0, .inr (11, [.ref xr, .ref xt, .ref xg, .ref xb, .ref xp, .ref xu, .ref xm, .ref xd, .ref xw, .ref xh, .ref xa, .ref xs, .ref xf, .int 0, .int 0, .long 0, .long 0, .int 0])), (xrs, .inl (cI g, 6, .inl (fun _ => (-1)))), (xf, .inl (cI g, 6, .inl (fun _ => 0))), (xr, .inr (8, [.int 6, .int 0, .ref xrs, .ref xrp]))] := hD
      refine lv_if_ne (tgt := 13) hx hb dX11_tear_8 (by decide) (fun c_6 => absurd (by decide) c_6) (fun _ => ?_)
      refine lv_iconst (v := (-1)) hx hb dX11_tear_11 (by decide) ?_
      exact rI X hK hP hD hS dX11_tear_12 (by rfl) (Nat.le_of_ble_eq_true rfl) (Nat.le_of_ble_eq_true rfl) (by show _ = _; unfold sp_X11_tear; rw [if_neg c_3, if_pos c_5]; try rfl)
    ·
      rw [if_neg c_5] at hw_2
      obtain ⟨e1, e2⟩ := Prod.mk.inj hw_2
      subst e1; subst e2
      have hP : va_P g.1 classes [(x0, .inr (11, [.ref xr, .ref xt, .ref xg, .ref xb, .ref xp, .ref xu, .ref xm, .ref xd, .ref xw, .ref xh, .ref xa, .ref xs, .ref xf, .int 0, .int 0, .long 0, .long 0, .int 0])), (xrs, .inl (cI g, 6, .inl (fun _ => (-1)))), (xf, .inl (cI g, 6, .inl (fun _ => 0))), (xr, .inr (8, [.int 6, .int 0, .ref xrs, .ref xrp]))] H := hP
      have hD : va_D A [(x0, .inr (11, [.ref xr, .ref xt, .ref xg, .ref xb, .ref xp, .ref xu, .ref xm, .ref xd, .ref xw, .ref xh, .ref xa, .ref xs, .ref xf, .int 0, .int 0, .long 0, .long 0, .int 0])), (xrs, .inl (cI g, 6, .inl (fun _ => (-1)))), (xf, .inl (cI g, 6, .inl (fun _ => 0))), (xr, .inr (8, [.int 6, .int 0, .ref xrs, .ref xrp]))] := hD
      refine lv_if_ne (tgt := 13) hx hb dX11_tear_8 (by decide) (fun _ => ?_) (fun c_7 => absurd c_7 (by decide))
      refine lv_aload_n hx hb dX11_tear_13 rfl (lv_at hl 0 rfl) ?_
      refine va_get (D := g.1) (ci := 11) (v := .ref xr) (C := RX11) (T := TX11) (N := 18) hx hb hts fw_X11 hown hK hP 0 rfl rfl 0 (by decide) (hts _ q_458) (fun _ h9 => h9) rfl dX11_tear_14 ?_
      refine lv_iload_n hx hb dX11_tear_17 rfl (lv_at hl 1 rfl) ?_
      refine kVi (As := [.int r]) (rest := []) (wr := [(x0, .inr (11, [.ref xr, .ref xt, .ref xg, .ref xb, .ref xp, .ref xu, .ref xm, .ref xd, .ref xw, .ref xh, .ref xa, .ref xs, .ref xf, .int 0, .int 0, .long 0, .long 0, .int 0])), (xf, .inl (cI g, 6, .inl (fun _ => 0)))]) X (c_X8_isThere l g xr r 6 0 xrs xrp c_3 c_5) ok_X8_isThere okv_X8_isThere q_539 rfl hK hP hD hS hA hZ hl.1 [3, 1] [0, 2] rfl rfl rfl rfl rfl 0 8 rfl rfl rfl (Nat.le_of_ble_eq_true rfl) ⟨Nat.le_of_ble_eq_true rfl, Nat.le_of_ble_eq_true rfl⟩ dX11_tear_18 ⟨Nat.le_of_ble_eq_true rfl, Nat.le_of_ble_eq_true rfl⟩ (fun r_8 w1 H locs hw_9 hP hD hS => ?_)
      rw [sp_X8_isThere] at hw_9
      obtain ⟨e1, e2⟩ := Prod.mk.inj hw_9
      subst e1; subst e2
      have hP : va_P g.1 classes [(x0, .inr (11, [.ref xr, .ref xt, .ref xg, .ref xb, .ref xp, .ref xu, .ref xm, .ref xd, .ref xw, .ref xh, .ref xa, .ref xs, .ref xf, .int 0, .int 0, .long 0, .long 0, .int 0])), (xf, .inl (cI g, 6, .inl (fun _ => 0))), (xr, .inr (8, [.int 6, .int 0, .ref xrs, .ref xrp])), (xrs, .inl (cI g, 6, .inl (fun _ => (-1))))] H := hP
      have hD : va_D A [(x0, .inr (11, [.ref xr, .ref xt, .ref xg, .ref xb, .ref xp, .ref xu, .ref xm, .ref xd, .ref xw, .ref xh, .ref xa, .ref xs, .ref xf, .int 0, .int 0, .long 0, .long 0, .int 0])), (xf, .inl (cI g, 6, .inl (fun _ => 0))), (xr, .inr (8, [.int 6, .int 0, .ref xrs, .ref xrp])), (xrs, .inl (cI g, 6, .inl (fun _ => (-1))))] := hD
      refine lv_if_ne (tgt := 30) hx hb dX11_tear_21 (by decide) (fun c_10 => absurd (by decide) c_10) (fun _ => ?_)
      refine lv_aload_n hx hb dX11_tear_24 rfl (lv_at hl 0 rfl) ?_
      refine lv_iconst (v := 1) hx hb dX11_tear_25 (by decide) ?_
      refine kVi (As := [.int 1]) (rest := []) (wr := [(xr, .inr (8, [.int 6, .int 0, .ref xrs, .ref xrp])), (xrs, .inl (cI g, 6, .inl (fun _ => (-1))))]) X (c_X11_found1 l g x0 xr xt xg xb xp xu xm xd xw xh xa xs xf) ok_X11_found okv_X11_found q_521 rfl hK hP hD hS hA hZ hl.1 [0, 1] [2, 3] rfl rfl rfl rfl rfl 0 11 rfl rfl rfl (Nat.le_of_ble_eq_true rfl) ⟨Nat.le_of_ble_eq_true rfl, Nat.le_of_ble_eq_true rfl⟩ dX11_tear_26 ⟨Nat.le_of_ble_eq_true rfl, Nat.le_of_ble_eq_true rfl⟩ (fun r_11 w1 H locs hw_12 hP hD hS => ?_)
      rw [sp_X11_found1] at hw_12
      obtain ⟨e1, e2⟩ := Prod.mk.inj hw_12
      subst e1; subst e2
      have hP : va_P g.1 classes [(xr, .inr (8, [.int 6, .int 0, .ref xrs, .ref xrp])), (xrs, .inl (cI g, 6, .inl (fun _ => (-1)))), (x0, .inr (11, [.ref xr, .ref xt, .ref xg, .ref xb, .ref xp, .ref xu, .ref xm, .ref xd, .ref xw, .ref xh, .ref xa, .ref xs, .ref xf, .int 0, .int 0, .long 0, .long 0, .int 1])), (xf, .inl (cI g, 6, .inl (upd (fun _ => 0) 1 1)))] H := hP
      have hD : va_D A [(xr, .inr (8, [.int 6, .int 0, .ref xrs, .ref xrp])), (xrs, .inl (cI g, 6, .inl (fun _ => (-1)))), (x0, .inr (11, [.ref xr, .ref xt, .ref xg, .ref xb, .ref xp, .ref xu, .ref xm, .ref xd, .ref xw, .ref xh, .ref xa, .ref xs, .ref xf, .int 0, .int 0, .long 0, .long 0, .int 1])), (xf, .inl (cI g, 6, .inl (upd (fun _ => 0) 1 1)))] := hD
      exact rI X hK hP hD hS dX11_tear_29 (by rfl) (Nat.le_of_ble_eq_true rfl) (Nat.le_of_ble_eq_true rfl) (by show _ = _; unfold sp_X11_tear; rw [if_neg c_3, if_neg c_5]; try rfl)
def sp_X11_copy (g : GG) (x0 : Nat) (r : Int32) (i : Int32) (t : Int32) (j : Int32) (n : Int32) (xr : Nat) (xt : Nat) (xg : Nat) (xb : Nat) (xp : Nat) (xu : Nat) (xm : Nat) (xd : Nat) (xw : Nat) (xh : Nat) (xa : Nat) (xs : Nat) (xf : Nat) (xrs : Nat) (xrp : Nat) : Int32 := if r < 0 then (-1) else (if 6 ≤ r then (-1) else (if t < 0 then (-1) else (if 6 ≤ t then (-1) else (if 0 ≤ n then (-3) else (-3)))))
set_option maxHeartbeats 4000000 in
set_option maxRecDepth 100000 in
theorem c_X11_copy (l : Launch) (g : GG) (x0 : Nat) (r : Int32) (i : Int32) (t : Int32) (j : Int32) (n : Int32) (xr : Nat) (xt : Nat) (xg : Nat) (xb : Nat) (xp : Nat) (xu : Nat) (xm : Nat) (xd : Nat) (xw : Nat) (xh : Nat) (xa : Nat) (xs : Nat) (xf : Nat) (xrs : Nat) (xrp : Nat) : MI l g yX11_copy cX11_copy 6 (some .int) 1 21 0 0 [(x0, .inr (11, [.ref xr, .ref xt, .ref xg, .ref xb, .ref xp, .ref xu, .ref xm, .ref xd, .ref xw, .ref xh, .ref xa, .ref xs, .ref xf, .int 0, .int 0, .long 0, .long 0, .int 0])), (xr, .inr (8, [.int 6, .int 0, .ref xrs, .ref xrp])), (xrs, .inl (cI g, 6, .inl (fun _ => (-1)))), (xf, .inl (cI g, 6, .inl (fun _ => 0)))] [.ref x0, .int r, .int i, .int t, .int j, .int n] (fun rr_ _ => rr_ = sp_X11_copy g x0 r i t j n xr xt xg xb xp xu xm xd xw xh xa xs xf xrs xrp) := by
  refine met_of (fun A => va_Qi _ (bW g A) A) (by decide) (Nat.le_of_ble_eq_true rfl) ?_
  intro p e s m below meth c A ls X hK hP hD hA hZ hS hl
  have hx := X.1
  have hb := X.2.1
  have hml := X.2.2.1
  have hown := X.2.2.2.1
  have hts := X.2.2.2.2.1
  have hnm := X.2.2.2.2.2.2.2
  have hl : lv_has ls 6 [(0, .ref x0), (1, .int r), (2, .int i), (3, .int t), (4, .int j), (5, .int n)] := hl
  refine lv_aload_n hx hb dX11_copy_0 rfl (lv_at hl 0 rfl) ?_
  refine va_get (D := g.1) (ci := 11) (v := .ref xr) (C := RX11) (T := TX11) (N := 18) hx hb hts fw_X11 hown hK hP 0 rfl rfl 0 (by decide) (hts _ q_458) (fun _ h9 => h9) rfl dX11_copy_1 ?_
  refine lv_iload_n hx hb dX11_copy_4 rfl (lv_at hl 1 rfl) ?_
  refine kVi (As := [.int r]) (rest := []) (wr := [(x0, .inr (11, [.ref xr, .ref xt, .ref xg, .ref xb, .ref xp, .ref xu, .ref xm, .ref xd, .ref xw, .ref xh, .ref xa, .ref xs, .ref xf, .int 0, .int 0, .long 0, .long 0, .int 0])), (xrs, .inl (cI g, 6, .inl (fun _ => (-1)))), (xf, .inl (cI g, 6, .inl (fun _ => 0)))]) X (c_X8_exists l g xr r 6 0 xrs xrp) ok_X8_exists okv_X8_exists q_517 rfl hK hP hD hS hA hZ hl.1 [1] [0, 2, 3] rfl rfl rfl rfl rfl 0 8 rfl rfl rfl (Nat.le_of_ble_eq_true rfl) ⟨Nat.le_of_ble_eq_true rfl, Nat.le_of_ble_eq_true rfl⟩ dX11_copy_5 ⟨Nat.le_of_ble_eq_true rfl, Nat.le_of_ble_eq_true rfl⟩ (fun r_1 w1 H locs hw_2 hP hD hS => ?_)
  rw [sp_X8_exists] at hw_2
  rcases Classical.em (r < 0) with c_3 | c_3
  ·
    rw [if_pos c_3] at hw_2
    obtain ⟨e1, e2⟩ := Prod.mk.inj hw_2
    subst e1; subst e2
    have hP : va_P g.1 classes [(x0, .inr (11, [.ref xr, .ref xt, .ref xg, .ref xb, .ref xp, .ref xu, .ref xm, .ref xd, .ref xw, .ref xh, .ref xa, .ref xs, .ref xf, .int 0, .int 0, .long 0, .long 0, .int 0])), (xrs, .inl (cI g, 6, .inl (fun _ => (-1)))), (xf, .inl (cI g, 6, .inl (fun _ => 0))), (xr, .inr (8, [.int 6, .int 0, .ref xrs, .ref xrp]))] H := hP
    have hD : va_D A [(x0, .inr (11, [.ref xr, .ref xt, .ref xg, .ref xb, .ref xp, .ref xu, .ref xm, .ref xd, .ref xw, .ref xh, .ref xa, .ref xs, .ref xf, .int 0, .int 0, .long 0, .long 0, .int 0])), (xrs, .inl (cI g, 6, .inl (fun _ => (-1)))), (xf, .inl (cI g, 6, .inl (fun _ => 0))), (xr, .inr (8, [.int 6, .int 0, .ref xrs, .ref xrp]))] := hD
    refine lv_if_eq (tgt := 22) hx hb dX11_copy_8 (by decide) (fun _ => ?_) (fun c_4 => absurd (by decide) c_4)
    refine lv_iconst (v := (-1)) hx hb dX11_copy_22 (by decide) ?_
    exact rI X hK hP hD hS dX11_copy_23 (by rfl) (Nat.le_of_ble_eq_true rfl) (Nat.le_of_ble_eq_true rfl) (by show _ = _; unfold sp_X11_copy; rw [if_pos c_3]; try rfl)
  ·
    rw [if_neg c_3] at hw_2
    rcases Classical.em (6 ≤ r) with c_5 | c_5
    ·
      rw [if_pos c_5] at hw_2
      obtain ⟨e1, e2⟩ := Prod.mk.inj hw_2
      subst e1; subst e2
      have hP : va_P g.1 classes [(x0, .inr (11, [.ref xr, .ref xt, .ref xg, .ref xb, .ref xp, .ref xu, .ref xm, .ref xd, .ref xw, .ref xh, .ref xa, .ref xs, .ref xf, .int 0, .int 0, .long 0, .long 0, .int 0])), (xrs, .inl (cI g, 6, .inl (fun _ => (-1)))), (xf, .inl (cI g, 6, .inl (fun _ => 0))), (xr, .inr (8, [.int 6, .int 0, .ref xrs, .ref xrp]))] H := hP
      have hD : va_D A [(x0, .inr (11, [.ref xr, .ref xt, .ref xg, .ref xb, .ref xp, .ref xu, .ref xm, .ref xd, .ref xw, .ref xh, .ref xa, .ref xs, .ref xf, .int 0, .int 0, .long 0, .long 0, .int 0])), (xrs, .inl (cI g, 6, .inl (fun _ => (-1)))), (xf, .inl (cI g, 6, .inl (fun _ => 0))), (xr, .inr (8, [.int 6, .int 0, .ref xrs, .ref xrp]))] := hD
      refine lv_if_eq (tgt := 22) hx hb dX11_copy_8 (by decide) (fun _ => ?_) (fun c_6 => absurd (by decide) c_6)
      refine lv_iconst (v := (-1)) hx hb dX11_copy_22 (by decide) ?_
      exact rI X hK hP hD hS dX11_copy_23 (by rfl) (Nat.le_of_ble_eq_true rfl) (Nat.le_of_ble_eq_true rfl) (by show _ = _; unfold sp_X11_copy; rw [if_neg c_3, if_pos c_5]; try rfl)
    ·
      rw [if_neg c_5] at hw_2
      obtain ⟨e1, e2⟩ := Prod.mk.inj hw_2
      subst e1; subst e2
      have hP : va_P g.1 classes [(x0, .inr (11, [.ref xr, .ref xt, .ref xg, .ref xb, .ref xp, .ref xu, .ref xm, .ref xd, .ref xw, .ref xh, .ref xa, .ref xs, .ref xf, .int 0, .int 0, .long 0, .long 0, .int 0])), (xrs, .inl (cI g, 6, .inl (fun _ => (-1)))), (xf, .inl (cI g, 6, .inl (fun _ => 0))), (xr, .inr (8, [.int 6, .int 0, .ref xrs, .ref xrp]))] H := hP
      have hD : va_D A [(x0, .inr (11, [.ref xr, .ref xt, .ref xg, .ref xb, .ref xp, .ref xu, .ref xm, .ref xd, .ref xw, .ref xh, .ref xa, .ref xs, .ref xf, .int 0, .int 0, .long 0, .long 0, .int 0])), (xrs, .inl (cI g, 6, .inl (fun _ => (-1)))), (xf, .inl (cI g, 6, .inl (fun _ => 0))), (xr, .inr (8, [.int 6, .int 0, .ref xrs, .ref xrp]))] := hD
      refine lv_if_eq (tgt := 22) hx hb dX11_copy_8 (by decide) (fun c_7 => absurd c_7 (by decide)) (fun _ => ?_)
      refine lv_aload_n hx hb dX11_copy_11 rfl (lv_at hl 0 rfl) ?_
      refine va_get (D := g.1) (ci := 11) (v := .ref xr) (C := RX11) (T := TX11) (N := 18) hx hb hts fw_X11 hown hK hP 0 rfl rfl 0 (by decide) (hts _ q_458) (fun _ h9 => h9) rfl dX11_copy_12 ?_
      refine lv_iload_n hx hb dX11_copy_15 rfl (lv_at hl 3 rfl) ?_
      refine kVi (As := [.int t]) (rest := []) (wr := [(x0, .inr (11, [.ref xr, .ref xt, .ref xg, .ref xb, .ref xp, .ref xu, .ref xm, .ref xd, .ref xw, .ref xh, .ref xa, .ref xs, .ref xf, .int 0, .int 0, .long 0, .long 0, .int 0])), (xrs, .inl (cI g, 6, .inl (fun _ => (-1)))), (xf, .inl (cI g, 6, .inl (fun _ => 0)))]) X (c_X8_exists l g xr t 6 0 xrs xrp) ok_X8_exists okv_X8_exists q_517 rfl hK hP hD hS hA hZ hl.1 [3] [0, 1, 2] rfl rfl rfl rfl rfl 0 8 rfl rfl rfl (Nat.le_of_ble_eq_true rfl) ⟨Nat.le_of_ble_eq_true rfl, Nat.le_of_ble_eq_true rfl⟩ dX11_copy_16 ⟨Nat.le_of_ble_eq_true rfl, Nat.le_of_ble_eq_true rfl⟩ (fun r_8 w1 H locs hw_9 hP hD hS => ?_)
      rw [sp_X8_exists] at hw_9
      rcases Classical.em (t < 0) with c_10 | c_10
      ·
        rw [if_pos c_10] at hw_9
        obtain ⟨e1, e2⟩ := Prod.mk.inj hw_9
        subst e1; subst e2
        have hP : va_P g.1 classes [(x0, .inr (11, [.ref xr, .ref xt, .ref xg, .ref xb, .ref xp, .ref xu, .ref xm, .ref xd, .ref xw, .ref xh, .ref xa, .ref xs, .ref xf, .int 0, .int 0, .long 0, .long 0, .int 0])), (xrs, .inl (cI g, 6, .inl (fun _ => (-1)))), (xf, .inl (cI g, 6, .inl (fun _ => 0))), (xr, .inr (8, [.int 6, .int 0, .ref xrs, .ref xrp]))] H := hP
        have hD : va_D A [(x0, .inr (11, [.ref xr, .ref xt, .ref xg, .ref xb, .ref xp, .ref xu, .ref xm, .ref xd, .ref xw, .ref xh, .ref xa, .ref xs, .ref xf, .int 0, .int 0, .long 0, .long 0, .int 0])), (xrs, .inl (cI g, 6, .inl (fun _ => (-1)))), (xf, .inl (cI g, 6, .inl (fun _ => 0))), (xr, .inr (8, [.int 6, .int 0, .ref xrs, .ref xrp]))] := hD
        refine lv_if_ne (tgt := 24) hx hb dX11_copy_19 (by decide) (fun c_11 => absurd (by decide) c_11) (fun _ => ?_)
        refine lv_iconst (v := (-1)) hx hb dX11_copy_22 (by decide) ?_
        exact rI X hK hP hD hS dX11_copy_23 (by rfl) (Nat.le_of_ble_eq_true rfl) (Nat.le_of_ble_eq_true rfl) (by show _ = _; unfold sp_X11_copy; rw [if_neg c_3, if_neg c_5, if_pos c_10]; try rfl)
      ·
        rw [if_neg c_10] at hw_9
        rcases Classical.em (6 ≤ t) with c_12 | c_12
        ·
          rw [if_pos c_12] at hw_9
          obtain ⟨e1, e2⟩ := Prod.mk.inj hw_9
          subst e1; subst e2
          have hP : va_P g.1 classes [(x0, .inr (11, [.ref xr, .ref xt, .ref xg, .ref xb, .ref xp, .ref xu, .ref xm, .ref xd, .ref xw, .ref xh, .ref xa, .ref xs, .ref xf, .int 0, .int 0, .long 0, .long 0, .int 0])), (xrs, .inl (cI g, 6, .inl (fun _ => (-1)))), (xf, .inl (cI g, 6, .inl (fun _ => 0))), (xr, .inr (8, [.int 6, .int 0, .ref xrs, .ref xrp]))] H := hP
          have hD : va_D A [(x0, .inr (11, [.ref xr, .ref xt, .ref xg, .ref xb, .ref xp, .ref xu, .ref xm, .ref xd, .ref xw, .ref xh, .ref xa, .ref xs, .ref xf, .int 0, .int 0, .long 0, .long 0, .int 0])), (xrs, .inl (cI g, 6, .inl (fun _ => (-1)))), (xf, .inl (cI g, 6, .inl (fun _ => 0))), (xr, .inr (8, [.int 6, .int 0, .ref xrs, .ref xrp]))] := hD
          refine lv_if_ne (tgt := 24) hx hb dX11_copy_19 (by decide) (fun c_13 => absurd (by decide) c_13) (fun _ => ?_)
          refine lv_iconst (v := (-1)) hx hb dX11_copy_22 (by decide) ?_
          exact rI X hK hP hD hS dX11_copy_23 (by rfl) (Nat.le_of_ble_eq_true rfl) (Nat.le_of_ble_eq_true rfl) (by show _ = _; unfold sp_X11_copy; rw [if_neg c_3, if_neg c_5, if_neg c_10, if_pos c_12]; try rfl)
        ·
          rw [if_neg c_12] at hw_9
          obtain ⟨e1, e2⟩ := Prod.mk.inj hw_9
          subst e1; subst e2
          have hP : va_P g.1 classes [(x0, .inr (11, [.ref xr, .ref xt, .ref xg, .ref xb, .ref xp, .ref xu, .ref xm, .ref xd, .ref xw, .ref xh, .ref xa, .ref xs, .ref xf, .int 0, .int 0, .long 0, .long 0, .int 0])), (xrs, .inl (cI g, 6, .inl (fun _ => (-1)))), (xf, .inl (cI g, 6, .inl (fun _ => 0))), (xr, .inr (8, [.int 6, .int 0, .ref xrs, .ref xrp]))] H := hP
          have hD : va_D A [(x0, .inr (11, [.ref xr, .ref xt, .ref xg, .ref xb, .ref xp, .ref xu, .ref xm, .ref xd, .ref xw, .ref xh, .ref xa, .ref xs, .ref xf, .int 0, .int 0, .long 0, .long 0, .int 0])), (xrs, .inl (cI g, 6, .inl (fun _ => (-1)))), (xf, .inl (cI g, 6, .inl (fun _ => 0))), (xr, .inr (8, [.int 6, .int 0, .ref xrs, .ref xrp]))] := hD
          refine lv_if_ne (tgt := 24) hx hb dX11_copy_19 (by decide) (fun _ => ?_) (fun c_14 => absurd c_14 (by decide))
          refine lv_iload hx hb dX11_copy_24 (lv_at hl 5 rfl) ?_
          refine lv_if_ge (tgt := 35) hx hb dX11_copy_26 (by decide) (fun c_15 => ?_) (fun c_15 => ?_)
          ·
            refine lv_aload_n hx hb dX11_copy_35 rfl (lv_at hl 0 rfl) ?_
            refine va_get (D := g.1) (ci := 11) (v := .ref xr) (C := RX11) (T := TX11) (N := 18) hx hb hts fw_X11 hown hK hP 0 rfl rfl 0 (by decide) (hts _ q_458) (fun _ h9 => h9) rfl dX11_copy_36 ?_
            refine lv_iload_n hx hb dX11_copy_39 rfl (lv_at hl 1 rfl) ?_
            refine kVi (As := [.int r]) (rest := []) (wr := [(x0, .inr (11, [.ref xr, .ref xt, .ref xg, .ref xb, .ref xp, .ref xu, .ref xm, .ref xd, .ref xw, .ref xh, .ref xa, .ref xs, .ref xf, .int 0, .int 0, .long 0, .long 0, .int 0])), (xf, .inl (cI g, 6, .inl (fun _ => 0)))]) X (c_X8_isThere l g xr r 6 0 xrs xrp c_3 c_5) ok_X8_isThere okv_X8_isThere q_539 rfl hK hP hD hS hA hZ hl.1 [3, 1] [0, 2] rfl rfl rfl rfl rfl 0 8 rfl rfl rfl (Nat.le_of_ble_eq_true rfl) ⟨Nat.le_of_ble_eq_true rfl, Nat.le_of_ble_eq_true rfl⟩ dX11_copy_40 ⟨Nat.le_of_ble_eq_true rfl, Nat.le_of_ble_eq_true rfl⟩ (fun r_16 w1 H locs hw_17 hP hD hS => ?_)
            rw [sp_X8_isThere] at hw_17
            obtain ⟨e1, e2⟩ := Prod.mk.inj hw_17
            subst e1; subst e2
            have hP : va_P g.1 classes [(x0, .inr (11, [.ref xr, .ref xt, .ref xg, .ref xb, .ref xp, .ref xu, .ref xm, .ref xd, .ref xw, .ref xh, .ref xa, .ref xs, .ref xf, .int 0, .int 0, .long 0, .long 0, .int 0])), (xf, .inl (cI g, 6, .inl (fun _ => 0))), (xr, .inr (8, [.int 6, .int 0, .ref xrs, .ref xrp])), (xrs, .inl (cI g, 6, .inl (fun _ => (-1))))] H := hP
            have hD : va_D A [(x0, .inr (11, [.ref xr, .ref xt, .ref xg, .ref xb, .ref xp, .ref xu, .ref xm, .ref xd, .ref xw, .ref xh, .ref xa, .ref xs, .ref xf, .int 0, .int 0, .long 0, .long 0, .int 0])), (xf, .inl (cI g, 6, .inl (fun _ => 0))), (xr, .inr (8, [.int 6, .int 0, .ref xrs, .ref xrp])), (xrs, .inl (cI g, 6, .inl (fun _ => (-1))))] := hD
            refine lv_if_eq (tgt := 57) hx hb dX11_copy_43 (by decide) (fun _ => ?_) (fun c_18 => absurd (by decide) c_18)
            refine lv_aload_n hx hb dX11_copy_57 rfl (lv_at hl 0 rfl) ?_
            refine lv_iconst (v := 1) hx hb dX11_copy_58 (by decide) ?_
            refine kVi (As := [.int 1]) (rest := []) (wr := [(xr, .inr (8, [.int 6, .int 0, .ref xrs, .ref xrp])), (xrs, .inl (cI g, 6, .inl (fun _ => (-1))))]) X (c_X11_found1 l g x0 xr xt xg xb xp xu xm xd xw xh xa xs xf) ok_X11_found okv_X11_found q_521 rfl hK hP hD hS hA hZ hl.1 [0, 1] [2, 3] rfl rfl rfl rfl rfl 0 11 rfl rfl rfl (Nat.le_of_ble_eq_true rfl) ⟨Nat.le_of_ble_eq_true rfl, Nat.le_of_ble_eq_true rfl⟩ dX11_copy_59 ⟨Nat.le_of_ble_eq_true rfl, Nat.le_of_ble_eq_true rfl⟩ (fun r_19 w1 H locs hw_20 hP hD hS => ?_)
            rw [sp_X11_found1] at hw_20
            obtain ⟨e1, e2⟩ := Prod.mk.inj hw_20
            subst e1; subst e2
            have hP : va_P g.1 classes [(xr, .inr (8, [.int 6, .int 0, .ref xrs, .ref xrp])), (xrs, .inl (cI g, 6, .inl (fun _ => (-1)))), (x0, .inr (11, [.ref xr, .ref xt, .ref xg, .ref xb, .ref xp, .ref xu, .ref xm, .ref xd, .ref xw, .ref xh, .ref xa, .ref xs, .ref xf, .int 0, .int 0, .long 0, .long 0, .int 1])), (xf, .inl (cI g, 6, .inl (upd (fun _ => 0) 1 1)))] H := hP
            have hD : va_D A [(xr, .inr (8, [.int 6, .int 0, .ref xrs, .ref xrp])), (xrs, .inl (cI g, 6, .inl (fun _ => (-1)))), (x0, .inr (11, [.ref xr, .ref xt, .ref xg, .ref xb, .ref xp, .ref xu, .ref xm, .ref xd, .ref xw, .ref xh, .ref xa, .ref xs, .ref xf, .int 0, .int 0, .long 0, .long 0, .int 1])), (xf, .inl (cI g, 6, .inl (upd (fun _ => 0) 1 1)))] := hD
            exact rI X hK hP hD hS dX11_copy_62 (by rfl) (Nat.le_of_ble_eq_true rfl) (Nat.le_of_ble_eq_true rfl) (by show _ = _; unfold sp_X11_copy; rw [if_neg c_3, if_neg c_5, if_neg c_10, if_neg c_12, if_pos c_15]; try rfl)
          ·
            refine lv_aload_n hx hb dX11_copy_29 rfl (lv_at hl 0 rfl) ?_
            refine lv_iconst (v := 5) hx hb dX11_copy_30 (by decide) ?_
            refine kVi (As := [.int 5]) (rest := []) (wr := [(xrs, .inl (cI g, 6, .inl (fun _ => (-1)))), (xr, .inr (8, [.int 6, .int 0, .ref xrs, .ref xrp]))]) X (c_X11_found5 l g x0 xr xt xg xb xp xu xm xd xw xh xa xs xf) ok_X11_found okv_X11_found q_521 rfl hK hP hD hS hA hZ hl.1 [0, 2] [1, 3] rfl rfl rfl rfl rfl 0 11 rfl rfl rfl (Nat.le_of_ble_eq_true rfl) ⟨Nat.le_of_ble_eq_true rfl, Nat.le_of_ble_eq_true rfl⟩ dX11_copy_31 ⟨Nat.le_of_ble_eq_true rfl, Nat.le_of_ble_eq_true rfl⟩ (fun r_21 w1 H locs hw_22 hP hD hS => ?_)
            rw [sp_X11_found5] at hw_22
            obtain ⟨e1, e2⟩ := Prod.mk.inj hw_22
            subst e1; subst e2
            have hP : va_P g.1 classes [(xrs, .inl (cI g, 6, .inl (fun _ => (-1)))), (xr, .inr (8, [.int 6, .int 0, .ref xrs, .ref xrp])), (x0, .inr (11, [.ref xr, .ref xt, .ref xg, .ref xb, .ref xp, .ref xu, .ref xm, .ref xd, .ref xw, .ref xh, .ref xa, .ref xs, .ref xf, .int 0, .int 0, .long 0, .long 0, .int 5])), (xf, .inl (cI g, 6, .inl (upd (fun _ => 0) 5 1)))] H := hP
            have hD : va_D A [(xrs, .inl (cI g, 6, .inl (fun _ => (-1)))), (xr, .inr (8, [.int 6, .int 0, .ref xrs, .ref xrp])), (x0, .inr (11, [.ref xr, .ref xt, .ref xg, .ref xb, .ref xp, .ref xu, .ref xm, .ref xd, .ref xw, .ref xh, .ref xa, .ref xs, .ref xf, .int 0, .int 0, .long 0, .long 0, .int 5])), (xf, .inl (cI g, 6, .inl (upd (fun _ => 0) 5 1)))] := hD
            exact rI X hK hP hD hS dX11_copy_34 (by rfl) (Nat.le_of_ble_eq_true rfl) (Nat.le_of_ble_eq_true rfl) (by show _ = _; unfold sp_X11_copy; rw [if_neg c_3, if_neg c_5, if_neg c_10, if_neg c_12, if_neg c_15]; try rfl)
def sp_X11_put (g : GG) (x0 : Nat) (r : Int32) (i : Int32) (v : Int32) (xr : Nat) (xt : Nat) (xg : Nat) (xb : Nat) (xp : Nat) (xu : Nat) (xm : Nat) (xd : Nat) (xw : Nat) (xh : Nat) (xa : Nat) (xs : Nat) (xf : Nat) (xts : Nat) (xtp : Nat) : Int32 := if r < 0 then (-1) else (if 4 ≤ r then (-1) else (-3))
set_option maxHeartbeats 4000000 in
set_option maxRecDepth 100000 in
theorem c_X11_put (l : Launch) (g : GG) (x0 : Nat) (r : Int32) (i : Int32) (v : Int32) (xr : Nat) (xt : Nat) (xg : Nat) (xb : Nat) (xp : Nat) (xu : Nat) (xm : Nat) (xd : Nat) (xw : Nat) (xh : Nat) (xa : Nat) (xs : Nat) (xf : Nat) (xts : Nat) (xtp : Nat) : MI l g yX11_put cX11_put 4 (some .int) 1 21 0 0 [(x0, .inr (11, [.ref xr, .ref xt, .ref xg, .ref xb, .ref xp, .ref xu, .ref xm, .ref xd, .ref xw, .ref xh, .ref xa, .ref xs, .ref xf, .int 0, .int 0, .long 0, .long 0, .int 0])), (xt, .inr (8, [.int 4, .int 32, .ref xts, .ref xtp])), (xts, .inl (cI g, 6, .inl (fun _ => (-1)))), (xf, .inl (cI g, 6, .inl (fun _ => 0)))] [.ref x0, .int r, .int i, .int v] (fun rr_ _ => rr_ = sp_X11_put g x0 r i v xr xt xg xb xp xu xm xd xw xh xa xs xf xts xtp) := by
  refine met_of (fun A => va_Qi _ (bW g A) A) (by decide) (Nat.le_of_ble_eq_true rfl) ?_
  intro p e s m below meth c A ls X hK hP hD hA hZ hS hl
  have hx := X.1
  have hb := X.2.1
  have hml := X.2.2.1
  have hown := X.2.2.2.1
  have hts := X.2.2.2.2.1
  have hnm := X.2.2.2.2.2.2.2
  have hl : lv_has ls 4 [(0, .ref x0), (1, .int r), (2, .int i), (3, .int v)] := hl
  refine lv_aload_n hx hb dX11_put_0 rfl (lv_at hl 0 rfl) ?_
  refine va_get (D := g.1) (ci := 11) (v := .ref xt) (C := RX11) (T := TX11) (N := 18) hx hb hts fw_X11 hown hK hP 0 rfl rfl 1 (by decide) (hts _ q_459) (fun _ h9 => h9) rfl dX11_put_1 ?_
  refine lv_iload_n hx hb dX11_put_4 rfl (lv_at hl 1 rfl) ?_
  refine kVi (As := [.int r]) (rest := []) (wr := [(x0, .inr (11, [.ref xr, .ref xt, .ref xg, .ref xb, .ref xp, .ref xu, .ref xm, .ref xd, .ref xw, .ref xh, .ref xa, .ref xs, .ref xf, .int 0, .int 0, .long 0, .long 0, .int 0])), (xts, .inl (cI g, 6, .inl (fun _ => (-1)))), (xf, .inl (cI g, 6, .inl (fun _ => 0)))]) X (c_X8_exists l g xt r 4 32 xts xtp) ok_X8_exists okv_X8_exists q_517 rfl hK hP hD hS hA hZ hl.1 [1] [0, 2, 3] rfl rfl rfl rfl rfl 0 8 rfl rfl rfl (Nat.le_of_ble_eq_true rfl) ⟨Nat.le_of_ble_eq_true rfl, Nat.le_of_ble_eq_true rfl⟩ dX11_put_5 ⟨Nat.le_of_ble_eq_true rfl, Nat.le_of_ble_eq_true rfl⟩ (fun r_1 w1 H locs hw_2 hP hD hS => ?_)
  rw [sp_X8_exists] at hw_2
  rcases Classical.em (r < 0) with c_3 | c_3
  ·
    rw [if_pos c_3] at hw_2
    obtain ⟨e1, e2⟩ := Prod.mk.inj hw_2
    subst e1; subst e2
    have hP : va_P g.1 classes [(x0, .inr (11, [.ref xr, .ref xt, .ref xg, .ref xb, .ref xp, .ref xu, .ref xm, .ref xd, .ref xw, .ref xh, .ref xa, .ref xs, .ref xf, .int 0, .int 0, .long 0, .long 0, .int 0])), (xts, .inl (cI g, 6, .inl (fun _ => (-1)))), (xf, .inl (cI g, 6, .inl (fun _ => 0))), (xt, .inr (8, [.int 4, .int 32, .ref xts, .ref xtp]))] H := hP
    have hD : va_D A [(x0, .inr (11, [.ref xr, .ref xt, .ref xg, .ref xb, .ref xp, .ref xu, .ref xm, .ref xd, .ref xw, .ref xh, .ref xa, .ref xs, .ref xf, .int 0, .int 0, .long 0, .long 0, .int 0])), (xts, .inl (cI g, 6, .inl (fun _ => (-1)))), (xf, .inl (cI g, 6, .inl (fun _ => 0))), (xt, .inr (8, [.int 4, .int 32, .ref xts, .ref xtp]))] := hD
    refine lv_if_ne (tgt := 13) hx hb dX11_put_8 (by decide) (fun c_4 => absurd (by decide) c_4) (fun _ => ?_)
    refine lv_iconst (v := (-1)) hx hb dX11_put_11 (by decide) ?_
    exact rI X hK hP hD hS dX11_put_12 (by rfl) (Nat.le_of_ble_eq_true rfl) (Nat.le_of_ble_eq_true rfl) (by show _ = _; unfold sp_X11_put; rw [if_pos c_3]; try rfl)
  ·
    rw [if_neg c_3] at hw_2
    rcases Classical.em (4 ≤ r) with c_5 | c_5
    ·
      rw [if_pos c_5] at hw_2
      obtain ⟨e1, e2⟩ := Prod.mk.inj hw_2
      subst e1; subst e2
      have hP : va_P g.1 classes [(x0, .inr (11, [.ref xr, .ref xt, .ref xg, .ref xb, .ref xp, .ref xu, .ref xm, .ref xd, .ref xw, .ref xh, .ref xa, .ref xs, .ref xf, .int 0, .int 0, .long 0, .long 0, .int 0])), (xts, .inl (cI g, 6, .inl (fun _ => (-1)))), (xf, .inl (cI g, 6, .inl (fun _ => 0))), (xt, .inr (8, [.int 4, .int 32, .ref xts, .ref xtp]))] H := hP
      have hD : va_D A [(x0, .inr (11, [.ref xr, .ref xt, .ref xg, .ref xb, .ref xp, .ref xu, .ref xm, .ref xd, .ref xw, .ref xh, .ref xa, .ref xs, .ref xf, .int 0, .int 0, .long 0, .long 0, .int 0])), (xts, .inl (cI g, 6, .inl (fun _ => (-1)))), (xf, .inl (cI g, 6, .inl (fun _ => 0))), (xt, .inr (8, [.int 4, .int 32, .ref xts, .ref xtp]))] := hD
      refine lv_if_ne (tgt := 13) hx hb dX11_put_8 (by decide) (fun c_6 => absurd (by decide) c_6) (fun _ => ?_)
      refine lv_iconst (v := (-1)) hx hb dX11_put_11 (by decide) ?_
      exact rI X hK hP hD hS dX11_put_12 (by rfl) (Nat.le_of_ble_eq_true rfl) (Nat.le_of_ble_eq_true rfl) (by show _ = _; unfold sp_X11_put; rw [if_neg c_3, if_pos c_5]; try rfl)
    ·
      rw [if_neg c_5] at hw_2
      obtain ⟨e1, e2⟩ := Prod.mk.inj hw_2
      subst e1; subst e2
      have hP : va_P g.1 classes [(x0, .inr (11, [.ref xr, .ref xt, .ref xg, .ref xb, .ref xp, .ref xu, .ref xm, .ref xd, .ref xw, .ref xh, .ref xa, .ref xs, .ref xf, .int 0, .int 0, .long 0, .long 0, .int 0])), (xts, .inl (cI g, 6, .inl (fun _ => (-1)))), (xf, .inl (cI g, 6, .inl (fun _ => 0))), (xt, .inr (8, [.int 4, .int 32, .ref xts, .ref xtp]))] H := hP
      have hD : va_D A [(x0, .inr (11, [.ref xr, .ref xt, .ref xg, .ref xb, .ref xp, .ref xu, .ref xm, .ref xd, .ref xw, .ref xh, .ref xa, .ref xs, .ref xf, .int 0, .int 0, .long 0, .long 0, .int 0])), (xts, .inl (cI g, 6, .inl (fun _ => (-1)))), (xf, .inl (cI g, 6, .inl (fun _ => 0))), (xt, .inr (8, [.int 4, .int 32, .ref xts, .ref xtp]))] := hD
      refine lv_if_ne (tgt := 13) hx hb dX11_put_8 (by decide) (fun _ => ?_) (fun c_7 => absurd c_7 (by decide))
      refine lv_aload_n hx hb dX11_put_13 rfl (lv_at hl 0 rfl) ?_
      refine va_get (D := g.1) (ci := 11) (v := .ref xt) (C := RX11) (T := TX11) (N := 18) hx hb hts fw_X11 hown hK hP 0 rfl rfl 1 (by decide) (hts _ q_459) (fun _ h9 => h9) rfl dX11_put_14 ?_
      refine lv_iload_n hx hb dX11_put_17 rfl (lv_at hl 1 rfl) ?_
      refine kVi (As := [.int r]) (rest := []) (wr := [(x0, .inr (11, [.ref xr, .ref xt, .ref xg, .ref xb, .ref xp, .ref xu, .ref xm, .ref xd, .ref xw, .ref xh, .ref xa, .ref xs, .ref xf, .int 0, .int 0, .long 0, .long 0, .int 0])), (xf, .inl (cI g, 6, .inl (fun _ => 0)))]) X (c_X8_isThere l g xt r 4 32 xts xtp c_3 (by simp only [i32lt, i32le, i32eq, Int32.reduceToInt] at c_3 c_5 ⊢; omega)) ok_X8_isThere okv_X8_isThere q_539 rfl hK hP hD hS hA hZ hl.1 [3, 1] [0, 2] rfl rfl rfl rfl rfl 0 8 rfl rfl rfl (Nat.le_of_ble_eq_true rfl) ⟨Nat.le_of_ble_eq_true rfl, Nat.le_of_ble_eq_true rfl⟩ dX11_put_18 ⟨Nat.le_of_ble_eq_true rfl, Nat.le_of_ble_eq_true rfl⟩ (fun r_8 w1 H locs hw_9 hP hD hS => ?_)
      rw [sp_X8_isThere] at hw_9
      obtain ⟨e1, e2⟩ := Prod.mk.inj hw_9
      subst e1; subst e2
      have hP : va_P g.1 classes [(x0, .inr (11, [.ref xr, .ref xt, .ref xg, .ref xb, .ref xp, .ref xu, .ref xm, .ref xd, .ref xw, .ref xh, .ref xa, .ref xs, .ref xf, .int 0, .int 0, .long 0, .long 0, .int 0])), (xf, .inl (cI g, 6, .inl (fun _ => 0))), (xt, .inr (8, [.int 4, .int 32, .ref xts, .ref xtp])), (xts, .inl (cI g, 6, .inl (fun _ => (-1))))] H := hP
      have hD : va_D A [(x0, .inr (11, [.ref xr, .ref xt, .ref xg, .ref xb, .ref xp, .ref xu, .ref xm, .ref xd, .ref xw, .ref xh, .ref xa, .ref xs, .ref xf, .int 0, .int 0, .long 0, .long 0, .int 0])), (xf, .inl (cI g, 6, .inl (fun _ => 0))), (xt, .inr (8, [.int 4, .int 32, .ref xts, .ref xtp])), (xts, .inl (cI g, 6, .inl (fun _ => (-1))))] := hD
      refine lv_if_ne (tgt := 30) hx hb dX11_put_21 (by decide) (fun c_10 => absurd (by decide) c_10) (fun _ => ?_)
      refine lv_aload_n hx hb dX11_put_24 rfl (lv_at hl 0 rfl) ?_
      refine lv_iconst (v := 1) hx hb dX11_put_25 (by decide) ?_
      refine kVi (As := [.int 1]) (rest := []) (wr := [(xt, .inr (8, [.int 4, .int 32, .ref xts, .ref xtp])), (xts, .inl (cI g, 6, .inl (fun _ => (-1))))]) X (c_X11_found1 l g x0 xr xt xg xb xp xu xm xd xw xh xa xs xf) ok_X11_found okv_X11_found q_521 rfl hK hP hD hS hA hZ hl.1 [0, 1] [2, 3] rfl rfl rfl rfl rfl 0 11 rfl rfl rfl (Nat.le_of_ble_eq_true rfl) ⟨Nat.le_of_ble_eq_true rfl, Nat.le_of_ble_eq_true rfl⟩ dX11_put_26 ⟨Nat.le_of_ble_eq_true rfl, Nat.le_of_ble_eq_true rfl⟩ (fun r_11 w1 H locs hw_12 hP hD hS => ?_)
      rw [sp_X11_found1] at hw_12
      obtain ⟨e1, e2⟩ := Prod.mk.inj hw_12
      subst e1; subst e2
      have hP : va_P g.1 classes [(xt, .inr (8, [.int 4, .int 32, .ref xts, .ref xtp])), (xts, .inl (cI g, 6, .inl (fun _ => (-1)))), (x0, .inr (11, [.ref xr, .ref xt, .ref xg, .ref xb, .ref xp, .ref xu, .ref xm, .ref xd, .ref xw, .ref xh, .ref xa, .ref xs, .ref xf, .int 0, .int 0, .long 0, .long 0, .int 1])), (xf, .inl (cI g, 6, .inl (upd (fun _ => 0) 1 1)))] H := hP
      have hD : va_D A [(xt, .inr (8, [.int 4, .int 32, .ref xts, .ref xtp])), (xts, .inl (cI g, 6, .inl (fun _ => (-1)))), (x0, .inr (11, [.ref xr, .ref xt, .ref xg, .ref xb, .ref xp, .ref xu, .ref xm, .ref xd, .ref xw, .ref xh, .ref xa, .ref xs, .ref xf, .int 0, .int 0, .long 0, .long 0, .int 1])), (xf, .inl (cI g, 6, .inl (upd (fun _ => 0) 1 1)))] := hD
      exact rI X hK hP hD hS dX11_put_29 (by rfl) (Nat.le_of_ble_eq_true rfl) (Nat.le_of_ble_eq_true rfl) (by show _ = _; unfold sp_X11_put; rw [if_neg c_3, if_neg c_5]; try rfl)
def sp_X11_fault (g : GG) (x0 : Nat) (r : Int32) (xr : Nat) (xt : Nat) (xg : Nat) (xb : Nat) (xp : Nat) (xu : Nat) (xm : Nat) (xd : Nat) (xw : Nat) (xh : Nat) (xa : Nat) (xs : Nat) (xf : Nat) (xts : Nat) (xtp : Nat) : Int32 := if r < 0 then (-1) else (if 4 ≤ r then (-1) else (-3))
set_option maxHeartbeats 4000000 in
set_option maxRecDepth 100000 in
theorem c_X11_fault (l : Launch) (g : GG) (x0 : Nat) (r : Int32) (xr : Nat) (xt : Nat) (xg : Nat) (xb : Nat) (xp : Nat) (xu : Nat) (xm : Nat) (xd : Nat) (xw : Nat) (xh : Nat) (xa : Nat) (xs : Nat) (xf : Nat) (xts : Nat) (xtp : Nat) : MI l g yX11_fault cX11_fault 2 (some .int) 1 21 0 0 [(x0, .inr (11, [.ref xr, .ref xt, .ref xg, .ref xb, .ref xp, .ref xu, .ref xm, .ref xd, .ref xw, .ref xh, .ref xa, .ref xs, .ref xf, .int 0, .int 0, .long 0, .long 0, .int 0])), (xt, .inr (8, [.int 4, .int 32, .ref xts, .ref xtp])), (xts, .inl (cI g, 6, .inl (fun _ => (-1)))), (xf, .inl (cI g, 6, .inl (fun _ => 0)))] [.ref x0, .int r] (fun rr_ _ => rr_ = sp_X11_fault g x0 r xr xt xg xb xp xu xm xd xw xh xa xs xf xts xtp) := by
  refine met_of (fun A => va_Qi _ (bW g A) A) (by decide) (Nat.le_of_ble_eq_true rfl) ?_
  intro p e s m below meth c A ls X hK hP hD hA hZ hS hl
  have hx := X.1
  have hb := X.2.1
  have hml := X.2.2.1
  have hown := X.2.2.2.1
  have hts := X.2.2.2.2.1
  have hnm := X.2.2.2.2.2.2.2
  have hl : lv_has ls 2 [(0, .ref x0), (1, .int r)] := hl
  refine lv_aload_n hx hb dX11_fault_0 rfl (lv_at hl 0 rfl) ?_
  refine va_get (D := g.1) (ci := 11) (v := .ref xt) (C := RX11) (T := TX11) (N := 18) hx hb hts fw_X11 hown hK hP 0 rfl rfl 1 (by decide) (hts _ q_459) (fun _ h9 => h9) rfl dX11_fault_1 ?_
  refine lv_iload_n hx hb dX11_fault_4 rfl (lv_at hl 1 rfl) ?_
  refine kVi (As := [.int r]) (rest := []) (wr := [(x0, .inr (11, [.ref xr, .ref xt, .ref xg, .ref xb, .ref xp, .ref xu, .ref xm, .ref xd, .ref xw, .ref xh, .ref xa, .ref xs, .ref xf, .int 0, .int 0, .long 0, .long 0, .int 0])), (xts, .inl (cI g, 6, .inl (fun _ => (-1)))), (xf, .inl (cI g, 6, .inl (fun _ => 0)))]) X (c_X8_exists l g xt r 4 32 xts xtp) ok_X8_exists okv_X8_exists q_517 rfl hK hP hD hS hA hZ hl.1 [1] [0, 2, 3] rfl rfl rfl rfl rfl 0 8 rfl rfl rfl (Nat.le_of_ble_eq_true rfl) ⟨Nat.le_of_ble_eq_true rfl, Nat.le_of_ble_eq_true rfl⟩ dX11_fault_5 ⟨Nat.le_of_ble_eq_true rfl, Nat.le_of_ble_eq_true rfl⟩ (fun r_1 w1 H locs hw_2 hP hD hS => ?_)
  rw [sp_X8_exists] at hw_2
  rcases Classical.em (r < 0) with c_3 | c_3
  ·
    rw [if_pos c_3] at hw_2
    obtain ⟨e1, e2⟩ := Prod.mk.inj hw_2
    subst e1; subst e2
    have hP : va_P g.1 classes [(x0, .inr (11, [.ref xr, .ref xt, .ref xg, .ref xb, .ref xp, .ref xu, .ref xm, .ref xd, .ref xw, .ref xh, .ref xa, .ref xs, .ref xf, .int 0, .int 0, .long 0, .long 0, .int 0])), (xts, .inl (cI g, 6, .inl (fun _ => (-1)))), (xf, .inl (cI g, 6, .inl (fun _ => 0))), (xt, .inr (8, [.int 4, .int 32, .ref xts, .ref xtp]))] H := hP
    have hD : va_D A [(x0, .inr (11, [.ref xr, .ref xt, .ref xg, .ref xb, .ref xp, .ref xu, .ref xm, .ref xd, .ref xw, .ref xh, .ref xa, .ref xs, .ref xf, .int 0, .int 0, .long 0, .long 0, .int 0])), (xts, .inl (cI g, 6, .inl (fun _ => (-1)))), (xf, .inl (cI g, 6, .inl (fun _ => 0))), (xt, .inr (8, [.int 4, .int 32, .ref xts, .ref xtp]))] := hD
    refine lv_if_ne (tgt := 13) hx hb dX11_fault_8 (by decide) (fun c_4 => absurd (by decide) c_4) (fun _ => ?_)
    refine lv_iconst (v := (-1)) hx hb dX11_fault_11 (by decide) ?_
    exact rI X hK hP hD hS dX11_fault_12 (by rfl) (Nat.le_of_ble_eq_true rfl) (Nat.le_of_ble_eq_true rfl) (by show _ = _; unfold sp_X11_fault; rw [if_pos c_3]; try rfl)
  ·
    rw [if_neg c_3] at hw_2
    rcases Classical.em (4 ≤ r) with c_5 | c_5
    ·
      rw [if_pos c_5] at hw_2
      obtain ⟨e1, e2⟩ := Prod.mk.inj hw_2
      subst e1; subst e2
      have hP : va_P g.1 classes [(x0, .inr (11, [.ref xr, .ref xt, .ref xg, .ref xb, .ref xp, .ref xu, .ref xm, .ref xd, .ref xw, .ref xh, .ref xa, .ref xs, .ref xf, .int 0, .int 0, .long 0, .long 0, .int 0])), (xts, .inl (cI g, 6, .inl (fun _ => (-1)))), (xf, .inl (cI g, 6, .inl (fun _ => 0))), (xt, .inr (8, [.int 4, .int 32, .ref xts, .ref xtp]))] H := hP
      have hD : va_D A [(x0, .inr (11, [.ref xr, .ref xt, .ref xg, .ref xb, .ref xp, .ref xu, .ref xm, .ref xd, .ref xw, .ref xh, .ref xa, .ref xs, .ref xf, .int 0, .int 0, .long 0, .long 0, .int 0])), (xts, .inl (cI g, 6, .inl (fun _ => (-1)))), (xf, .inl (cI g, 6, .inl (fun _ => 0))), (xt, .inr (8, [.int 4, .int 32, .ref xts, .ref xtp]))] := hD
      refine lv_if_ne (tgt := 13) hx hb dX11_fault_8 (by decide) (fun c_6 => absurd (by decide) c_6) (fun _ => ?_)
      refine lv_iconst (v := (-1)) hx hb dX11_fault_11 (by decide) ?_
      exact rI X hK hP hD hS dX11_fault_12 (by rfl) (Nat.le_of_ble_eq_true rfl) (Nat.le_of_ble_eq_true rfl) (by show _ = _; unfold sp_X11_fault; rw [if_neg c_3, if_pos c_5]; try rfl)
    ·
      rw [if_neg c_5] at hw_2
      obtain ⟨e1, e2⟩ := Prod.mk.inj hw_2
      subst e1; subst e2
      have hP : va_P g.1 classes [(x0, .inr (11, [.ref xr, .ref xt, .ref xg, .ref xb, .ref xp, .ref xu, .ref xm, .ref xd, .ref xw, .ref xh, .ref xa, .ref xs, .ref xf, .int 0, .int 0, .long 0, .long 0, .int 0])), (xts, .inl (cI g, 6, .inl (fun _ => (-1)))), (xf, .inl (cI g, 6, .inl (fun _ => 0))), (xt, .inr (8, [.int 4, .int 32, .ref xts, .ref xtp]))] H := hP
      have hD : va_D A [(x0, .inr (11, [.ref xr, .ref xt, .ref xg, .ref xb, .ref xp, .ref xu, .ref xm, .ref xd, .ref xw, .ref xh, .ref xa, .ref xs, .ref xf, .int 0, .int 0, .long 0, .long 0, .int 0])), (xts, .inl (cI g, 6, .inl (fun _ => (-1)))), (xf, .inl (cI g, 6, .inl (fun _ => 0))), (xt, .inr (8, [.int 4, .int 32, .ref xts, .ref xtp]))] := hD
      refine lv_if_ne (tgt := 13) hx hb dX11_fault_8 (by decide) (fun _ => ?_) (fun c_7 => absurd c_7 (by decide))
      refine lv_aload_n hx hb dX11_fault_13 rfl (lv_at hl 0 rfl) ?_
      refine va_get (D := g.1) (ci := 11) (v := .ref xt) (C := RX11) (T := TX11) (N := 18) hx hb hts fw_X11 hown hK hP 0 rfl rfl 1 (by decide) (hts _ q_459) (fun _ h9 => h9) rfl dX11_fault_14 ?_
      refine lv_iload_n hx hb dX11_fault_17 rfl (lv_at hl 1 rfl) ?_
      refine kVi (As := [.int r]) (rest := []) (wr := [(x0, .inr (11, [.ref xr, .ref xt, .ref xg, .ref xb, .ref xp, .ref xu, .ref xm, .ref xd, .ref xw, .ref xh, .ref xa, .ref xs, .ref xf, .int 0, .int 0, .long 0, .long 0, .int 0])), (xf, .inl (cI g, 6, .inl (fun _ => 0)))]) X (c_X8_isThere l g xt r 4 32 xts xtp c_3 (by simp only [i32lt, i32le, i32eq, Int32.reduceToInt] at c_3 c_5 ⊢; omega)) ok_X8_isThere okv_X8_isThere q_539 rfl hK hP hD hS hA hZ hl.1 [3, 1] [0, 2] rfl rfl rfl rfl rfl 0 8 rfl rfl rfl (Nat.le_of_ble_eq_true rfl) ⟨Nat.le_of_ble_eq_true rfl, Nat.le_of_ble_eq_true rfl⟩ dX11_fault_18 ⟨Nat.le_of_ble_eq_true rfl, Nat.le_of_ble_eq_true rfl⟩ (fun r_8 w1 H locs hw_9 hP hD hS => ?_)
      rw [sp_X8_isThere] at hw_9
      obtain ⟨e1, e2⟩ := Prod.mk.inj hw_9
      subst e1; subst e2
      have hP : va_P g.1 classes [(x0, .inr (11, [.ref xr, .ref xt, .ref xg, .ref xb, .ref xp, .ref xu, .ref xm, .ref xd, .ref xw, .ref xh, .ref xa, .ref xs, .ref xf, .int 0, .int 0, .long 0, .long 0, .int 0])), (xf, .inl (cI g, 6, .inl (fun _ => 0))), (xt, .inr (8, [.int 4, .int 32, .ref xts, .ref xtp])), (xts, .inl (cI g, 6, .inl (fun _ => (-1))))] H := hP
      have hD : va_D A [(x0, .inr (11, [.ref xr, .ref xt, .ref xg, .ref xb, .ref xp, .ref xu, .ref xm, .ref xd, .ref xw, .ref xh, .ref xa, .ref xs, .ref xf, .int 0, .int 0, .long 0, .long 0, .int 0])), (xf, .inl (cI g, 6, .inl (fun _ => 0))), (xt, .inr (8, [.int 4, .int 32, .ref xts, .ref xtp])), (xts, .inl (cI g, 6, .inl (fun _ => (-1))))] := hD
      refine lv_if_ne (tgt := 30) hx hb dX11_fault_21 (by decide) (fun c_10 => absurd (by decide) c_10) (fun _ => ?_)
      refine lv_aload_n hx hb dX11_fault_24 rfl (lv_at hl 0 rfl) ?_
      refine lv_iconst (v := 1) hx hb dX11_fault_25 (by decide) ?_
      refine kVi (As := [.int 1]) (rest := []) (wr := [(xt, .inr (8, [.int 4, .int 32, .ref xts, .ref xtp])), (xts, .inl (cI g, 6, .inl (fun _ => (-1))))]) X (c_X11_found1 l g x0 xr xt xg xb xp xu xm xd xw xh xa xs xf) ok_X11_found okv_X11_found q_521 rfl hK hP hD hS hA hZ hl.1 [0, 1] [2, 3] rfl rfl rfl rfl rfl 0 11 rfl rfl rfl (Nat.le_of_ble_eq_true rfl) ⟨Nat.le_of_ble_eq_true rfl, Nat.le_of_ble_eq_true rfl⟩ dX11_fault_26 ⟨Nat.le_of_ble_eq_true rfl, Nat.le_of_ble_eq_true rfl⟩ (fun r_11 w1 H locs hw_12 hP hD hS => ?_)
      rw [sp_X11_found1] at hw_12
      obtain ⟨e1, e2⟩ := Prod.mk.inj hw_12
      subst e1; subst e2
      have hP : va_P g.1 classes [(xt, .inr (8, [.int 4, .int 32, .ref xts, .ref xtp])), (xts, .inl (cI g, 6, .inl (fun _ => (-1)))), (x0, .inr (11, [.ref xr, .ref xt, .ref xg, .ref xb, .ref xp, .ref xu, .ref xm, .ref xd, .ref xw, .ref xh, .ref xa, .ref xs, .ref xf, .int 0, .int 0, .long 0, .long 0, .int 1])), (xf, .inl (cI g, 6, .inl (upd (fun _ => 0) 1 1)))] H := hP
      have hD : va_D A [(xt, .inr (8, [.int 4, .int 32, .ref xts, .ref xtp])), (xts, .inl (cI g, 6, .inl (fun _ => (-1)))), (x0, .inr (11, [.ref xr, .ref xt, .ref xg, .ref xb, .ref xp, .ref xu, .ref xm, .ref xd, .ref xw, .ref xh, .ref xa, .ref xs, .ref xf, .int 0, .int 0, .long 0, .long 0, .int 1])), (xf, .inl (cI g, 6, .inl (upd (fun _ => 0) 1 1)))] := hD
      exact rI X hK hP hD hS dX11_fault_29 (by rfl) (Nat.le_of_ble_eq_true rfl) (Nat.le_of_ble_eq_true rfl) (by show _ = _; unfold sp_X11_fault; rw [if_neg c_3, if_neg c_5]; try rfl)
def sp_X11_later (g : GG) (x0 : Nat) (n : Int32) (xr : Nat) (xt : Nat) (xg : Nat) (xb : Nat) (xp : Nat) (xu : Nat) (xm : Nat) (xd : Nat) (xw : Nat) (xh : Nat) (xa : Nat) (xs : Nat) (xf : Nat) : Int32 := if n < 0 then (-1) else (if n ≤ 999 then (0 + n) else (-1))
set_option maxHeartbeats 4000000 in
set_option maxRecDepth 100000 in
theorem c_X11_later (l : Launch) (g : GG) (x0 : Nat) (n : Int32) (xr : Nat) (xt : Nat) (xg : Nat) (xb : Nat) (xp : Nat) (xu : Nat) (xm : Nat) (xd : Nat) (xw : Nat) (xh : Nat) (xa : Nat) (xs : Nat) (xf : Nat) : MI l g yX11_later cX11_later 2 (some .int) 0 0 0 0 [(x0, .inr (11, [.ref xr, .ref xt, .ref xg, .ref xb, .ref xp, .ref xu, .ref xm, .ref xd, .ref xw, .ref xh, .ref xa, .ref xs, .ref xf, .int 0, .int 0, .long 0, .long 0, .int 0]))] [.ref x0, .int n] (fun rr_ _ => rr_ = sp_X11_later g x0 n xr xt xg xb xp xu xm xd xw xh xa xs xf) := by
  refine met_of (fun A => va_Qi _ (bW g A) A) (by decide) (Nat.le_of_ble_eq_true rfl) ?_
  intro p e s m below meth c A ls X hK hP hD hA hZ hS hl
  have hx := X.1
  have hb := X.2.1
  have hml := X.2.2.1
  have hown := X.2.2.2.1
  have hts := X.2.2.2.2.1
  have hnm := X.2.2.2.2.2.2.2
  have hl : lv_has ls 2 [(0, .ref x0), (1, .int n)] := hl
  refine lv_iload_n hx hb dX11_later_0 rfl (lv_at hl 1 rfl) ?_
  refine lv_if_lt (tgt := 16) hx hb dX11_later_1 (by decide) (fun c_1 => ?_) (fun c_1 => ?_)
  ·
    refine lv_iconst (v := (-1)) hx hb dX11_later_16 (by decide) ?_
    exact rI X hK hP hD hS dX11_later_17 (by rfl) (Nat.le_of_ble_eq_true rfl) (Nat.le_of_ble_eq_true rfl) (by show _ = _; unfold sp_X11_later; rw [if_pos c_1]; try rfl)
  ·
    refine lv_iload_n hx hb dX11_later_4 rfl (lv_at hl 1 rfl) ?_
    refine lv_sipush (v := 999) hx hb dX11_later_5 (by decide) ?_
    refine lv_aload_n hx hb dX11_later_8 rfl (lv_at hl 0 rfl) ?_
    refine va_get (D := g.1) (ci := 11) (v := .int 0) (C := RX11) (T := TX11) (N := 18) hx hb hts fw_X11 hown hK hP 0 rfl rfl 13 (by decide) (hts _ q_471) (fun _ h9 => h9) rfl dX11_later_9 ?_
    refine lv_isub hx hb dX11_later_12 ?_
    refine lv_topk (v := 999) (by decide) ?_
    refine lv_icmp_le (tgt := 18) hx hb dX11_later_13 (by decide) (fun c_2 => ?_) (fun c_2 => ?_)
    ·
      refine lv_aload_n hx hb dX11_later_18 rfl (lv_at hl 0 rfl) ?_
      refine lv_dup hx hb dX11_later_19 rfl ?_
      refine va_get (D := g.1) (ci := 11) (v := .int 0) (C := RX11) (T := TX11) (N := 18) hx hb hts fw_X11 hown hK hP 0 rfl rfl 13 (by decide) (hts _ q_471) (fun _ h9 => h9) rfl dX11_later_20 ?_
      refine lv_iload_n hx hb dX11_later_23 rfl (lv_at hl 1 rfl) ?_
      refine lv_iadd hx hb dX11_later_24 ?_
      refine va_put (D := g.1) (ci := 11) (v := .int (0 + n)) (ty := .int) (C := RX11) (T := TX11) (N := 18) hx hb hts fw_X11 tyX11 tyX11_ok nmX11 hown hK hP hD hS 0 rfl rfl 13 (by decide) (hts _ q_471) (fun _ h9 => h9) rfl (by decide +kernel) rfl rfl (Nat.le_of_ble_eq_true rfl) dX11_later_25 (fun H locs hP hD hS => ?_)
      have hP : va_P g.1 classes [(x0, .inr (11, [.ref xr, .ref xt, .ref xg, .ref xb, .ref xp, .ref xu, .ref xm, .ref xd, .ref xw, .ref xh, .ref xa, .ref xs, .ref xf, .int (0 + n), .int 0, .long 0, .long 0, .int 0]))] H := hP
      have hD : va_D A [(x0, .inr (11, [.ref xr, .ref xt, .ref xg, .ref xb, .ref xp, .ref xu, .ref xm, .ref xd, .ref xw, .ref xh, .ref xa, .ref xs, .ref xf, .int (0 + n), .int 0, .long 0, .long 0, .int 0]))] := hD
      refine lv_aload_n hx hb dX11_later_28 rfl (lv_at hl 0 rfl) ?_
      refine va_get (D := g.1) (ci := 11) (v := .int (0 + n)) (C := RX11) (T := TX11) (N := 18) hx hb hts fw_X11 hown hK hP 0 rfl rfl 13 (by decide) (hts _ q_471) (fun _ h9 => h9) rfl dX11_later_29 ?_
      exact rI X hK hP hD hS dX11_later_32 (by rfl) (Nat.le_of_ble_eq_true rfl) (Nat.le_of_ble_eq_true rfl) (by show _ = _; unfold sp_X11_later; rw [if_neg c_1, if_pos c_2]; try rfl)
    ·
      refine lv_iconst (v := (-1)) hx hb dX11_later_16 (by decide) ?_
      exact rI X hK hP hD hS dX11_later_17 (by rfl) (Nat.le_of_ble_eq_true rfl) (Nat.le_of_ble_eq_true rfl) (by show _ = _; unfold sp_X11_later; rw [if_neg c_1, if_neg c_2]; try rfl)
def sp_X11_cell (g : GG) (x0 : Nat) (c0 : Int32) (s0 : Int32) (e0 : Int32) (xr : Nat) (xt : Nat) (xg : Nat) (xb : Nat) (xp : Nat) (xu : Nat) (xm : Nat) (xd : Nat) (xw : Nat) (xh : Nat) (xa : Nat) (xs : Nat) (xf : Nat) (xgs : Nat) (xgh : Nat) (xba0 : Nat) (xba1 : Nat) (xba2 : Nat) (xba3 : Nat) (xba4 : Nat) (xba5 : Nat) (xba6 : Nat) (xba7 : Nat) (xba8 : Nat) (xba9 : Nat) (xba10 : Nat) (xba11 : Nat) : Int32 := if c0 < 0 then (-1) else (if 64 ≤ c0 then (-1) else (if s0 < 0 then (-1) else (if 4 < s0 then (-1) else (if e0 < 0 then (-1) else (if e0 ≤ 99 then (if s0 = 4 then 1 else 1) else (-1))))))
set_option maxHeartbeats 4000000 in
set_option maxRecDepth 100000 in
theorem c_X11_cell (l : Launch) (g : GG) (x0 : Nat) (c0 : Int32) (s0 : Int32) (e0 : Int32) (xr : Nat) (xt : Nat) (xg : Nat) (xb : Nat) (xp : Nat) (xu : Nat) (xm : Nat) (xd : Nat) (xw : Nat) (xh : Nat) (xa : Nat) (xs : Nat) (xf : Nat) (xgs : Nat) (xgh : Nat) (xba0 : Nat) (xba1 : Nat) (xba2 : Nat) (xba3 : Nat) (xba4 : Nat) (xba5 : Nat) (xba6 : Nat) (xba7 : Nat) (xba8 : Nat) (xba9 : Nat) (xba10 : Nat) (xba11 : Nat) : MI l g yX11_cell cX11_cell 4 (some .int) 1 23 0 0 [(x0, .inr (11, [.ref xr, .ref xt, .ref xg, .ref xb, .ref xp, .ref xu, .ref xm, .ref xd, .ref xw, .ref xh, .ref xa, .ref xs, .ref xf, .int 0, .int 0, .long 0, .long 0, .int 0])), (xg, .inr (3, [.ref xgs, .ref xgh])), (xgs, .inl (cI g, 64, .inl (fun _ => 0))), (xgh, .inl (cI g, 64, .inl (fun _ => 0))), (xb, .inr (1, [.ref xba0, .ref xba1, .ref xba2, .ref xba3, .ref xba4, .ref xba5, .ref xba6, .ref xba7, .ref xba8, .ref xba9, .ref xba10, .ref xba11, .int 0, .int 0])), (xba7, .inl (cI g, 64, .inl (fun _ => (-9))))] [.ref x0, .int c0, .int s0, .int e0] (fun rr_ _ => rr_ = sp_X11_cell g x0 c0 s0 e0 xr xt xg xb xp xu xm xd xw xh xa xs xf xgs xgh xba0 xba1 xba2 xba3 xba4 xba5 xba6 xba7 xba8 xba9 xba10 xba11) := by
  refine met_of (fun A => va_Qi _ (bW g A) A) (by decide) (Nat.le_of_ble_eq_true rfl) ?_
  intro p e s m below meth c A ls X hK hP hD hA hZ hS hl
  have hx := X.1
  have hb := X.2.1
  have hml := X.2.2.1
  have hown := X.2.2.2.1
  have hts := X.2.2.2.2.1
  have hnm := X.2.2.2.2.2.2.2
  have hl : lv_has ls 4 [(0, .ref x0), (1, .int c0), (2, .int s0), (3, .int e0)] := hl
  refine lv_iload_n hx hb dX11_cell_0 rfl (lv_at hl 1 rfl) ?_
  refine kSi (As := [.int c0]) (rest := []) (wr := [(x0, .inr (11, [.ref xr, .ref xt, .ref xg, .ref xb, .ref xp, .ref xu, .ref xm, .ref xd, .ref xw, .ref xh, .ref xa, .ref xs, .ref xf, .int 0, .int 0, .long 0, .long 0, .int 0])), (xg, .inr (3, [.ref xgs, .ref xgh])), (xgs, .inl (cI g, 64, .inl (fun _ => 0))), (xgh, .inl (cI g, 64, .inl (fun _ => 0))), (xb, .inr (1, [.ref xba0, .ref xba1, .ref xba2, .ref xba3, .ref xba4, .ref xba5, .ref xba6, .ref xba7, .ref xba8, .ref xba9, .ref xba10, .ref xba11, .int 0, .int 0])), (xba7, .inl (cI g, 64, .inl (fun _ => (-9))))]) X (c_X3_isCell l g c0) ok_X3_isCell q_622 q_621 rfl hK hP hD hS hA hZ hl.1 [] [0, 1, 2, 3, 4, 5] rfl rfl rfl rfl rfl rfl (Nat.le_of_ble_eq_true rfl) ⟨Nat.le_of_ble_eq_true rfl, Nat.le_of_ble_eq_true rfl⟩ dX11_cell_1 ⟨Nat.le_of_ble_eq_true rfl, Nat.le_of_ble_eq_true rfl⟩ (fun r_1 w1 H locs hw_2 hP hD hS => ?_)
  rw [sp_X3_isCell] at hw_2
  rcases Classical.em (c0 < 0) with c_3 | c_3
  ·
    rw [if_pos c_3] at hw_2
    obtain ⟨e1, e2⟩ := Prod.mk.inj hw_2
    subst e1; subst e2
    have hP : va_P g.1 classes [(x0, .inr (11, [.ref xr, .ref xt, .ref xg, .ref xb, .ref xp, .ref xu, .ref xm, .ref xd, .ref xw, .ref xh, .ref xa, .ref xs, .ref xf, .int 0, .int 0, .long 0, .long 0, .int 0])), (xg, .inr (3, [.ref xgs, .ref xgh])), (xgs, .inl (cI g, 64, .inl (fun _ => 0))), (xgh, .inl (cI g, 64, .inl (fun _ => 0))), (xb, .inr (1, [.ref xba0, .ref xba1, .ref xba2, .ref xba3, .ref xba4, .ref xba5, .ref xba6, .ref xba7, .ref xba8, .ref xba9, .ref xba10, .ref xba11, .int 0, .int 0])), (xba7, .inl (cI g, 64, .inl (fun _ => (-9))))] H := hP
    have hD : va_D A [(x0, .inr (11, [.ref xr, .ref xt, .ref xg, .ref xb, .ref xp, .ref xu, .ref xm, .ref xd, .ref xw, .ref xh, .ref xa, .ref xs, .ref xf, .int 0, .int 0, .long 0, .long 0, .int 0])), (xg, .inr (3, [.ref xgs, .ref xgh])), (xgs, .inl (cI g, 64, .inl (fun _ => 0))), (xgh, .inl (cI g, 64, .inl (fun _ => 0))), (xb, .inr (1, [.ref xba0, .ref xba1, .ref xba2, .ref xba3, .ref xba4, .ref xba5, .ref xba6, .ref xba7, .ref xba8, .ref xba9, .ref xba10, .ref xba11, .int 0, .int 0])), (xba7, .inl (cI g, 64, .inl (fun _ => (-9))))] := hD
    refine lv_if_eq (tgt := 26) hx hb dX11_cell_4 (by decide) (fun _ => ?_) (fun c_4 => absurd (by decide) c_4)
    refine lv_iconst (v := (-1)) hx hb dX11_cell_26 (by decide) ?_
    exact rI X hK hP hD hS dX11_cell_27 (by rfl) (Nat.le_of_ble_eq_true rfl) (Nat.le_of_ble_eq_true rfl) (by show _ = _; unfold sp_X11_cell; rw [if_pos c_3]; try rfl)
  ·
    rw [if_neg c_3] at hw_2
    rcases Classical.em (64 ≤ c0) with c_5 | c_5
    ·
      rw [if_pos c_5] at hw_2
      obtain ⟨e1, e2⟩ := Prod.mk.inj hw_2
      subst e1; subst e2
      have hP : va_P g.1 classes [(x0, .inr (11, [.ref xr, .ref xt, .ref xg, .ref xb, .ref xp, .ref xu, .ref xm, .ref xd, .ref xw, .ref xh, .ref xa, .ref xs, .ref xf, .int 0, .int 0, .long 0, .long 0, .int 0])), (xg, .inr (3, [.ref xgs, .ref xgh])), (xgs, .inl (cI g, 64, .inl (fun _ => 0))), (xgh, .inl (cI g, 64, .inl (fun _ => 0))), (xb, .inr (1, [.ref xba0, .ref xba1, .ref xba2, .ref xba3, .ref xba4, .ref xba5, .ref xba6, .ref xba7, .ref xba8, .ref xba9, .ref xba10, .ref xba11, .int 0, .int 0])), (xba7, .inl (cI g, 64, .inl (fun _ => (-9))))] H := hP
      have hD : va_D A [(x0, .inr (11, [.ref xr, .ref xt, .ref xg, .ref xb, .ref xp, .ref xu, .ref xm, .ref xd, .ref xw, .ref xh, .ref xa, .ref xs, .ref xf, .int 0, .int 0, .long 0, .long 0, .int 0])), (xg, .inr (3, [.ref xgs, .ref xgh])), (xgs, .inl (cI g, 64, .inl (fun _ => 0))), (xgh, .inl (cI g, 64, .inl (fun _ => 0))), (xb, .inr (1, [.ref xba0, .ref xba1, .ref xba2, .ref xba3, .ref xba4, .ref xba5, .ref xba6, .ref xba7, .ref xba8, .ref xba9, .ref xba10, .ref xba11, .int 0, .int 0])), (xba7, .inl (cI g, 64, .inl (fun _ => (-9))))] := hD
      refine lv_if_eq (tgt := 26) hx hb dX11_cell_4 (by decide) (fun _ => ?_) (fun c_6 => absurd (by decide) c_6)
      refine lv_iconst (v := (-1)) hx hb dX11_cell_26 (by decide) ?_
      exact rI X hK hP hD hS dX11_cell_27 (by rfl) (Nat.le_of_ble_eq_true rfl) (Nat.le_of_ble_eq_true rfl) (by show _ = _; unfold sp_X11_cell; rw [if_neg c_3, if_pos c_5]; try rfl)
    ·
      rw [if_neg c_5] at hw_2
      obtain ⟨e1, e2⟩ := Prod.mk.inj hw_2
      subst e1; subst e2
      have hP : va_P g.1 classes [(x0, .inr (11, [.ref xr, .ref xt, .ref xg, .ref xb, .ref xp, .ref xu, .ref xm, .ref xd, .ref xw, .ref xh, .ref xa, .ref xs, .ref xf, .int 0, .int 0, .long 0, .long 0, .int 0])), (xg, .inr (3, [.ref xgs, .ref xgh])), (xgs, .inl (cI g, 64, .inl (fun _ => 0))), (xgh, .inl (cI g, 64, .inl (fun _ => 0))), (xb, .inr (1, [.ref xba0, .ref xba1, .ref xba2, .ref xba3, .ref xba4, .ref xba5, .ref xba6, .ref xba7, .ref xba8, .ref xba9, .ref xba10, .ref xba11, .int 0, .int 0])), (xba7, .inl (cI g, 64, .inl (fun _ => (-9))))] H := hP
      have hD : va_D A [(x0, .inr (11, [.ref xr, .ref xt, .ref xg, .ref xb, .ref xp, .ref xu, .ref xm, .ref xd, .ref xw, .ref xh, .ref xa, .ref xs, .ref xf, .int 0, .int 0, .long 0, .long 0, .int 0])), (xg, .inr (3, [.ref xgs, .ref xgh])), (xgs, .inl (cI g, 64, .inl (fun _ => 0))), (xgh, .inl (cI g, 64, .inl (fun _ => 0))), (xb, .inr (1, [.ref xba0, .ref xba1, .ref xba2, .ref xba3, .ref xba4, .ref xba5, .ref xba6, .ref xba7, .ref xba8, .ref xba9, .ref xba10, .ref xba11, .int 0, .int 0])), (xba7, .inl (cI g, 64, .inl (fun _ => (-9))))] := hD
      refine lv_if_eq (tgt := 26) hx hb dX11_cell_4 (by decide) (fun c_7 => absurd c_7 (by decide)) (fun _ => ?_)
      refine lv_iload_n hx hb dX11_cell_7 rfl (lv_at hl 2 rfl) ?_
      refine lv_if_lt (tgt := 26) hx hb dX11_cell_8 (by decide) (fun c_8 => ?_) (fun c_8 => ?_)
      ·
        refine lv_iconst (v := (-1)) hx hb dX11_cell_26 (by decide) ?_
        exact rI X hK hP hD hS dX11_cell_27 (by rfl) (Nat.le_of_ble_eq_true rfl) (Nat.le_of_ble_eq_true rfl) (by show _ = _; unfold sp_X11_cell; rw [if_neg c_3, if_neg c_5, if_pos c_8]; try rfl)
      ·
        refine lv_iload_n hx hb dX11_cell_11 rfl (lv_at hl 2 rfl) ?_
        refine lv_iconst (v := 4) hx hb dX11_cell_12 (by decide) ?_
        refine lv_icmp_gt (tgt := 26) hx hb dX11_cell_13 (by decide) (fun c_9 => ?_) (fun c_9 => ?_)
        ·
          refine lv_iconst (v := (-1)) hx hb dX11_cell_26 (by decide) ?_
          exact rI X hK hP hD hS dX11_cell_27 (by rfl) (Nat.le_of_ble_eq_true rfl) (Nat.le_of_ble_eq_true rfl) (by show _ = _; unfold sp_X11_cell; rw [if_neg c_3, if_neg c_5, if_neg c_8, if_pos c_9]; try rfl)
        ·
          refine lv_iload_n hx hb dX11_cell_16 rfl (lv_at hl 3 rfl) ?_
          refine lv_if_lt (tgt := 26) hx hb dX11_cell_17 (by decide) (fun c_10 => ?_) (fun c_10 => ?_)
          ·
            refine lv_iconst (v := (-1)) hx hb dX11_cell_26 (by decide) ?_
            exact rI X hK hP hD hS dX11_cell_27 (by rfl) (Nat.le_of_ble_eq_true rfl) (Nat.le_of_ble_eq_true rfl) (by show _ = _; unfold sp_X11_cell; rw [if_neg c_3, if_neg c_5, if_neg c_8, if_neg c_9, if_pos c_10]; try rfl)
          ·
            refine lv_iload_n hx hb dX11_cell_20 rfl (lv_at hl 3 rfl) ?_
            refine lv_bipush (v := 99) hx hb dX11_cell_21 (by decide) ?_
            refine lv_icmp_le (tgt := 28) hx hb dX11_cell_23 (by decide) (fun c_11 => ?_) (fun c_11 => ?_)
            ·
              refine lv_iload_n hx hb dX11_cell_28 rfl (lv_at hl 2 rfl) ?_
              refine lv_iconst (v := 4) hx hb dX11_cell_29 (by decide) ?_
              refine lv_icmp_ne (tgt := 49) hx hb dX11_cell_30 (by decide) (fun c_12 => ?_) (fun c_12 => ?_)
              ·
                refine lv_aload_n hx hb dX11_cell_49 rfl (lv_at hl 0 rfl) ?_
                refine va_get (D := g.1) (ci := 11) (v := .ref xg) (C := RX11) (T := TX11) (N := 18) hx hb hts fw_X11 hown hK hP 0 rfl rfl 2 (by decide) (hts _ q_460) (fun _ h9 => h9) rfl dX11_cell_50 ?_
                refine lv_iload_n hx hb dX11_cell_53 rfl (lv_at hl 1 rfl) ?_
                refine lv_iload_n hx hb dX11_cell_54 rfl (lv_at hl 2 rfl) ?_
                refine lv_iload_n hx hb dX11_cell_55 rfl (lv_at hl 3 rfl) ?_
                refine kVv (As := [.int c0, .int s0, .int e0]) (rest := []) (wr := [(x0, .inr (11, [.ref xr, .ref xt, .ref xg, .ref xb, .ref xp, .ref xu, .ref xm, .ref xd, .ref xw, .ref xh, .ref xa, .ref xs, .ref xf, .int 0, .int 0, .long 0, .long 0, .int 0])), (xb, .inr (1, [.ref xba0, .ref xba1, .ref xba2, .ref xba3, .ref xba4, .ref xba5, .ref xba6, .ref xba7, .ref xba8, .ref xba9, .ref xba10, .ref xba11, .int 0, .int 0])), (xba7, .inl (cI g, 64, .inl (fun _ => (-9))))]) X (c_X3_change l g xg c0 s0 e0 xgs xgh c_3 c_5) ok_X3_change okv_X3_change q_628 rfl hK hP hD hS hA hZ hl.1 [1, 2, 3] [0, 4, 5] rfl rfl rfl rfl rfl 0 3 rfl rfl rfl (Nat.le_of_ble_eq_true rfl) ⟨Nat.le_of_ble_eq_true rfl, Nat.le_of_ble_eq_true rfl⟩ dX11_cell_56 ⟨Nat.le_of_ble_eq_true rfl, Nat.le_of_ble_eq_true rfl⟩ (fun w1 H locs hw_14 hP hD hS => ?_)
                rw [sp_X3_change] at hw_14
                subst hw_14
                have hP : va_P g.1 classes [(x0, .inr (11, [.ref xr, .ref xt, .ref xg, .ref xb, .ref xp, .ref xu, .ref xm, .ref xd, .ref xw, .ref xh, .ref xa, .ref xs, .ref xf, .int 0, .int 0, .long 0, .long 0, .int 0])), (xb, .inr (1, [.ref xba0, .ref xba1, .ref xba2, .ref xba3, .ref xba4, .ref xba5, .ref xba6, .ref xba7, .ref xba8, .ref xba9, .ref xba10, .ref xba11, .int 0, .int 0])), (xba7, .inl (cI g, 64, .inl (fun _ => (-9)))), (xg, .inr (3, [.ref xgs, .ref xgh])), (xgs, .inl (cI g, 64, .inl (upd (fun _ => 0) (c0).toNatClampNeg s0))), (xgh, .inl (cI g, 64, .inl (upd (fun _ => 0) (c0).toNatClampNeg e0)))] H := hP
                have hD : va_D A [(x0, .inr (11, [.ref xr, .ref xt, .ref xg, .ref xb, .ref xp, .ref xu, .ref xm, .ref xd, .ref xw, .ref xh, .ref xa, .ref xs, .ref xf, .int 0, .int 0, .long 0, .long 0, .int 0])), (xb, .inr (1, [.ref xba0, .ref xba1, .ref xba2, .ref xba3, .ref xba4, .ref xba5, .ref xba6, .ref xba7, .ref xba8, .ref xba9, .ref xba10, .ref xba11, .int 0, .int 0])), (xba7, .inl (cI g, 64, .inl (fun _ => (-9)))), (xg, .inr (3, [.ref xgs, .ref xgh])), (xgs, .inl (cI g, 64, .inl (upd (fun _ => 0) (c0).toNatClampNeg s0))), (xgh, .inl (cI g, 64, .inl (upd (fun _ => 0) (c0).toNatClampNeg e0)))] := hD
                refine lv_iconst (v := 1) hx hb dX11_cell_59 (by decide) ?_
                exact rI X hK hP hD hS dX11_cell_60 (by rfl) (Nat.le_of_ble_eq_true rfl) (Nat.le_of_ble_eq_true rfl) (by show _ = _; unfold sp_X11_cell; rw [if_neg c_3, if_neg c_5, if_neg c_8, if_neg c_9, if_neg c_10, if_pos c_11, if_neg c_12]; try rfl)
              ·
                refine lv_aload_n hx hb dX11_cell_33 rfl (lv_at hl 0 rfl) ?_
                refine va_get (D := g.1) (ci := 11) (v := .ref xb) (C := RX11) (T := TX11) (N := 18) hx hb hts fw_X11 hown hK hP 0 rfl rfl 3 (by decide) (hts _ q_461) (fun _ h9 => h9) rfl dX11_cell_34 ?_
                refine lv_iload_n hx hb dX11_cell_37 rfl (lv_at hl 1 rfl) ?_
                refine kVi (As := [.int c0]) (rest := []) (wr := [(x0, .inr (11, [.ref xr, .ref xt, .ref xg, .ref xb, .ref xp, .ref xu, .ref xm, .ref xd, .ref xw, .ref xh, .ref xa, .ref xs, .ref xf, .int 0, .int 0, .long 0, .long 0, .int 0])), (xg, .inr (3, [.ref xgs, .ref xgh])), (xgs, .inl (cI g, 64, .inl (fun _ => 0))), (xgh, .inl (cI g, 64, .inl (fun _ => 0)))]) X (c_X1_standingOn l g xb c0 xba0 xba1 xba2 xba3 xba4 xba5 xba6 xba7 xba8 xba9 xba10 xba11 c_3 c_5) ok_X1_standingOn okv_X1_standingOn q_624 rfl hK hP hD hS hA hZ hl.1 [4, 5] [0, 1, 2, 3] rfl rfl rfl rfl rfl 0 1 rfl rfl rfl (Nat.le_of_ble_eq_true rfl) ⟨Nat.le_of_ble_eq_true rfl, Nat.le_of_ble_eq_true rfl⟩ dX11_cell_38 ⟨Nat.le_of_ble_eq_true rfl, Nat.le_of_ble_eq_true rfl⟩ (fun r_15 w1 H locs hw_16 hP hD hS => ?_)
                rw [sp_X1_standingOn] at hw_16
                obtain ⟨e1, e2⟩ := Prod.mk.inj hw_16
                subst e1; subst e2
                have hP : va_P g.1 classes [(x0, .inr (11, [.ref xr, .ref xt, .ref xg, .ref xb, .ref xp, .ref xu, .ref xm, .ref xd, .ref xw, .ref xh, .ref xa, .ref xs, .ref xf, .int 0, .int 0, .long 0, .long 0, .int 0])), (xg, .inr (3, [.ref xgs, .ref xgh])), (xgs, .inl (cI g, 64, .inl (fun _ => 0))), (xgh, .inl (cI g, 64, .inl (fun _ => 0))), (xb, .inr (1, [.ref xba0, .ref xba1, .ref xba2, .ref xba3, .ref xba4, .ref xba5, .ref xba6, .ref xba7, .ref xba8, .ref xba9, .ref xba10, .ref xba11, .int 0, .int 0])), (xba7, .inl (cI g, 64, .inl (fun _ => (-9))))] H := hP
                have hD : va_D A [(x0, .inr (11, [.ref xr, .ref xt, .ref xg, .ref xb, .ref xp, .ref xu, .ref xm, .ref xd, .ref xw, .ref xh, .ref xa, .ref xs, .ref xf, .int 0, .int 0, .long 0, .long 0, .int 0])), (xg, .inr (3, [.ref xgs, .ref xgh])), (xgs, .inl (cI g, 64, .inl (fun _ => 0))), (xgh, .inl (cI g, 64, .inl (fun _ => 0))), (xb, .inr (1, [.ref xba0, .ref xba1, .ref xba2, .ref xba3, .ref xba4, .ref xba5, .ref xba6, .ref xba7, .ref xba8, .ref xba9, .ref xba10, .ref xba11, .int 0, .int 0])), (xba7, .inl (cI g, 64, .inl (fun _ => (-9))))] := hD
                refine lv_bipush (v := (-9)) hx hb dX11_cell_41 (by decide) ?_
                refine lv_icmp_eq (tgt := 49) hx hb dX11_cell_43 (by decide) (fun _ => ?_) (fun c_17 => absurd (by decide) c_17)
                refine lv_aload_n hx hb dX11_cell_49 rfl (lv_at hl 0 rfl) ?_
                refine va_get (D := g.1) (ci := 11) (v := .ref xg) (C := RX11) (T := TX11) (N := 18) hx hb hts fw_X11 hown hK hP 0 rfl rfl 2 (by decide) (hts _ q_460) (fun _ h9 => h9) rfl dX11_cell_50 ?_
                refine lv_iload_n hx hb dX11_cell_53 rfl (lv_at hl 1 rfl) ?_
                refine lv_iload_n hx hb dX11_cell_54 rfl (lv_at hl 2 rfl) ?_
                refine lv_iload_n hx hb dX11_cell_55 rfl (lv_at hl 3 rfl) ?_
                refine kVv (As := [.int c0, .int s0, .int e0]) (rest := []) (wr := [(x0, .inr (11, [.ref xr, .ref xt, .ref xg, .ref xb, .ref xp, .ref xu, .ref xm, .ref xd, .ref xw, .ref xh, .ref xa, .ref xs, .ref xf, .int 0, .int 0, .long 0, .long 0, .int 0])), (xb, .inr (1, [.ref xba0, .ref xba1, .ref xba2, .ref xba3, .ref xba4, .ref xba5, .ref xba6, .ref xba7, .ref xba8, .ref xba9, .ref xba10, .ref xba11, .int 0, .int 0])), (xba7, .inl (cI g, 64, .inl (fun _ => (-9))))]) X (c_X3_change l g xg c0 s0 e0 xgs xgh c_3 c_5) ok_X3_change okv_X3_change q_628 rfl hK hP hD hS hA hZ hl.1 [1, 2, 3] [0, 4, 5] rfl rfl rfl rfl rfl 0 3 rfl rfl rfl (Nat.le_of_ble_eq_true rfl) ⟨Nat.le_of_ble_eq_true rfl, Nat.le_of_ble_eq_true rfl⟩ dX11_cell_56 ⟨Nat.le_of_ble_eq_true rfl, Nat.le_of_ble_eq_true rfl⟩ (fun w1 H locs hw_19 hP hD hS => ?_)
                rw [sp_X3_change] at hw_19
                subst hw_19
                have hP : va_P g.1 classes [(x0, .inr (11, [.ref xr, .ref xt, .ref xg, .ref xb, .ref xp, .ref xu, .ref xm, .ref xd, .ref xw, .ref xh, .ref xa, .ref xs, .ref xf, .int 0, .int 0, .long 0, .long 0, .int 0])), (xb, .inr (1, [.ref xba0, .ref xba1, .ref xba2, .ref xba3, .ref xba4, .ref xba5, .ref xba6, .ref xba7, .ref xba8, .ref xba9, .ref xba10, .ref xba11, .int 0, .int 0])), (xba7, .inl (cI g, 64, .inl (fun _ => (-9)))), (xg, .inr (3, [.ref xgs, .ref xgh])), (xgs, .inl (cI g, 64, .inl (upd (fun _ => 0) (c0).toNatClampNeg s0))), (xgh, .inl (cI g, 64, .inl (upd (fun _ => 0) (c0).toNatClampNeg e0)))] H := hP
                have hD : va_D A [(x0, .inr (11, [.ref xr, .ref xt, .ref xg, .ref xb, .ref xp, .ref xu, .ref xm, .ref xd, .ref xw, .ref xh, .ref xa, .ref xs, .ref xf, .int 0, .int 0, .long 0, .long 0, .int 0])), (xb, .inr (1, [.ref xba0, .ref xba1, .ref xba2, .ref xba3, .ref xba4, .ref xba5, .ref xba6, .ref xba7, .ref xba8, .ref xba9, .ref xba10, .ref xba11, .int 0, .int 0])), (xba7, .inl (cI g, 64, .inl (fun _ => (-9)))), (xg, .inr (3, [.ref xgs, .ref xgh])), (xgs, .inl (cI g, 64, .inl (upd (fun _ => 0) (c0).toNatClampNeg s0))), (xgh, .inl (cI g, 64, .inl (upd (fun _ => 0) (c0).toNatClampNeg e0)))] := hD
                refine lv_iconst (v := 1) hx hb dX11_cell_59 (by decide) ?_
                exact rI X hK hP hD hS dX11_cell_60 (by rfl) (Nat.le_of_ble_eq_true rfl) (Nat.le_of_ble_eq_true rfl) (by show _ = _; unfold sp_X11_cell; rw [if_neg c_3, if_neg c_5, if_neg c_8, if_neg c_9, if_neg c_10, if_pos c_11, if_pos c_12]; try rfl)
            ·
              refine lv_iconst (v := (-1)) hx hb dX11_cell_26 (by decide) ?_
              exact rI X hK hP hD hS dX11_cell_27 (by rfl) (Nat.le_of_ble_eq_true rfl) (Nat.le_of_ble_eq_true rfl) (by show _ = _; unfold sp_X11_cell; rw [if_neg c_3, if_neg c_5, if_neg c_8, if_neg c_9, if_neg c_10, if_neg c_11]; try rfl)
def sp_X11_building (g : GG) (x0 : Nat) (c0 : Int32) (u0 : Int32) (o0 : Int32) (v0 : Int32) (xr : Nat) (xt : Nat) (xg : Nat) (xb : Nat) (xp : Nat) (xu : Nat) (xm : Nat) (xd : Nat) (xw : Nat) (xh : Nat) (xa : Nat) (xs : Nat) (xf : Nat) (xgs : Nat) (xgh : Nat) (xba0 : Nat) (xba1 : Nat) (xba2 : Nat) (xba3 : Nat) (xba4 : Nat) (xba5 : Nat) (xba6 : Nat) (xba7 : Nat) (xba8 : Nat) (xba9 : Nat) (xba10 : Nat) (xba11 : Nat) : Int32 := if c0 < 0 then (-1) else (if 64 ≤ c0 then (-1) else (if u0 < 0 then (-1) else (if 2 < u0 then (-1) else (if o0 < 0 then (-1) else (if 20 < o0 then (-1) else (if v0 < 1 then (-1) else (if 100000 < v0 then (-1) else 0)))))))
set_option maxHeartbeats 4000000 in
set_option maxRecDepth 100000 in
theorem c_X11_building (l : Launch) (g : GG) (x0 : Nat) (c0 : Int32) (u0 : Int32) (o0 : Int32) (v0 : Int32) (xr : Nat) (xt : Nat) (xg : Nat) (xb : Nat) (xp : Nat) (xu : Nat) (xm : Nat) (xd : Nat) (xw : Nat) (xh : Nat) (xa : Nat) (xs : Nat) (xf : Nat) (xgs : Nat) (xgh : Nat) (xba0 : Nat) (xba1 : Nat) (xba2 : Nat) (xba3 : Nat) (xba4 : Nat) (xba5 : Nat) (xba6 : Nat) (xba7 : Nat) (xba8 : Nat) (xba9 : Nat) (xba10 : Nat) (xba11 : Nat) : MI l g yX11_building cX11_building 5 (some .int) 2 49 0 0 [(x0, .inr (11, [.ref xr, .ref xt, .ref xg, .ref xb, .ref xp, .ref xu, .ref xm, .ref xd, .ref xw, .ref xh, .ref xa, .ref xs, .ref xf, .int 0, .int 0, .long 0, .long 0, .int 0])), (xg, .inr (3, [.ref xgs, .ref xgh])), (xgs, .inl (cI g, 64, .inl (fun _ => 0))), (xb, .inr (1, [.ref xba0, .ref xba1, .ref xba2, .ref xba3, .ref xba4, .ref xba5, .ref xba6, .ref xba7, .ref xba8, .ref xba9, .ref xba10, .ref xba11, .int 0, .int 0])), (xba0, .inl (cI g, 32, .inl (fun _ => 0))), (xba1, .inl (cI g, 32, .inl (fun _ => 0))), (xba2, .inl (cI g, 32, .inl (fun _ => 0))), (xba4, .inl (cI g, 32, .inl (fun _ => 0))), (xba5, .inl (cI g, 32, .inl (fun _ => 0))), (xba7, .inl (cI g, 64, .inl (fun _ => (-9)))), (xba8, .inl (cI g, 100, .inl (fun _ => 0))), (xba9, .inl (cI g, 100, .inl (fun _ => 0))), (xba10, .inl (cI g, 100, .inl (fun _ => 0)))] [.ref x0, .int c0, .int u0, .int o0, .int v0] (fun rr_ _ => rr_ = sp_X11_building g x0 c0 u0 o0 v0 xr xt xg xb xp xu xm xd xw xh xa xs xf xgs xgh xba0 xba1 xba2 xba3 xba4 xba5 xba6 xba7 xba8 xba9 xba10 xba11) := by
  refine met_of (fun A => va_Qi _ (bW g A) A) (by decide) (Nat.le_of_ble_eq_true rfl) ?_
  intro p e s m below meth c A ls X hK hP hD hA hZ hS hl
  have hx := X.1
  have hb := X.2.1
  have hml := X.2.2.1
  have hown := X.2.2.2.1
  have hts := X.2.2.2.2.1
  have hnm := X.2.2.2.2.2.2.2
  have hl : lv_has ls 5 [(0, .ref x0), (1, .int c0), (2, .int u0), (3, .int o0), (4, .int v0)] := hl
  refine lv_iload_n hx hb dX11_building_0 rfl (lv_at hl 1 rfl) ?_
  refine kSi (As := [.int c0]) (rest := []) (wr := [(x0, .inr (11, [.ref xr, .ref xt, .ref xg, .ref xb, .ref xp, .ref xu, .ref xm, .ref xd, .ref xw, .ref xh, .ref xa, .ref xs, .ref xf, .int 0, .int 0, .long 0, .long 0, .int 0])), (xg, .inr (3, [.ref xgs, .ref xgh])), (xgs, .inl (cI g, 64, .inl (fun _ => 0))), (xb, .inr (1, [.ref xba0, .ref xba1, .ref xba2, .ref xba3, .ref xba4, .ref xba5, .ref xba6, .ref xba7, .ref xba8, .ref xba9, .ref xba10, .ref xba11, .int 0, .int 0])), (xba0, .inl (cI g, 32, .inl (fun _ => 0))), (xba1, .inl (cI g, 32, .inl (fun _ => 0))), (xba2, .inl (cI g, 32, .inl (fun _ => 0))), (xba4, .inl (cI g, 32, .inl (fun _ => 0))), (xba5, .inl (cI g, 32, .inl (fun _ => 0))), (xba7, .inl (cI g, 64, .inl (fun _ => (-9)))), (xba8, .inl (cI g, 100, .inl (fun _ => 0))), (xba9, .inl (cI g, 100, .inl (fun _ => 0))), (xba10, .inl (cI g, 100, .inl (fun _ => 0)))]) X (c_X3_isCell l g c0) ok_X3_isCell q_622 q_621 rfl hK hP hD hS hA hZ hl.1 [] [0, 1, 2, 3, 4, 5, 6, 7, 8, 9, 10, 11, 12] rfl rfl rfl rfl rfl rfl (Nat.le_of_ble_eq_true rfl) ⟨Nat.le_of_ble_eq_true rfl, Nat.le_of_ble_eq_true rfl⟩ dX11_building_1 ⟨Nat.le_of_ble_eq_true rfl, Nat.le_of_ble_eq_true rfl⟩ (fun r_1 w1 H locs hw_2 hP hD hS => ?_)
  rw [sp_X3_isCell] at hw_2
  rcases Classical.em (c0 < 0) with c_3 | c_3
  ·
    rw [if_pos c_3] at hw_2
    obtain ⟨e1, e2⟩ := Prod.mk.inj hw_2
    subst e1; subst e2
    have hP : va_P g.1 classes [(x0, .inr (11, [.ref xr, .ref xt, .ref xg, .ref xb, .ref xp, .ref xu, .ref xm, .ref xd, .ref xw, .ref xh, .ref xa, .ref xs, .ref xf, .int 0, .int 0, .long 0, .long 0, .int 0])), (xg, .inr (3, [.ref xgs, .ref xgh])), (xgs, .inl (cI g, 64, .inl (fun _ => 0))), (xb, .inr (1, [.ref xba0, .ref xba1, .ref xba2, .ref xba3, .ref xba4, .ref xba5, .ref xba6, .ref xba7, .ref xba8, .ref xba9, .ref xba10, .ref xba11, .int 0, .int 0])), (xba0, .inl (cI g, 32, .inl (fun _ => 0))), (xba1, .inl (cI g, 32, .inl (fun _ => 0))), (xba2, .inl (cI g, 32, .inl (fun _ => 0))), (xba4, .inl (cI g, 32, .inl (fun _ => 0))), (xba5, .inl (cI g, 32, .inl (fun _ => 0))), (xba7, .inl (cI g, 64, .inl (fun _ => (-9)))), (xba8, .inl (cI g, 100, .inl (fun _ => 0))), (xba9, .inl (cI g, 100, .inl (fun _ => 0))), (xba10, .inl (cI g, 100, .inl (fun _ => 0)))] H := hP
    have hD : va_D A [(x0, .inr (11, [.ref xr, .ref xt, .ref xg, .ref xb, .ref xp, .ref xu, .ref xm, .ref xd, .ref xw, .ref xh, .ref xa, .ref xs, .ref xf, .int 0, .int 0, .long 0, .long 0, .int 0])), (xg, .inr (3, [.ref xgs, .ref xgh])), (xgs, .inl (cI g, 64, .inl (fun _ => 0))), (xb, .inr (1, [.ref xba0, .ref xba1, .ref xba2, .ref xba3, .ref xba4, .ref xba5, .ref xba6, .ref xba7, .ref xba8, .ref xba9, .ref xba10, .ref xba11, .int 0, .int 0])), (xba0, .inl (cI g, 32, .inl (fun _ => 0))), (xba1, .inl (cI g, 32, .inl (fun _ => 0))), (xba2, .inl (cI g, 32, .inl (fun _ => 0))), (xba4, .inl (cI g, 32, .inl (fun _ => 0))), (xba5, .inl (cI g, 32, .inl (fun _ => 0))), (xba7, .inl (cI g, 64, .inl (fun _ => (-9)))), (xba8, .inl (cI g, 100, .inl (fun _ => 0))), (xba9, .inl (cI g, 100, .inl (fun _ => 0))), (xba10, .inl (cI g, 100, .inl (fun _ => 0)))] := hD
    refine lv_if_eq (tgt := 32) hx hb dX11_building_4 (by decide) (fun _ => ?_) (fun c_4 => absurd (by decide) c_4)
    refine lv_iconst (v := (-1)) hx hb dX11_building_32 (by decide) ?_
    exact rI X hK hP hD hS dX11_building_33 (by rfl) (Nat.le_of_ble_eq_true rfl) (Nat.le_of_ble_eq_true rfl) (by show _ = _; unfold sp_X11_building; rw [if_pos c_3]; try rfl)
  ·
    rw [if_neg c_3] at hw_2
    rcases Classical.em (64 ≤ c0) with c_5 | c_5
    ·
      rw [if_pos c_5] at hw_2
      obtain ⟨e1, e2⟩ := Prod.mk.inj hw_2
      subst e1; subst e2
      have hP : va_P g.1 classes [(x0, .inr (11, [.ref xr, .ref xt, .ref xg, .ref xb, .ref xp, .ref xu, .ref xm, .ref xd, .ref xw, .ref xh, .ref xa, .ref xs, .ref xf, .int 0, .int 0, .long 0, .long 0, .int 0])), (xg, .inr (3, [.ref xgs, .ref xgh])), (xgs, .inl (cI g, 64, .inl (fun _ => 0))), (xb, .inr (1, [.ref xba0, .ref xba1, .ref xba2, .ref xba3, .ref xba4, .ref xba5, .ref xba6, .ref xba7, .ref xba8, .ref xba9, .ref xba10, .ref xba11, .int 0, .int 0])), (xba0, .inl (cI g, 32, .inl (fun _ => 0))), (xba1, .inl (cI g, 32, .inl (fun _ => 0))), (xba2, .inl (cI g, 32, .inl (fun _ => 0))), (xba4, .inl (cI g, 32, .inl (fun _ => 0))), (xba5, .inl (cI g, 32, .inl (fun _ => 0))), (xba7, .inl (cI g, 64, .inl (fun _ => (-9)))), (xba8, .inl (cI g, 100, .inl (fun _ => 0))), (xba9, .inl (cI g, 100, .inl (fun _ => 0))), (xba10, .inl (cI g, 100, .inl (fun _ => 0)))] H := hP
      have hD : va_D A [(x0, .inr (11, [.ref xr, .ref xt, .ref xg, .ref xb, .ref xp, .ref xu, .ref xm, .ref xd, .ref xw, .ref xh, .ref xa, .ref xs, .ref xf, .int 0, .int 0, .long 0, .long 0, .int 0])), (xg, .inr (3, [.ref xgs, .ref xgh])), (xgs, .inl (cI g, 64, .inl (fun _ => 0))), (xb, .inr (1, [.ref xba0, .ref xba1, .ref xba2, .ref xba3, .ref xba4, .ref xba5, .ref xba6, .ref xba7, .ref xba8, .ref xba9, .ref xba10, .ref xba11, .int 0, .int 0])), (xba0, .inl (cI g, 32, .inl (fun _ => 0))), (xba1, .inl (cI g, 32, .inl (fun _ => 0))), (xba2, .inl (cI g, 32, .inl (fun _ => 0))), (xba4, .inl (cI g, 32, .inl (fun _ => 0))), (xba5, .inl (cI g, 32, .inl (fun _ => 0))), (xba7, .inl (cI g, 64, .inl (fun _ => (-9)))), (xba8, .inl (cI g, 100, .inl (fun _ => 0))), (xba9, .inl (cI g, 100, .inl (fun _ => 0))), (xba10, .inl (cI g, 100, .inl (fun _ => 0)))] := hD
      refine lv_if_eq (tgt := 32) hx hb dX11_building_4 (by decide) (fun _ => ?_) (fun c_6 => absurd (by decide) c_6)
      refine lv_iconst (v := (-1)) hx hb dX11_building_32 (by decide) ?_
      exact rI X hK hP hD hS dX11_building_33 (by rfl) (Nat.le_of_ble_eq_true rfl) (Nat.le_of_ble_eq_true rfl) (by show _ = _; unfold sp_X11_building; rw [if_neg c_3, if_pos c_5]; try rfl)
    ·
      rw [if_neg c_5] at hw_2
      obtain ⟨e1, e2⟩ := Prod.mk.inj hw_2
      subst e1; subst e2
      have hP : va_P g.1 classes [(x0, .inr (11, [.ref xr, .ref xt, .ref xg, .ref xb, .ref xp, .ref xu, .ref xm, .ref xd, .ref xw, .ref xh, .ref xa, .ref xs, .ref xf, .int 0, .int 0, .long 0, .long 0, .int 0])), (xg, .inr (3, [.ref xgs, .ref xgh])), (xgs, .inl (cI g, 64, .inl (fun _ => 0))), (xb, .inr (1, [.ref xba0, .ref xba1, .ref xba2, .ref xba3, .ref xba4, .ref xba5, .ref xba6, .ref xba7, .ref xba8, .ref xba9, .ref xba10, .ref xba11, .int 0, .int 0])), (xba0, .inl (cI g, 32, .inl (fun _ => 0))), (xba1, .inl (cI g, 32, .inl (fun _ => 0))), (xba2, .inl (cI g, 32, .inl (fun _ => 0))), (xba4, .inl (cI g, 32, .inl (fun _ => 0))), (xba5, .inl (cI g, 32, .inl (fun _ => 0))), (xba7, .inl (cI g, 64, .inl (fun _ => (-9)))), (xba8, .inl (cI g, 100, .inl (fun _ => 0))), (xba9, .inl (cI g, 100, .inl (fun _ => 0))), (xba10, .inl (cI g, 100, .inl (fun _ => 0)))] H := hP
      have hD : va_D A [(x0, .inr (11, [.ref xr, .ref xt, .ref xg, .ref xb, .ref xp, .ref xu, .ref xm, .ref xd, .ref xw, .ref xh, .ref xa, .ref xs, .ref xf, .int 0, .int 0, .long 0, .long 0, .int 0])), (xg, .inr (3, [.ref xgs, .ref xgh])), (xgs, .inl (cI g, 64, .inl (fun _ => 0))), (xb, .inr (1, [.ref xba0, .ref xba1, .ref xba2, .ref xba3, .ref xba4, .ref xba5, .ref xba6, .ref xba7, .ref xba8, .ref xba9, .ref xba10, .ref xba11, .int 0, .int 0])), (xba0, .inl (cI g, 32, .inl (fun _ => 0))), (xba1, .inl (cI g, 32, .inl (fun _ => 0))), (xba2, .inl (cI g, 32, .inl (fun _ => 0))), (xba4, .inl (cI g, 32, .inl (fun _ => 0))), (xba5, .inl (cI g, 32, .inl (fun _ => 0))), (xba7, .inl (cI g, 64, .inl (fun _ => (-9)))), (xba8, .inl (cI g, 100, .inl (fun _ => 0))), (xba9, .inl (cI g, 100, .inl (fun _ => 0))), (xba10, .inl (cI g, 100, .inl (fun _ => 0)))] := hD
      refine lv_if_eq (tgt := 32) hx hb dX11_building_4 (by decide) (fun c_7 => absurd c_7 (by decide)) (fun _ => ?_)
      refine lv_iload_n hx hb dX11_building_7 rfl (lv_at hl 2 rfl) ?_
      refine kSi (As := [.int u0]) (rest := []) (wr := [(x0, .inr (11, [.ref xr, .ref xt, .ref xg, .ref xb, .ref xp, .ref xu, .ref xm, .ref xd, .ref xw, .ref xh, .ref xa, .ref xs, .ref xf, .int 0, .int 0, .long 0, .long 0, .int 0])), (xg, .inr (3, [.ref xgs, .ref xgh])), (xgs, .inl (cI g, 64, .inl (fun _ => 0))), (xb, .inr (1, [.ref xba0, .ref xba1, .ref xba2, .ref xba3, .ref xba4, .ref xba5, .ref xba6, .ref xba7, .ref xba8, .ref xba9, .ref xba10, .ref xba11, .int 0, .int 0])), (xba0, .inl (cI g, 32, .inl (fun _ => 0))), (xba1, .inl (cI g, 32, .inl (fun _ => 0))), (xba2, .inl (cI g, 32, .inl (fun _ => 0))), (xba4, .inl (cI g, 32, .inl (fun _ => 0))), (xba5, .inl (cI g, 32, .inl (fun _ => 0))), (xba7, .inl (cI g, 64, .inl (fun _ => (-9)))), (xba8, .inl (cI g, 100, .inl (fun _ => 0))), (xba9, .inl (cI g, 100, .inl (fun _ => 0))), (xba10, .inl (cI g, 100, .inl (fun _ => 0)))]) X (c_X1_isUse l g u0) ok_X1_isUse q_637 q_636 rfl hK hP hD hS hA hZ hl.1 [] [0, 1, 2, 3, 4, 5, 6, 7, 8, 9, 10, 11, 12] rfl rfl rfl rfl rfl rfl (Nat.le_of_ble_eq_true rfl) ⟨Nat.le_of_ble_eq_true rfl, Nat.le_of_ble_eq_true rfl⟩ dX11_building_8 ⟨Nat.le_of_ble_eq_true rfl, Nat.le_of_ble_eq_true rfl⟩ (fun r_8 w1 H locs hw_9 hP hD hS => ?_)
      rw [sp_X1_isUse] at hw_9
      rcases Classical.em (u0 < 0) with c_10 | c_10
      ·
        rw [if_pos c_10] at hw_9
        obtain ⟨e1, e2⟩ := Prod.mk.inj hw_9
        subst e1; subst e2
        have hP : va_P g.1 classes [(x0, .inr (11, [.ref xr, .ref xt, .ref xg, .ref xb, .ref xp, .ref xu, .ref xm, .ref xd, .ref xw, .ref xh, .ref xa, .ref xs, .ref xf, .int 0, .int 0, .long 0, .long 0, .int 0])), (xg, .inr (3, [.ref xgs, .ref xgh])), (xgs, .inl (cI g, 64, .inl (fun _ => 0))), (xb, .inr (1, [.ref xba0, .ref xba1, .ref xba2, .ref xba3, .ref xba4, .ref xba5, .ref xba6, .ref xba7, .ref xba8, .ref xba9, .ref xba10, .ref xba11, .int 0, .int 0])), (xba0, .inl (cI g, 32, .inl (fun _ => 0))), (xba1, .inl (cI g, 32, .inl (fun _ => 0))), (xba2, .inl (cI g, 32, .inl (fun _ => 0))), (xba4, .inl (cI g, 32, .inl (fun _ => 0))), (xba5, .inl (cI g, 32, .inl (fun _ => 0))), (xba7, .inl (cI g, 64, .inl (fun _ => (-9)))), (xba8, .inl (cI g, 100, .inl (fun _ => 0))), (xba9, .inl (cI g, 100, .inl (fun _ => 0))), (xba10, .inl (cI g, 100, .inl (fun _ => 0)))] H := hP
        have hD : va_D A [(x0, .inr (11, [.ref xr, .ref xt, .ref xg, .ref xb, .ref xp, .ref xu, .ref xm, .ref xd, .ref xw, .ref xh, .ref xa, .ref xs, .ref xf, .int 0, .int 0, .long 0, .long 0, .int 0])), (xg, .inr (3, [.ref xgs, .ref xgh])), (xgs, .inl (cI g, 64, .inl (fun _ => 0))), (xb, .inr (1, [.ref xba0, .ref xba1, .ref xba2, .ref xba3, .ref xba4, .ref xba5, .ref xba6, .ref xba7, .ref xba8, .ref xba9, .ref xba10, .ref xba11, .int 0, .int 0])), (xba0, .inl (cI g, 32, .inl (fun _ => 0))), (xba1, .inl (cI g, 32, .inl (fun _ => 0))), (xba2, .inl (cI g, 32, .inl (fun _ => 0))), (xba4, .inl (cI g, 32, .inl (fun _ => 0))), (xba5, .inl (cI g, 32, .inl (fun _ => 0))), (xba7, .inl (cI g, 64, .inl (fun _ => (-9)))), (xba8, .inl (cI g, 100, .inl (fun _ => 0))), (xba9, .inl (cI g, 100, .inl (fun _ => 0))), (xba10, .inl (cI g, 100, .inl (fun _ => 0)))] := hD
        refine lv_if_eq (tgt := 32) hx hb dX11_building_11 (by decide) (fun _ => ?_) (fun c_11 => absurd (by decide) c_11)
        refine lv_iconst (v := (-1)) hx hb dX11_building_32 (by decide) ?_
        exact rI X hK hP hD hS dX11_building_33 (by rfl) (Nat.le_of_ble_eq_true rfl) (Nat.le_of_ble_eq_true rfl) (by show _ = _; unfold sp_X11_building; rw [if_neg c_3, if_neg c_5, if_pos c_10]; try rfl)
      ·
        rw [if_neg c_10] at hw_9
        rcases Classical.em (2 < u0) with c_12 | c_12
        ·
          rw [if_pos c_12] at hw_9
          obtain ⟨e1, e2⟩ := Prod.mk.inj hw_9
          subst e1; subst e2
          have hP : va_P g.1 classes [(x0, .inr (11, [.ref xr, .ref xt, .ref xg, .ref xb, .ref xp, .ref xu, .ref xm, .ref xd, .ref xw, .ref xh, .ref xa, .ref xs, .ref xf, .int 0, .int 0, .long 0, .long 0, .int 0])), (xg, .inr (3, [.ref xgs, .ref xgh])), (xgs, .inl (cI g, 64, .inl (fun _ => 0))), (xb, .inr (1, [.ref xba0, .ref xba1, .ref xba2, .ref xba3, .ref xba4, .ref xba5, .ref xba6, .ref xba7, .ref xba8, .ref xba9, .ref xba10, .ref xba11, .int 0, .int 0])), (xba0, .inl (cI g, 32, .inl (fun _ => 0))), (xba1, .inl (cI g, 32, .inl (fun _ => 0))), (xba2, .inl (cI g, 32, .inl (fun _ => 0))), (xba4, .inl (cI g, 32, .inl (fun _ => 0))), (xba5, .inl (cI g, 32, .inl (fun _ => 0))), (xba7, .inl (cI g, 64, .inl (fun _ => (-9)))), (xba8, .inl (cI g, 100, .inl (fun _ => 0))), (xba9, .inl (cI g, 100, .inl (fun _ => 0))), (xba10, .inl (cI g, 100, .inl (fun _ => 0)))] H := hP
          have hD : va_D A [(x0, .inr (11, [.ref xr, .ref xt, .ref xg, .ref xb, .ref xp, .ref xu, .ref xm, .ref xd, .ref xw, .ref xh, .ref xa, .ref xs, .ref xf, .int 0, .int 0, .long 0, .long 0, .int 0])), (xg, .inr (3, [.ref xgs, .ref xgh])), (xgs, .inl (cI g, 64, .inl (fun _ => 0))), (xb, .inr (1, [.ref xba0, .ref xba1, .ref xba2, .ref xba3, .ref xba4, .ref xba5, .ref xba6, .ref xba7, .ref xba8, .ref xba9, .ref xba10, .ref xba11, .int 0, .int 0])), (xba0, .inl (cI g, 32, .inl (fun _ => 0))), (xba1, .inl (cI g, 32, .inl (fun _ => 0))), (xba2, .inl (cI g, 32, .inl (fun _ => 0))), (xba4, .inl (cI g, 32, .inl (fun _ => 0))), (xba5, .inl (cI g, 32, .inl (fun _ => 0))), (xba7, .inl (cI g, 64, .inl (fun _ => (-9)))), (xba8, .inl (cI g, 100, .inl (fun _ => 0))), (xba9, .inl (cI g, 100, .inl (fun _ => 0))), (xba10, .inl (cI g, 100, .inl (fun _ => 0)))] := hD
          refine lv_if_eq (tgt := 32) hx hb dX11_building_11 (by decide) (fun _ => ?_) (fun c_13 => absurd (by decide) c_13)
          refine lv_iconst (v := (-1)) hx hb dX11_building_32 (by decide) ?_
          exact rI X hK hP hD hS dX11_building_33 (by rfl) (Nat.le_of_ble_eq_true rfl) (Nat.le_of_ble_eq_true rfl) (by show _ = _; unfold sp_X11_building; rw [if_neg c_3, if_neg c_5, if_neg c_10, if_pos c_12]; try rfl)
        ·
          rw [if_neg c_12] at hw_9
          obtain ⟨e1, e2⟩ := Prod.mk.inj hw_9
          subst e1; subst e2
          have hP : va_P g.1 classes [(x0, .inr (11, [.ref xr, .ref xt, .ref xg, .ref xb, .ref xp, .ref xu, .ref xm, .ref xd, .ref xw, .ref xh, .ref xa, .ref xs, .ref xf, .int 0, .int 0, .long 0, .long 0, .int 0])), (xg, .inr (3, [.ref xgs, .ref xgh])), (xgs, .inl (cI g, 64, .inl (fun _ => 0))), (xb, .inr (1, [.ref xba0, .ref xba1, .ref xba2, .ref xba3, .ref xba4, .ref xba5, .ref xba6, .ref xba7, .ref xba8, .ref xba9, .ref xba10, .ref xba11, .int 0, .int 0])), (xba0, .inl (cI g, 32, .inl (fun _ => 0))), (xba1, .inl (cI g, 32, .inl (fun _ => 0))), (xba2, .inl (cI g, 32, .inl (fun _ => 0))), (xba4, .inl (cI g, 32, .inl (fun _ => 0))), (xba5, .inl (cI g, 32, .inl (fun _ => 0))), (xba7, .inl (cI g, 64, .inl (fun _ => (-9)))), (xba8, .inl (cI g, 100, .inl (fun _ => 0))), (xba9, .inl (cI g, 100, .inl (fun _ => 0))), (xba10, .inl (cI g, 100, .inl (fun _ => 0)))] H := hP
          have hD : va_D A [(x0, .inr (11, [.ref xr, .ref xt, .ref xg, .ref xb, .ref xp, .ref xu, .ref xm, .ref xd, .ref xw, .ref xh, .ref xa, .ref xs, .ref xf, .int 0, .int 0, .long 0, .long 0, .int 0])), (xg, .inr (3, [.ref xgs, .ref xgh])), (xgs, .inl (cI g, 64, .inl (fun _ => 0))), (xb, .inr (1, [.ref xba0, .ref xba1, .ref xba2, .ref xba3, .ref xba4, .ref xba5, .ref xba6, .ref xba7, .ref xba8, .ref xba9, .ref xba10, .ref xba11, .int 0, .int 0])), (xba0, .inl (cI g, 32, .inl (fun _ => 0))), (xba1, .inl (cI g, 32, .inl (fun _ => 0))), (xba2, .inl (cI g, 32, .inl (fun _ => 0))), (xba4, .inl (cI g, 32, .inl (fun _ => 0))), (xba5, .inl (cI g, 32, .inl (fun _ => 0))), (xba7, .inl (cI g, 64, .inl (fun _ => (-9)))), (xba8, .inl (cI g, 100, .inl (fun _ => 0))), (xba9, .inl (cI g, 100, .inl (fun _ => 0))), (xba10, .inl (cI g, 100, .inl (fun _ => 0)))] := hD
          refine lv_if_eq (tgt := 32) hx hb dX11_building_11 (by decide) (fun c_14 => absurd c_14 (by decide)) (fun _ => ?_)
          refine lv_iload_n hx hb dX11_building_14 rfl (lv_at hl 3 rfl) ?_
          refine lv_if_lt (tgt := 32) hx hb dX11_building_15 (by decide) (fun c_15 => ?_) (fun c_15 => ?_)
          ·
            refine lv_iconst (v := (-1)) hx hb dX11_building_32 (by decide) ?_
            exact rI X hK hP hD hS dX11_building_33 (by rfl) (Nat.le_of_ble_eq_true rfl) (Nat.le_of_ble_eq_true rfl) (by show _ = _; unfold sp_X11_building; rw [if_neg c_3, if_neg c_5, if_neg c_10, if_neg c_12, if_pos c_15]; try rfl)
          ·
            refine lv_iload_n hx hb dX11_building_18 rfl (lv_at hl 3 rfl) ?_
            refine lv_bipush (v := 20) hx hb dX11_building_19 (by decide) ?_
            refine lv_icmp_gt (tgt := 32) hx hb dX11_building_21 (by decide) (fun c_16 => ?_) (fun c_16 => ?_)
            ·
              refine lv_iconst (v := (-1)) hx hb dX11_building_32 (by decide) ?_
              exact rI X hK hP hD hS dX11_building_33 (by rfl) (Nat.le_of_ble_eq_true rfl) (Nat.le_of_ble_eq_true rfl) (by show _ = _; unfold sp_X11_building; rw [if_neg c_3, if_neg c_5, if_neg c_10, if_neg c_12, if_neg c_15, if_pos c_16]; try rfl)
            ·
              refine lv_iload hx hb dX11_building_24 (lv_at hl 4 rfl) ?_
              refine kSi (As := [.int v0]) (rest := []) (wr := [(x0, .inr (11, [.ref xr, .ref xt, .ref xg, .ref xb, .ref xp, .ref xu, .ref xm, .ref xd, .ref xw, .ref xh, .ref xa, .ref xs, .ref xf, .int 0, .int 0, .long 0, .long 0, .int 0])), (xg, .inr (3, [.ref xgs, .ref xgh])), (xgs, .inl (cI g, 64, .inl (fun _ => 0))), (xb, .inr (1, [.ref xba0, .ref xba1, .ref xba2, .ref xba3, .ref xba4, .ref xba5, .ref xba6, .ref xba7, .ref xba8, .ref xba9, .ref xba10, .ref xba11, .int 0, .int 0])), (xba0, .inl (cI g, 32, .inl (fun _ => 0))), (xba1, .inl (cI g, 32, .inl (fun _ => 0))), (xba2, .inl (cI g, 32, .inl (fun _ => 0))), (xba4, .inl (cI g, 32, .inl (fun _ => 0))), (xba5, .inl (cI g, 32, .inl (fun _ => 0))), (xba7, .inl (cI g, 64, .inl (fun _ => (-9)))), (xba8, .inl (cI g, 100, .inl (fun _ => 0))), (xba9, .inl (cI g, 100, .inl (fun _ => 0))), (xba10, .inl (cI g, 100, .inl (fun _ => 0)))]) X (c_X1_isWorth l g v0) ok_X1_isWorth q_640 q_639 rfl hK hP hD hS hA hZ hl.1 [] [0, 1, 2, 3, 4, 5, 6, 7, 8, 9, 10, 11, 12] rfl rfl rfl rfl rfl rfl (Nat.le_of_ble_eq_true rfl) ⟨Nat.le_of_ble_eq_true rfl, Nat.le_of_ble_eq_true rfl⟩ dX11_building_26 ⟨Nat.le_of_ble_eq_true rfl, Nat.le_of_ble_eq_true rfl⟩ (fun r_17 w1 H locs hw_18 hP hD hS => ?_)
              rw [sp_X1_isWorth] at hw_18
              rcases Classical.em (v0 < 1) with c_19 | c_19
              ·
                rw [if_pos c_19] at hw_18
                obtain ⟨e1, e2⟩ := Prod.mk.inj hw_18
                subst e1; subst e2
                have hP : va_P g.1 classes [(x0, .inr (11, [.ref xr, .ref xt, .ref xg, .ref xb, .ref xp, .ref xu, .ref xm, .ref xd, .ref xw, .ref xh, .ref xa, .ref xs, .ref xf, .int 0, .int 0, .long 0, .long 0, .int 0])), (xg, .inr (3, [.ref xgs, .ref xgh])), (xgs, .inl (cI g, 64, .inl (fun _ => 0))), (xb, .inr (1, [.ref xba0, .ref xba1, .ref xba2, .ref xba3, .ref xba4, .ref xba5, .ref xba6, .ref xba7, .ref xba8, .ref xba9, .ref xba10, .ref xba11, .int 0, .int 0])), (xba0, .inl (cI g, 32, .inl (fun _ => 0))), (xba1, .inl (cI g, 32, .inl (fun _ => 0))), (xba2, .inl (cI g, 32, .inl (fun _ => 0))), (xba4, .inl (cI g, 32, .inl (fun _ => 0))), (xba5, .inl (cI g, 32, .inl (fun _ => 0))), (xba7, .inl (cI g, 64, .inl (fun _ => (-9)))), (xba8, .inl (cI g, 100, .inl (fun _ => 0))), (xba9, .inl (cI g, 100, .inl (fun _ => 0))), (xba10, .inl (cI g, 100, .inl (fun _ => 0)))] H := hP
                have hD : va_D A [(x0, .inr (11, [.ref xr, .ref xt, .ref xg, .ref xb, .ref xp, .ref xu, .ref xm, .ref xd, .ref xw, .ref xh, .ref xa, .ref xs, .ref xf, .int 0, .int 0, .long 0, .long 0, .int 0])), (xg, .inr (3, [.ref xgs, .ref xgh])), (xgs, .inl (cI g, 64, .inl (fun _ => 0))), (xb, .inr (1, [.ref xba0, .ref xba1, .ref xba2, .ref xba3, .ref xba4, .ref xba5, .ref xba6, .ref xba7, .ref xba8, .ref xba9, .ref xba10, .ref xba11, .int 0, .int 0])), (xba0, .inl (cI g, 32, .inl (fun _ => 0))), (xba1, .inl (cI g, 32, .inl (fun _ => 0))), (xba2, .inl (cI g, 32, .inl (fun _ => 0))), (xba4, .inl (cI g, 32, .inl (fun _ => 0))), (xba5, .inl (cI g, 32, .inl (fun _ => 0))), (xba7, .inl (cI g, 64, .inl (fun _ => (-9)))), (xba8, .inl (cI g, 100, .inl (fun _ => 0))), (xba9, .inl (cI g, 100, .inl (fun _ => 0))), (xba10, .inl (cI g, 100, .inl (fun _ => 0)))] := hD
                refine lv_if_ne (tgt := 34) hx hb dX11_building_29 (by decide) (fun c_20 => absurd (by decide) c_20) (fun _ => ?_)
                refine lv_iconst (v := (-1)) hx hb dX11_building_32 (by decide) ?_
                exact rI X hK hP hD hS dX11_building_33 (by rfl) (Nat.le_of_ble_eq_true rfl) (Nat.le_of_ble_eq_true rfl) (by show _ = _; unfold sp_X11_building; rw [if_neg c_3, if_neg c_5, if_neg c_10, if_neg c_12, if_neg c_15, if_neg c_16, if_pos c_19]; try rfl)
              ·
                rw [if_neg c_19] at hw_18
                rcases Classical.em (100000 < v0) with c_21 | c_21
                ·
                  rw [if_pos c_21] at hw_18
                  obtain ⟨e1, e2⟩ := Prod.mk.inj hw_18
                  subst e1; subst e2
                  have hP : va_P g.1 classes [(x0, .inr (11, [.ref xr, .ref xt, .ref xg, .ref xb, .ref xp, .ref xu, .ref xm, .ref xd, .ref xw, .ref xh, .ref xa, .ref xs, .ref xf, .int 0, .int 0, .long 0, .long 0, .int 0])), (xg, .inr (3, [.ref xgs, .ref xgh])), (xgs, .inl (cI g, 64, .inl (fun _ => 0))), (xb, .inr (1, [.ref xba0, .ref xba1, .ref xba2, .ref xba3, .ref xba4, .ref xba5, .ref xba6, .ref xba7, .ref xba8, .ref xba9, .ref xba10, .ref xba11, .int 0, .int 0])), (xba0, .inl (cI g, 32, .inl (fun _ => 0))), (xba1, .inl (cI g, 32, .inl (fun _ => 0))), (xba2, .inl (cI g, 32, .inl (fun _ => 0))), (xba4, .inl (cI g, 32, .inl (fun _ => 0))), (xba5, .inl (cI g, 32, .inl (fun _ => 0))), (xba7, .inl (cI g, 64, .inl (fun _ => (-9)))), (xba8, .inl (cI g, 100, .inl (fun _ => 0))), (xba9, .inl (cI g, 100, .inl (fun _ => 0))), (xba10, .inl (cI g, 100, .inl (fun _ => 0)))] H := hP
                  have hD : va_D A [(x0, .inr (11, [.ref xr, .ref xt, .ref xg, .ref xb, .ref xp, .ref xu, .ref xm, .ref xd, .ref xw, .ref xh, .ref xa, .ref xs, .ref xf, .int 0, .int 0, .long 0, .long 0, .int 0])), (xg, .inr (3, [.ref xgs, .ref xgh])), (xgs, .inl (cI g, 64, .inl (fun _ => 0))), (xb, .inr (1, [.ref xba0, .ref xba1, .ref xba2, .ref xba3, .ref xba4, .ref xba5, .ref xba6, .ref xba7, .ref xba8, .ref xba9, .ref xba10, .ref xba11, .int 0, .int 0])), (xba0, .inl (cI g, 32, .inl (fun _ => 0))), (xba1, .inl (cI g, 32, .inl (fun _ => 0))), (xba2, .inl (cI g, 32, .inl (fun _ => 0))), (xba4, .inl (cI g, 32, .inl (fun _ => 0))), (xba5, .inl (cI g, 32, .inl (fun _ => 0))), (xba7, .inl (cI g, 64, .inl (fun _ => (-9)))), (xba8, .inl (cI g, 100, .inl (fun _ => 0))), (xba9, .inl (cI g, 100, .inl (fun _ => 0))), (xba10, .inl (cI g, 100, .inl (fun _ => 0)))] := hD
                  refine lv_if_ne (tgt := 34) hx hb dX11_building_29 (by decide) (fun c_22 => absurd (by decide) c_22) (fun _ => ?_)
                  refine lv_iconst (v := (-1)) hx hb dX11_building_32 (by decide) ?_
                  exact rI X hK hP hD hS dX11_building_33 (by rfl) (Nat.le_of_ble_eq_true rfl) (Nat.le_of_ble_eq_true rfl) (by show _ = _; unfold sp_X11_building; rw [if_neg c_3, if_neg c_5, if_neg c_10, if_neg c_12, if_neg c_15, if_neg c_16, if_neg c_19, if_pos c_21]; try rfl)
                ·
                  rw [if_neg c_21] at hw_18
                  obtain ⟨e1, e2⟩ := Prod.mk.inj hw_18
                  subst e1; subst e2
                  have hP : va_P g.1 classes [(x0, .inr (11, [.ref xr, .ref xt, .ref xg, .ref xb, .ref xp, .ref xu, .ref xm, .ref xd, .ref xw, .ref xh, .ref xa, .ref xs, .ref xf, .int 0, .int 0, .long 0, .long 0, .int 0])), (xg, .inr (3, [.ref xgs, .ref xgh])), (xgs, .inl (cI g, 64, .inl (fun _ => 0))), (xb, .inr (1, [.ref xba0, .ref xba1, .ref xba2, .ref xba3, .ref xba4, .ref xba5, .ref xba6, .ref xba7, .ref xba8, .ref xba9, .ref xba10, .ref xba11, .int 0, .int 0])), (xba0, .inl (cI g, 32, .inl (fun _ => 0))), (xba1, .inl (cI g, 32, .inl (fun _ => 0))), (xba2, .inl (cI g, 32, .inl (fun _ => 0))), (xba4, .inl (cI g, 32, .inl (fun _ => 0))), (xba5, .inl (cI g, 32, .inl (fun _ => 0))), (xba7, .inl (cI g, 64, .inl (fun _ => (-9)))), (xba8, .inl (cI g, 100, .inl (fun _ => 0))), (xba9, .inl (cI g, 100, .inl (fun _ => 0))), (xba10, .inl (cI g, 100, .inl (fun _ => 0)))] H := hP
                  have hD : va_D A [(x0, .inr (11, [.ref xr, .ref xt, .ref xg, .ref xb, .ref xp, .ref xu, .ref xm, .ref xd, .ref xw, .ref xh, .ref xa, .ref xs, .ref xf, .int 0, .int 0, .long 0, .long 0, .int 0])), (xg, .inr (3, [.ref xgs, .ref xgh])), (xgs, .inl (cI g, 64, .inl (fun _ => 0))), (xb, .inr (1, [.ref xba0, .ref xba1, .ref xba2, .ref xba3, .ref xba4, .ref xba5, .ref xba6, .ref xba7, .ref xba8, .ref xba9, .ref xba10, .ref xba11, .int 0, .int 0])), (xba0, .inl (cI g, 32, .inl (fun _ => 0))), (xba1, .inl (cI g, 32, .inl (fun _ => 0))), (xba2, .inl (cI g, 32, .inl (fun _ => 0))), (xba4, .inl (cI g, 32, .inl (fun _ => 0))), (xba5, .inl (cI g, 32, .inl (fun _ => 0))), (xba7, .inl (cI g, 64, .inl (fun _ => (-9)))), (xba8, .inl (cI g, 100, .inl (fun _ => 0))), (xba9, .inl (cI g, 100, .inl (fun _ => 0))), (xba10, .inl (cI g, 100, .inl (fun _ => 0)))] := hD
                  refine lv_if_ne (tgt := 34) hx hb dX11_building_29 (by decide) (fun _ => ?_) (fun c_23 => absurd c_23 (by decide))
                  refine lv_aload_n hx hb dX11_building_34 rfl (lv_at hl 0 rfl) ?_
                  refine va_get (D := g.1) (ci := 11) (v := .ref xb) (C := RX11) (T := TX11) (N := 18) hx hb hts fw_X11 hown hK hP 0 rfl rfl 3 (by decide) (hts _ q_461) (fun _ h9 => h9) rfl dX11_building_35 ?_
                  refine kVi (As := []) (rest := []) (wr := [(x0, .inr (11, [.ref xr, .ref xt, .ref xg, .ref xb, .ref xp, .ref xu, .ref xm, .ref xd, .ref xw, .ref xh, .ref xa, .ref xs, .ref xf, .int 0, .int 0, .long 0, .long 0, .int 0])), (xg, .inr (3, [.ref xgs, .ref xgh])), (xgs, .inl (cI g, 64, .inl (fun _ => 0))), (xba0, .inl (cI g, 32, .inl (fun _ => 0))), (xba1, .inl (cI g, 32, .inl (fun _ => 0))), (xba2, .inl (cI g, 32, .inl (fun _ => 0))), (xba4, .inl (cI g, 32, .inl (fun _ => 0))), (xba5, .inl (cI g, 32, .inl (fun _ => 0))), (xba7, .inl (cI g, 64, .inl (fun _ => (-9)))), (xba8, .inl (cI g, 100, .inl (fun _ => 0))), (xba9, .inl (cI g, 100, .inl (fun _ => 0))), (xba10, .inl (cI g, 100, .inl (fun _ => 0)))]) X (c_X1_number l g xb xba0 xba1 xba2 xba3 xba4 xba5 xba6 xba7 xba8 xba9 xba10 xba11) ok_X1_number okv_X1_number q_643 rfl hK hP hD hS hA hZ hl.1 [3] [0, 1, 2, 4, 5, 6, 7, 8, 9, 10, 11, 12] rfl rfl rfl rfl rfl 0 1 rfl rfl rfl (Nat.le_of_ble_eq_true rfl) ⟨Nat.le_of_ble_eq_true rfl, Nat.le_of_ble_eq_true rfl⟩ dX11_building_38 ⟨Nat.le_of_ble_eq_true rfl, Nat.le_of_ble_eq_true rfl⟩ (fun r_24 w1 H locs hw_25 hP hD hS => ?_)
                  rw [sp_X1_number] at hw_25
                  obtain ⟨e1, e2⟩ := Prod.mk.inj hw_25
                  subst e1; subst e2
                  have hP : va_P g.1 classes [(x0, .inr (11, [.ref xr, .ref xt, .ref xg, .ref xb, .ref xp, .ref xu, .ref xm, .ref xd, .ref xw, .ref xh, .ref xa, .ref xs, .ref xf, .int 0, .int 0, .long 0, .long 0, .int 0])), (xg, .inr (3, [.ref xgs, .ref xgh])), (xgs, .inl (cI g, 64, .inl (fun _ => 0))), (xba0, .inl (cI g, 32, .inl (fun _ => 0))), (xba1, .inl (cI g, 32, .inl (fun _ => 0))), (xba2, .inl (cI g, 32, .inl (fun _ => 0))), (xba4, .inl (cI g, 32, .inl (fun _ => 0))), (xba5, .inl (cI g, 32, .inl (fun _ => 0))), (xba7, .inl (cI g, 64, .inl (fun _ => (-9)))), (xba8, .inl (cI g, 100, .inl (fun _ => 0))), (xba9, .inl (cI g, 100, .inl (fun _ => 0))), (xba10, .inl (cI g, 100, .inl (fun _ => 0))), (xb, .inr (1, [.ref xba0, .ref xba1, .ref xba2, .ref xba3, .ref xba4, .ref xba5, .ref xba6, .ref xba7, .ref xba8, .ref xba9, .ref xba10, .ref xba11, .int 0, .int 0]))] H := hP
                  have hD : va_D A [(x0, .inr (11, [.ref xr, .ref xt, .ref xg, .ref xb, .ref xp, .ref xu, .ref xm, .ref xd, .ref xw, .ref xh, .ref xa, .ref xs, .ref xf, .int 0, .int 0, .long 0, .long 0, .int 0])), (xg, .inr (3, [.ref xgs, .ref xgh])), (xgs, .inl (cI g, 64, .inl (fun _ => 0))), (xba0, .inl (cI g, 32, .inl (fun _ => 0))), (xba1, .inl (cI g, 32, .inl (fun _ => 0))), (xba2, .inl (cI g, 32, .inl (fun _ => 0))), (xba4, .inl (cI g, 32, .inl (fun _ => 0))), (xba5, .inl (cI g, 32, .inl (fun _ => 0))), (xba7, .inl (cI g, 64, .inl (fun _ => (-9)))), (xba8, .inl (cI g, 100, .inl (fun _ => 0))), (xba9, .inl (cI g, 100, .inl (fun _ => 0))), (xba10, .inl (cI g, 100, .inl (fun _ => 0))), (xb, .inr (1, [.ref xba0, .ref xba1, .ref xba2, .ref xba3, .ref xba4, .ref xba5, .ref xba6, .ref xba7, .ref xba8, .ref xba9, .ref xba10, .ref xba11, .int 0, .int 0]))] := hD
                  refine lv_bipush (v := 32) hx hb dX11_building_41 (by decide) ?_
                  refine lv_icmp_ge (tgt := 57) hx hb dX11_building_43 (by decide) (fun c_26 => absurd c_26 (by decide)) (fun _ => ?_)
                  refine lv_aload_n hx hb dX11_building_46 rfl (lv_at hl 0 rfl) ?_
                  refine va_get (D := g.1) (ci := 11) (v := .ref xb) (C := RX11) (T := TX11) (N := 18) hx hb hts fw_X11 hown hK hP 0 rfl rfl 3 (by decide) (hts _ q_461) (fun _ h9 => h9) rfl dX11_building_47 ?_
                  refine kVi (As := []) (rest := []) (wr := [(x0, .inr (11, [.ref xr, .ref xt, .ref xg, .ref xb, .ref xp, .ref xu, .ref xm, .ref xd, .ref xw, .ref xh, .ref xa, .ref xs, .ref xf, .int 0, .int 0, .long 0, .long 0, .int 0])), (xg, .inr (3, [.ref xgs, .ref xgh])), (xgs, .inl (cI g, 64, .inl (fun _ => 0))), (xba0, .inl (cI g, 32, .inl (fun _ => 0))), (xba1, .inl (cI g, 32, .inl (fun _ => 0))), (xba2, .inl (cI g, 32, .inl (fun _ => 0))), (xba4, .inl (cI g, 32, .inl (fun _ => 0))), (xba5, .inl (cI g, 32, .inl (fun _ => 0))), (xba7, .inl (cI g, 64, .inl (fun _ => (-9)))), (xba8, .inl (cI g, 100, .inl (fun _ => 0))), (xba9, .inl (cI g, 100, .inl (fun _ => 0))), (xba10, .inl (cI g, 100, .inl (fun _ => 0)))]) X (c_X1_tellingsLeft l g xb xba0 xba1 xba2 xba3 xba4 xba5 xba6 xba7 xba8 xba9 xba10 xba11) ok_X1_tellingsLeft okv_X1_tellingsLeft q_647 rfl hK hP hD hS hA hZ hl.1 [12] [0, 1, 2, 3, 4, 5, 6, 7, 8, 9, 10, 11] rfl rfl rfl rfl rfl 0 1 rfl rfl rfl (Nat.le_of_ble_eq_true rfl) ⟨Nat.le_of_ble_eq_true rfl, Nat.le_of_ble_eq_true rfl⟩ dX11_building_50 ⟨Nat.le_of_ble_eq_true rfl, Nat.le_of_ble_eq_true rfl⟩ (fun r_27 w1 H locs hw_28 hP hD hS => ?_)
                  rw [sp_X1_tellingsLeft] at hw_28
                  obtain ⟨e1, e2⟩ := Prod.mk.inj hw_28
                  subst e1; subst e2
                  have hP : va_P g.1 classes [(x0, .inr (11, [.ref xr, .ref xt, .ref xg, .ref xb, .ref xp, .ref xu, .ref xm, .ref xd, .ref xw, .ref xh, .ref xa, .ref xs, .ref xf, .int 0, .int 0, .long 0, .long 0, .int 0])), (xg, .inr (3, [.ref xgs, .ref xgh])), (xgs, .inl (cI g, 64, .inl (fun _ => 0))), (xba0, .inl (cI g, 32, .inl (fun _ => 0))), (xba1, .inl (cI g, 32, .inl (fun _ => 0))), (xba2, .inl (cI g, 32, .inl (fun _ => 0))), (xba4, .inl (cI g, 32, .inl (fun _ => 0))), (xba5, .inl (cI g, 32, .inl (fun _ => 0))), (xba7, .inl (cI g, 64, .inl (fun _ => (-9)))), (xba8, .inl (cI g, 100, .inl (fun _ => 0))), (xba9, .inl (cI g, 100, .inl (fun _ => 0))), (xba10, .inl (cI g, 100, .inl (fun _ => 0))), (xb, .inr (1, [.ref xba0, .ref xba1, .ref xba2, .ref xba3, .ref xba4, .ref xba5, .ref xba6, .ref xba7, .ref xba8, .ref xba9, .ref xba10, .ref xba11, .int 0, .int 0]))] H := hP
                  have hD : va_D A [(x0, .inr (11, [.ref xr, .ref xt, .ref xg, .ref xb, .ref xp, .ref xu, .ref xm, .ref xd, .ref xw, .ref xh, .ref xa, .ref xs, .ref xf, .int 0, .int 0, .long 0, .long 0, .int 0])), (xg, .inr (3, [.ref xgs, .ref xgh])), (xgs, .inl (cI g, 64, .inl (fun _ => 0))), (xba0, .inl (cI g, 32, .inl (fun _ => 0))), (xba1, .inl (cI g, 32, .inl (fun _ => 0))), (xba2, .inl (cI g, 32, .inl (fun _ => 0))), (xba4, .inl (cI g, 32, .inl (fun _ => 0))), (xba5, .inl (cI g, 32, .inl (fun _ => 0))), (xba7, .inl (cI g, 64, .inl (fun _ => (-9)))), (xba8, .inl (cI g, 100, .inl (fun _ => 0))), (xba9, .inl (cI g, 100, .inl (fun _ => 0))), (xba10, .inl (cI g, 100, .inl (fun _ => 0))), (xb, .inr (1, [.ref xba0, .ref xba1, .ref xba2, .ref xba3, .ref xba4, .ref xba5, .ref xba6, .ref xba7, .ref xba8, .ref xba9, .ref xba10, .ref xba11, .int 0, .int 0]))] := hD
                  refine lv_iconst (v := 1) hx hb dX11_building_53 (by decide) ?_
                  refine lv_icmp_ge (tgt := 60) hx hb dX11_building_54 (by decide) (fun _ => ?_) (fun c_29 => absurd (by decide) c_29)
                  refine lv_aload_n hx hb dX11_building_60 rfl (lv_at hl 0 rfl) ?_
                  refine va_get (D := g.1) (ci := 11) (v := .ref xg) (C := RX11) (T := TX11) (N := 18) hx hb hts fw_X11 hown hK hP 0 rfl rfl 2 (by decide) (hts _ q_460) (fun _ h9 => h9) rfl dX11_building_61 ?_
                  refine lv_iload_n hx hb dX11_building_64 rfl (lv_at hl 1 rfl) ?_
                  refine kVi (As := [.int c0]) (rest := []) (wr := [(x0, .inr (11, [.ref xr, .ref xt, .ref xg, .ref xb, .ref xp, .ref xu, .ref xm, .ref xd, .ref xw, .ref xh, .ref xa, .ref xs, .ref xf, .int 0, .int 0, .long 0, .long 0, .int 0])), (xba0, .inl (cI g, 32, .inl (fun _ => 0))), (xba1, .inl (cI g, 32, .inl (fun _ => 0))), (xba2, .inl (cI g, 32, .inl (fun _ => 0))), (xba4, .inl (cI g, 32, .inl (fun _ => 0))), (xba5, .inl (cI g, 32, .inl (fun _ => 0))), (xba7, .inl (cI g, 64, .inl (fun _ => (-9)))), (xba8, .inl (cI g, 100, .inl (fun _ => 0))), (xba9, .inl (cI g, 100, .inl (fun _ => 0))), (xba10, .inl (cI g, 100, .inl (fun _ => 0))), (xb, .inr (1, [.ref xba0, .ref xba1, .ref xba2, .ref xba3, .ref xba4, .ref xba5, .ref xba6, .ref xba7, .ref xba8, .ref xba9, .ref xba10, .ref xba11, .int 0, .int 0]))]) X (c_X3_isWater l g xg c0 xgs xgh c_3 c_5) ok_X3_isWater okv_X3_isWater q_651 rfl hK hP hD hS hA hZ hl.1 [1, 2] [0, 3, 4, 5, 6, 7, 8, 9, 10, 11, 12] rfl rfl rfl rfl rfl 0 3 rfl rfl rfl (Nat.le_of_ble_eq_true rfl) ⟨Nat.le_of_ble_eq_true rfl, Nat.le_of_ble_eq_true rfl⟩ dX11_building_65 ⟨Nat.le_of_ble_eq_true rfl, Nat.le_of_ble_eq_true rfl⟩ (fun r_30 w1 H locs hw_31 hP hD hS => ?_)
                  rw [sp_X3_isWater] at hw_31
                  obtain ⟨e1, e2⟩ := Prod.mk.inj hw_31
                  subst e1; subst e2
                  have hP : va_P g.1 classes [(x0, .inr (11, [.ref xr, .ref xt, .ref xg, .ref xb, .ref xp, .ref xu, .ref xm, .ref xd, .ref xw, .ref xh, .ref xa, .ref xs, .ref xf, .int 0, .int 0, .long 0, .long 0, .int 0])), (xba0, .inl (cI g, 32, .inl (fun _ => 0))), (xba1, .inl (cI g, 32, .inl (fun _ => 0))), (xba2, .inl (cI g, 32, .inl (fun _ => 0))), (xba4, .inl (cI g, 32, .inl (fun _ => 0))), (xba5, .inl (cI g, 32, .inl (fun _ => 0))), (xba7, .inl (cI g, 64, .inl (fun _ => (-9)))), (xba8, .inl (cI g, 100, .inl (fun _ => 0))), (xba9, .inl (cI g, 100, .inl (fun _ => 0))), (xba10, .inl (cI g, 100, .inl (fun _ => 0))), (xb, .inr (1, [.ref xba0, .ref xba1, .ref xba2, .ref xba3, .ref xba4, .ref xba5, .ref xba6, .ref xba7, .ref xba8, .ref xba9, .ref xba10, .ref xba11, .int 0, .int 0])), (xg, .inr (3, [.ref xgs, .ref xgh])), (xgs, .inl (cI g, 64, .inl (fun _ => 0)))] H := hP
                  have hD : va_D A [(x0, .inr (11, [.ref xr, .ref xt, .ref xg, .ref xb, .ref xp, .ref xu, .ref xm, .ref xd, .ref xw, .ref xh, .ref xa, .ref xs, .ref xf, .int 0, .int 0, .long 0, .long 0, .int 0])), (xba0, .inl (cI g, 32, .inl (fun _ => 0))), (xba1, .inl (cI g, 32, .inl (fun _ => 0))), (xba2, .inl (cI g, 32, .inl (fun _ => 0))), (xba4, .inl (cI g, 32, .inl (fun _ => 0))), (xba5, .inl (cI g, 32, .inl (fun _ => 0))), (xba7, .inl (cI g, 64, .inl (fun _ => (-9)))), (xba8, .inl (cI g, 100, .inl (fun _ => 0))), (xba9, .inl (cI g, 100, .inl (fun _ => 0))), (xba10, .inl (cI g, 100, .inl (fun _ => 0))), (xb, .inr (1, [.ref xba0, .ref xba1, .ref xba2, .ref xba3, .ref xba4, .ref xba5, .ref xba6, .ref xba7, .ref xba8, .ref xba9, .ref xba10, .ref xba11, .int 0, .int 0])), (xg, .inr (3, [.ref xgs, .ref xgh])), (xgs, .inl (cI g, 64, .inl (fun _ => 0)))] := hD
                  refine lv_if_ne (tgt := 84) hx hb dX11_building_68 (by decide) (fun c_32 => absurd (by decide) c_32) (fun _ => ?_)
                  refine lv_aload_n hx hb dX11_building_71 rfl (lv_at hl 0 rfl) ?_
                  refine va_get (D := g.1) (ci := 11) (v := .ref xb) (C := RX11) (T := TX11) (N := 18) hx hb hts fw_X11 hown hK hP 0 rfl rfl 3 (by decide) (hts _ q_461) (fun _ h9 => h9) rfl dX11_building_72 ?_
                  refine lv_iload_n hx hb dX11_building_75 rfl (lv_at hl 1 rfl) ?_
                  refine kVi (As := [.int c0]) (rest := []) (wr := [(x0, .inr (11, [.ref xr, .ref xt, .ref xg, .ref xb, .ref xp, .ref xu, .ref xm, .ref xd, .ref xw, .ref xh, .ref xa, .ref xs, .ref xf, .int 0, .int 0, .long 0, .long 0, .int 0])), (xba0, .inl (cI g, 32, .inl (fun _ => 0))), (xba1, .inl (cI g, 32, .inl (fun _ => 0))), (xba2, .inl (cI g, 32, .inl (fun _ => 0))), (xba4, .inl (cI g, 32, .inl (fun _ => 0))), (xba5, .inl (cI g, 32, .inl (fun _ => 0))), (xba8, .inl (cI g, 100, .inl (fun _ => 0))), (xba9, .inl (cI g, 100, .inl (fun _ => 0))), (xba10, .inl (cI g, 100, .inl (fun _ => 0))), (xg, .inr (3, [.ref xgs, .ref xgh])), (xgs, .inl (cI g, 64, .inl (fun _ => 0)))]) X (c_X1_standingOn l g xb c0 xba0 xba1 xba2 xba3 xba4 xba5 xba6 xba7 xba8 xba9 xba10 xba11 c_3 c_5) ok_X1_standingOn okv_X1_standingOn q_624 rfl hK hP hD hS hA hZ hl.1 [10, 6] [0, 1, 2, 3, 4, 5, 7, 8, 9, 11, 12] rfl rfl rfl rfl rfl 0 1 rfl rfl rfl (Nat.le_of_ble_eq_true rfl) ⟨Nat.le_of_ble_eq_true rfl, Nat.le_of_ble_eq_true rfl⟩ dX11_building_76 ⟨Nat.le_of_ble_eq_true rfl, Nat.le_of_ble_eq_true rfl⟩ (fun r_33 w1 H locs hw_34 hP hD hS => ?_)
                  rw [sp_X1_standingOn] at hw_34
                  obtain ⟨e1, e2⟩ := Prod.mk.inj hw_34
                  subst e1; subst e2
                  have hP : va_P g.1 classes [(x0, .inr (11, [.ref xr, .ref xt, .ref xg, .ref xb, .ref xp, .ref xu, .ref xm, .ref xd, .ref xw, .ref xh, .ref xa, .ref xs, .ref xf, .int 0, .int 0, .long 0, .long 0, .int 0])), (xba0, .inl (cI g, 32, .inl (fun _ => 0))), (xba1, .inl (cI g, 32, .inl (fun _ => 0))), (xba2, .inl (cI g, 32, .inl (fun _ => 0))), (xba4, .inl (cI g, 32, .inl (fun _ => 0))), (xba5, .inl (cI g, 32, .inl (fun _ => 0))), (xba8, .inl (cI g, 100, .inl (fun _ => 0))), (xba9, .inl (cI g, 100, .inl (fun _ => 0))), (xba10, .inl (cI g, 100, .inl (fun _ => 0))), (xg, .inr (3, [.ref xgs, .ref xgh])), (xgs, .inl (cI g, 64, .inl (fun _ => 0))), (xb, .inr (1, [.ref xba0, .ref xba1, .ref xba2, .ref xba3, .ref xba4, .ref xba5, .ref xba6, .ref xba7, .ref xba8, .ref xba9, .ref xba10, .ref xba11, .int 0, .int 0])), (xba7, .inl (cI g, 64, .inl (fun _ => (-9))))] H := hP
                  have hD : va_D A [(x0, .inr (11, [.ref xr, .ref xt, .ref xg, .ref xb, .ref xp, .ref xu, .ref xm, .ref xd, .ref xw, .ref xh, .ref xa, .ref xs, .ref xf, .int 0, .int 0, .long 0, .long 0, .int 0])), (xba0, .inl (cI g, 32, .inl (fun _ => 0))), (xba1, .inl (cI g, 32, .inl (fun _ => 0))), (xba2, .inl (cI g, 32, .inl (fun _ => 0))), (xba4, .inl (cI g, 32, .inl (fun _ => 0))), (xba5, .inl (cI g, 32, .inl (fun _ => 0))), (xba8, .inl (cI g, 100, .inl (fun _ => 0))), (xba9, .inl (cI g, 100, .inl (fun _ => 0))), (xba10, .inl (cI g, 100, .inl (fun _ => 0))), (xg, .inr (3, [.ref xgs, .ref xgh])), (xgs, .inl (cI g, 64, .inl (fun _ => 0))), (xb, .inr (1, [.ref xba0, .ref xba1, .ref xba2, .ref xba3, .ref xba4, .ref xba5, .ref xba6, .ref xba7, .ref xba8, .ref xba9, .ref xba10, .ref xba11, .int 0, .int 0])), (xba7, .inl (cI g, 64, .inl (fun _ => (-9))))] := hD
                  refine lv_bipush (v := (-9)) hx hb dX11_building_79 (by decide) ?_
                  refine lv_icmp_eq (tgt := 87) hx hb dX11_building_81 (by decide) (fun _ => ?_) (fun c_35 => absurd (by decide) c_35)
                  refine lv_aload_n hx hb dX11_building_87 rfl (lv_at hl 0 rfl) ?_
                  refine va_get (D := g.1) (ci := 11) (v := .ref xb) (C := RX11) (T := TX11) (N := 18) hx hb hts fw_X11 hown hK hP 0 rfl rfl 3 (by decide) (hts _ q_461) (fun _ h9 => h9) rfl dX11_building_88 ?_
                  refine lv_iload_n hx hb dX11_building_91 rfl (lv_at hl 1 rfl) ?_
                  refine lv_iload_n hx hb dX11_building_92 rfl (lv_at hl 2 rfl) ?_
                  refine lv_iload_n hx hb dX11_building_93 rfl (lv_at hl 3 rfl) ?_
                  refine lv_iload hx hb dX11_building_94 (lv_at hl 4 rfl) ?_
                  refine lv_aload_n hx hb dX11_building_96 rfl (lv_at hl 0 rfl) ?_
                  refine va_get (D := g.1) (ci := 11) (v := .int 0) (C := RX11) (T := TX11) (N := 18) hx hb hts fw_X11 hown hK hP 0 rfl rfl 13 (by decide) (hts _ q_471) (fun _ h9 => h9) rfl dX11_building_97 ?_
                  refine kVi (As := [.int c0, .int u0, .int o0, .int v0, .int 0]) (rest := []) (wr := [(x0, .inr (11, [.ref xr, .ref xt, .ref xg, .ref xb, .ref xp, .ref xu, .ref xm, .ref xd, .ref xw, .ref xh, .ref xa, .ref xs, .ref xf, .int 0, .int 0, .long 0, .long 0, .int 0])), (xg, .inr (3, [.ref xgs, .ref xgh])), (xgs, .inl (cI g, 64, .inl (fun _ => 0)))]) X (c_X1_add l g xb c0 u0 o0 v0 xba0 xba1 xba2 xba3 xba4 xba5 xba6 xba7 xba8 xba9 xba10 xba11 c_3 c_5) ok_X1_add okv_X1_add q_655 rfl hK hP hD hS hA hZ hl.1 [11, 1, 2, 3, 4, 5, 12, 6, 7, 8] [0, 9, 10] rfl rfl rfl rfl rfl 0 1 rfl rfl rfl (Nat.le_of_ble_eq_true rfl) ⟨Nat.le_of_ble_eq_true rfl, Nat.le_of_ble_eq_true rfl⟩ dX11_building_100 ⟨Nat.le_of_ble_eq_true rfl, Nat.le_of_ble_eq_true rfl⟩ (fun r_36 w1 H locs hw_37 hP hD hS => ?_)
                  rw [sp_X1_add] at hw_37
                  obtain ⟨e1, e2⟩ := Prod.mk.inj hw_37
                  subst e1; subst e2
                  have hP : va_P g.1 classes [(x0, .inr (11, [.ref xr, .ref xt, .ref xg, .ref xb, .ref xp, .ref xu, .ref xm, .ref xd, .ref xw, .ref xh, .ref xa, .ref xs, .ref xf, .int 0, .int 0, .long 0, .long 0, .int 0])), (xg, .inr (3, [.ref xgs, .ref xgh])), (xgs, .inl (cI g, 64, .inl (fun _ => 0))), (xba0, .inl (cI g, 32, .inl (upd (fun _ => 0) 0 c0))), (xba1, .inl (cI g, 32, .inl (upd (fun _ => 0) 0 u0))), (xba2, .inl (cI g, 32, .inl (upd (fun _ => 0) 0 o0))), (xba4, .inl (cI g, 32, .inl (upd (fun _ => 0) 0 (-9)))), (xba7, .inl (cI g, 64, .inl (upd (fun _ => (-9)) (c0).toNatClampNeg 0))), (xb, .inr (1, [.ref xba0, .ref xba1, .ref xba2, .ref xba3, .ref xba4, .ref xba5, .ref xba6, .ref xba7, .ref xba8, .ref xba9, .ref xba10, .ref xba11, .int 1, .int 1])), (xba5, .inl (cI g, 32, .inl (upd (fun _ => 0) 0 v0))), (xba8, .inl (cI g, 100, .inl (upd (fun _ => 0) 0 0))), (xba9, .inl (cI g, 100, .inl (upd (fun _ => 0) 0 0))), (xba10, .inl (cI g, 100, .inl (upd (fun _ => 0) 0 v0)))] H := hP
                  have hD : va_D A [(x0, .inr (11, [.ref xr, .ref xt, .ref xg, .ref xb, .ref xp, .ref xu, .ref xm, .ref xd, .ref xw, .ref xh, .ref xa, .ref xs, .ref xf, .int 0, .int 0, .long 0, .long 0, .int 0])), (xg, .inr (3, [.ref xgs, .ref xgh])), (xgs, .inl (cI g, 64, .inl (fun _ => 0))), (xba0, .inl (cI g, 32, .inl (upd (fun _ => 0) 0 c0))), (xba1, .inl (cI g, 32, .inl (upd (fun _ => 0) 0 u0))), (xba2, .inl (cI g, 32, .inl (upd (fun _ => 0) 0 o0))), (xba4, .inl (cI g, 32, .inl (upd (fun _ => 0) 0 (-9)))), (xba7, .inl (cI g, 64, .inl (upd (fun _ => (-9)) (c0).toNatClampNeg 0))), (xb, .inr (1, [.ref xba0, .ref xba1, .ref xba2, .ref xba3, .ref xba4, .ref xba5, .ref xba6, .ref xba7, .ref xba8, .ref xba9, .ref xba10, .ref xba11, .int 1, .int 1])), (xba5, .inl (cI g, 32, .inl (upd (fun _ => 0) 0 v0))), (xba8, .inl (cI g, 100, .inl (upd (fun _ => 0) 0 0))), (xba9, .inl (cI g, 100, .inl (upd (fun _ => 0) 0 0))), (xba10, .inl (cI g, 100, .inl (upd (fun _ => 0) 0 v0)))] := hD
                  exact rI X hK hP hD hS dX11_building_103 (by rfl) (Nat.le_of_ble_eq_true rfl) (Nat.le_of_ble_eq_true rfl) (by show _ = _; unfold sp_X11_building; rw [if_neg c_3, if_neg c_5, if_neg c_10, if_neg c_12, if_neg c_15, if_neg c_16, if_neg c_19, if_neg c_21]; try rfl)
def sp_X11_worth (g : GG) (x0 : Nat) (b0 : Int32) (b1 : Int32) (xr : Nat) (xt : Nat) (xg : Nat) (xb : Nat) (xp : Nat) (xu : Nat) (xm : Nat) (xd : Nat) (xw : Nat) (xh : Nat) (xa : Nat) (xs : Nat) (xf : Nat) (xba0 : Nat) (xba1 : Nat) (xba2 : Nat) (xba3 : Nat) (xba4 : Nat) (xba5 : Nat) (xba6 : Nat) (xba7 : Nat) (xba8 : Nat) (xba9 : Nat) (xba10 : Nat) (xba11 : Nat) : Int32 := if b0 < 0 then (-1) else (-1)
set_option maxHeartbeats 4000000 in
set_option maxRecDepth 100000 in
theorem c_X11_worth (l : Launch) (g : GG) (x0 : Nat) (b0 : Int32) (b1 : Int32) (xr : Nat) (xt : Nat) (xg : Nat) (xb : Nat) (xp : Nat) (xu : Nat) (xm : Nat) (xd : Nat) (xw : Nat) (xh : Nat) (xa : Nat) (xs : Nat) (xf : Nat) (xba0 : Nat) (xba1 : Nat) (xba2 : Nat) (xba3 : Nat) (xba4 : Nat) (xba5 : Nat) (xba6 : Nat) (xba7 : Nat) (xba8 : Nat) (xba9 : Nat) (xba10 : Nat) (xba11 : Nat) : MI l g yX11_worth cX11_worth 4 (some .int) 1 21 0 0 [(x0, .inr (11, [.ref xr, .ref xt, .ref xg, .ref xb, .ref xp, .ref xu, .ref xm, .ref xd, .ref xw, .ref xh, .ref xa, .ref xs, .ref xf, .int 0, .int 0, .long 0, .long 0, .int 0])), (xb, .inr (1, [.ref xba0, .ref xba1, .ref xba2, .ref xba3, .ref xba4, .ref xba5, .ref xba6, .ref xba7, .ref xba8, .ref xba9, .ref xba10, .ref xba11, .int 0, .int 0]))] [.ref x0, .int b0, .int b1] (fun rr_ _ => rr_ = sp_X11_worth g x0 b0 b1 xr xt xg xb xp xu xm xd xw xh xa xs xf xba0 xba1 xba2 xba3 xba4 xba5 xba6 xba7 xba8 xba9 xba10 xba11) := by
  refine met_of (fun A => va_Qi _ (bW g A) A) (by decide) (Nat.le_of_ble_eq_true rfl) ?_
  intro p e s m below meth c A ls X hK hP hD hA hZ hS hl
  have hx := X.1
  have hb := X.2.1
  have hml := X.2.2.1
  have hown := X.2.2.2.1
  have hts := X.2.2.2.2.1
  have hnm := X.2.2.2.2.2.2.2
  have hl : lv_has ls 4 [(0, .ref x0), (1, .int b0), (2, .int b1)] := hl
  refine lv_aload_n hx hb dX11_worth_0 rfl (lv_at hl 0 rfl) ?_
  refine va_get (D := g.1) (ci := 11) (v := .ref xb) (C := RX11) (T := TX11) (N := 18) hx hb hts fw_X11 hown hK hP 0 rfl rfl 3 (by decide) (hts _ q_461) (fun _ h9 => h9) rfl dX11_worth_1 ?_
  refine lv_iload_n hx hb dX11_worth_4 rfl (lv_at hl 1 rfl) ?_
  refine kVi (As := [.int b0]) (rest := []) (wr := [(x0, .inr (11, [.ref xr, .ref xt, .ref xg, .ref xb, .ref xp, .ref xu, .ref xm, .ref xd, .ref xw, .ref xh, .ref xa, .ref xs, .ref xf, .int 0, .int 0, .long 0, .long 0, .int 0]))]) X (c_X1_exists l g xb b0 xba0 xba1 xba2 xba3 xba4 xba5 xba6 xba7 xba8 xba9 xba10 xba11) ok_X1_exists okv_X1_exists q_667 rfl hK hP hD hS hA hZ hl.1 [1] [0] rfl rfl rfl rfl rfl 0 1 rfl rfl rfl (Nat.le_of_ble_eq_true rfl) ⟨Nat.le_of_ble_eq_true rfl, Nat.le_of_ble_eq_true rfl⟩ dX11_worth_5 ⟨Nat.le_of_ble_eq_true rfl, Nat.le_of_ble_eq_true rfl⟩ (fun r_1 w1 H locs hw_2 hP hD hS => ?_)
  rw [sp_X1_exists] at hw_2
  rcases Classical.em (b0 < 0) with c_3 | c_3
  ·
    rw [if_pos c_3] at hw_2
    obtain ⟨e1, e2⟩ := Prod.mk.inj hw_2
    subst e1; subst e2
    have hP : va_P g.1 classes [(x0, .inr (11, [.ref xr, .ref xt, .ref xg, .ref xb, .ref xp, .ref xu, .ref xm, .ref xd, .ref xw, .ref xh, .ref xa, .ref xs, .ref xf, .int 0, .int 0, .long 0, .long 0, .int 0])), (xb, .inr (1, [.ref xba0, .ref xba1, .ref xba2, .ref xba3, .ref xba4, .ref xba5, .ref xba6, .ref xba7, .ref xba8, .ref xba9, .ref xba10, .ref xba11, .int 0, .int 0]))] H := hP
    have hD : va_D A [(x0, .inr (11, [.ref xr, .ref xt, .ref xg, .ref xb, .ref xp, .ref xu, .ref xm, .ref xd, .ref xw, .ref xh, .ref xa, .ref xs, .ref xf, .int 0, .int 0, .long 0, .long 0, .int 0])), (xb, .inr (1, [.ref xba0, .ref xba1, .ref xba2, .ref xba3, .ref xba4, .ref xba5, .ref xba6, .ref xba7, .ref xba8, .ref xba9, .ref xba10, .ref xba11, .int 0, .int 0]))] := hD
    refine lv_if_eq (tgt := 18) hx hb dX11_worth_8 (by decide) (fun _ => ?_) (fun c_4 => absurd (by decide) c_4)
    refine lv_iconst (v := (-1)) hx hb dX11_worth_18 (by decide) ?_
    exact rI X hK hP hD hS dX11_worth_19 (by rfl) (Nat.le_of_ble_eq_true rfl) (Nat.le_of_ble_eq_true rfl) (by show _ = _; unfold sp_X11_worth; rw [if_pos c_3]; try rfl)
  ·
    rw [if_neg c_3] at hw_2
    obtain ⟨e1, e2⟩ := Prod.mk.inj hw_2
    subst e1; subst e2
    have hP : va_P g.1 classes [(x0, .inr (11, [.ref xr, .ref xt, .ref xg, .ref xb, .ref xp, .ref xu, .ref xm, .ref xd, .ref xw, .ref xh, .ref xa, .ref xs, .ref xf, .int 0, .int 0, .long 0, .long 0, .int 0])), (xb, .inr (1, [.ref xba0, .ref xba1, .ref xba2, .ref xba3, .ref xba4, .ref xba5, .ref xba6, .ref xba7, .ref xba8, .ref xba9, .ref xba10, .ref xba11, .int 0, .int 0]))] H := hP
    have hD : va_D A [(x0, .inr (11, [.ref xr, .ref xt, .ref xg, .ref xb, .ref xp, .ref xu, .ref xm, .ref xd, .ref xw, .ref xh, .ref xa, .ref xs, .ref xf, .int 0, .int 0, .long 0, .long 0, .int 0])), (xb, .inr (1, [.ref xba0, .ref xba1, .ref xba2, .ref xba3, .ref xba4, .ref xba5, .ref xba6, .ref xba7, .ref xba8, .ref xba9, .ref xba10, .ref xba11, .int 0, .int 0]))] := hD
    refine lv_if_eq (tgt := 18) hx hb dX11_worth_8 (by decide) (fun _ => ?_) (fun c_5 => absurd (by decide) c_5)
    refine lv_iconst (v := (-1)) hx hb dX11_worth_18 (by decide) ?_
    exact rI X hK hP hD hS dX11_worth_19 (by rfl) (Nat.le_of_ble_eq_true rfl) (Nat.le_of_ble_eq_true rfl) (by show _ = _; unfold sp_X11_worth; rw [if_neg c_3]; try rfl)
def sp_X11_value (g : GG) (x0 : Nat) (b0 : Int32) (b1 : Int32) (xr : Nat) (xt : Nat) (xg : Nat) (xb : Nat) (xp : Nat) (xu : Nat) (xm : Nat) (xd : Nat) (xw : Nat) (xh : Nat) (xa : Nat) (xs : Nat) (xf : Nat) (xba0 : Nat) (xba1 : Nat) (xba2 : Nat) (xba3 : Nat) (xba4 : Nat) (xba5 : Nat) (xba6 : Nat) (xba7 : Nat) (xba8 : Nat) (xba9 : Nat) (xba10 : Nat) (xba11 : Nat) : Int32 := if b0 < 0 then (-1) else (-1)
set_option maxHeartbeats 4000000 in
set_option maxRecDepth 100000 in
theorem c_X11_value (l : Launch) (g : GG) (x0 : Nat) (b0 : Int32) (b1 : Int32) (xr : Nat) (xt : Nat) (xg : Nat) (xb : Nat) (xp : Nat) (xu : Nat) (xm : Nat) (xd : Nat) (xw : Nat) (xh : Nat) (xa : Nat) (xs : Nat) (xf : Nat) (xba0 : Nat) (xba1 : Nat) (xba2 : Nat) (xba3 : Nat) (xba4 : Nat) (xba5 : Nat) (xba6 : Nat) (xba7 : Nat) (xba8 : Nat) (xba9 : Nat) (xba10 : Nat) (xba11 : Nat) : MI l g yX11_value cX11_value 3 (some .int) 1 21 0 0 [(x0, .inr (11, [.ref xr, .ref xt, .ref xg, .ref xb, .ref xp, .ref xu, .ref xm, .ref xd, .ref xw, .ref xh, .ref xa, .ref xs, .ref xf, .int 0, .int 0, .long 0, .long 0, .int 0])), (xb, .inr (1, [.ref xba0, .ref xba1, .ref xba2, .ref xba3, .ref xba4, .ref xba5, .ref xba6, .ref xba7, .ref xba8, .ref xba9, .ref xba10, .ref xba11, .int 0, .int 0]))] [.ref x0, .int b0, .int b1] (fun rr_ _ => rr_ = sp_X11_value g x0 b0 b1 xr xt xg xb xp xu xm xd xw xh xa xs xf xba0 xba1 xba2 xba3 xba4 xba5 xba6 xba7 xba8 xba9 xba10 xba11) := by
  refine met_of (fun A => va_Qi _ (bW g A) A) (by decide) (Nat.le_of_ble_eq_true rfl) ?_
  intro p e s m below meth c A ls X hK hP hD hA hZ hS hl
  have hx := X.1
  have hb := X.2.1
  have hml := X.2.2.1
  have hown := X.2.2.2.1
  have hts := X.2.2.2.2.1
  have hnm := X.2.2.2.2.2.2.2
  have hl : lv_has ls 3 [(0, .ref x0), (1, .int b0), (2, .int b1)] := hl
  refine lv_aload_n hx hb dX11_value_0 rfl (lv_at hl 0 rfl) ?_
  refine va_get (D := g.1) (ci := 11) (v := .ref xb) (C := RX11) (T := TX11) (N := 18) hx hb hts fw_X11 hown hK hP 0 rfl rfl 3 (by decide) (hts _ q_461) (fun _ h9 => h9) rfl dX11_value_1 ?_
  refine lv_iload_n hx hb dX11_value_4 rfl (lv_at hl 1 rfl) ?_
  refine kVi (As := [.int b0]) (rest := []) (wr := [(x0, .inr (11, [.ref xr, .ref xt, .ref xg, .ref xb, .ref xp, .ref xu, .ref xm, .ref xd, .ref xw, .ref xh, .ref xa, .ref xs, .ref xf, .int 0, .int 0, .long 0, .long 0, .int 0]))]) X (c_X1_exists l g xb b0 xba0 xba1 xba2 xba3 xba4 xba5 xba6 xba7 xba8 xba9 xba10 xba11) ok_X1_exists okv_X1_exists q_667 rfl hK hP hD hS hA hZ hl.1 [1] [0] rfl rfl rfl rfl rfl 0 1 rfl rfl rfl (Nat.le_of_ble_eq_true rfl) ⟨Nat.le_of_ble_eq_true rfl, Nat.le_of_ble_eq_true rfl⟩ dX11_value_5 ⟨Nat.le_of_ble_eq_true rfl, Nat.le_of_ble_eq_true rfl⟩ (fun r_1 w1 H locs hw_2 hP hD hS => ?_)
  rw [sp_X1_exists] at hw_2
  rcases Classical.em (b0 < 0) with c_3 | c_3
  ·
    rw [if_pos c_3] at hw_2
    obtain ⟨e1, e2⟩ := Prod.mk.inj hw_2
    subst e1; subst e2
    have hP : va_P g.1 classes [(x0, .inr (11, [.ref xr, .ref xt, .ref xg, .ref xb, .ref xp, .ref xu, .ref xm, .ref xd, .ref xw, .ref xh, .ref xa, .ref xs, .ref xf, .int 0, .int 0, .long 0, .long 0, .int 0])), (xb, .inr (1, [.ref xba0, .ref xba1, .ref xba2, .ref xba3, .ref xba4, .ref xba5, .ref xba6, .ref xba7, .ref xba8, .ref xba9, .ref xba10, .ref xba11, .int 0, .int 0]))] H := hP
    have hD : va_D A [(x0, .inr (11, [.ref xr, .ref xt, .ref xg, .ref xb, .ref xp, .ref xu, .ref xm, .ref xd, .ref xw, .ref xh, .ref xa, .ref xs, .ref xf, .int 0, .int 0, .long 0, .long 0, .int 0])), (xb, .inr (1, [.ref xba0, .ref xba1, .ref xba2, .ref xba3, .ref xba4, .ref xba5, .ref xba6, .ref xba7, .ref xba8, .ref xba9, .ref xba10, .ref xba11, .int 0, .int 0]))] := hD
    refine lv_if_eq (tgt := 18) hx hb dX11_value_8 (by decide) (fun _ => ?_) (fun c_4 => absurd (by decide) c_4)
    refine lv_iconst (v := (-1)) hx hb dX11_value_18 (by decide) ?_
    exact rI X hK hP hD hS dX11_value_19 (by rfl) (Nat.le_of_ble_eq_true rfl) (Nat.le_of_ble_eq_true rfl) (by show _ = _; unfold sp_X11_value; rw [if_pos c_3]; try rfl)
  ·
    rw [if_neg c_3] at hw_2
    obtain ⟨e1, e2⟩ := Prod.mk.inj hw_2
    subst e1; subst e2
    have hP : va_P g.1 classes [(x0, .inr (11, [.ref xr, .ref xt, .ref xg, .ref xb, .ref xp, .ref xu, .ref xm, .ref xd, .ref xw, .ref xh, .ref xa, .ref xs, .ref xf, .int 0, .int 0, .long 0, .long 0, .int 0])), (xb, .inr (1, [.ref xba0, .ref xba1, .ref xba2, .ref xba3, .ref xba4, .ref xba5, .ref xba6, .ref xba7, .ref xba8, .ref xba9, .ref xba10, .ref xba11, .int 0, .int 0]))] H := hP
    have hD : va_D A [(x0, .inr (11, [.ref xr, .ref xt, .ref xg, .ref xb, .ref xp, .ref xu, .ref xm, .ref xd, .ref xw, .ref xh, .ref xa, .ref xs, .ref xf, .int 0, .int 0, .long 0, .long 0, .int 0])), (xb, .inr (1, [.ref xba0, .ref xba1, .ref xba2, .ref xba3, .ref xba4, .ref xba5, .ref xba6, .ref xba7, .ref xba8, .ref xba9, .ref xba10, .ref xba11, .int 0, .int 0]))] := hD
    refine lv_if_eq (tgt := 18) hx hb dX11_value_8 (by decide) (fun _ => ?_) (fun c_5 => absurd (by decide) c_5)
    refine lv_iconst (v := (-1)) hx hb dX11_value_18 (by decide) ?_
    exact rI X hK hP hD hS dX11_value_19 (by rfl) (Nat.le_of_ble_eq_true rfl) (Nat.le_of_ble_eq_true rfl) (by show _ = _; unfold sp_X11_value; rw [if_neg c_3]; try rfl)
def sp_X11_house (g : GG) (x0 : Nat) (b0 : Int32) (b1 : Int32) (xr : Nat) (xt : Nat) (xg : Nat) (xb : Nat) (xp : Nat) (xu : Nat) (xm : Nat) (xd : Nat) (xw : Nat) (xh : Nat) (xa : Nat) (xs : Nat) (xf : Nat) (xba0 : Nat) (xba1 : Nat) (xba2 : Nat) (xba3 : Nat) (xba4 : Nat) (xba5 : Nat) (xba6 : Nat) (xba7 : Nat) (xba8 : Nat) (xba9 : Nat) (xba10 : Nat) (xba11 : Nat) : Int32 := if b0 < 0 then (-1) else (-1)
set_option maxHeartbeats 4000000 in
set_option maxRecDepth 100000 in
theorem c_X11_house (l : Launch) (g : GG) (x0 : Nat) (b0 : Int32) (b1 : Int32) (xr : Nat) (xt : Nat) (xg : Nat) (xb : Nat) (xp : Nat) (xu : Nat) (xm : Nat) (xd : Nat) (xw : Nat) (xh : Nat) (xa : Nat) (xs : Nat) (xf : Nat) (xba0 : Nat) (xba1 : Nat) (xba2 : Nat) (xba3 : Nat) (xba4 : Nat) (xba5 : Nat) (xba6 : Nat) (xba7 : Nat) (xba8 : Nat) (xba9 : Nat) (xba10 : Nat) (xba11 : Nat) : MI l g yX11_house cX11_house 3 (some .int) 1 21 0 0 [(x0, .inr (11, [.ref xr, .ref xt, .ref xg, .ref xb, .ref xp, .ref xu, .ref xm, .ref xd, .ref xw, .ref xh, .ref xa, .ref xs, .ref xf, .int 0, .int 0, .long 0, .long 0, .int 0])), (xb, .inr (1, [.ref xba0, .ref xba1, .ref xba2, .ref xba3, .ref xba4, .ref xba5, .ref xba6, .ref xba7, .ref xba8, .ref xba9, .ref xba10, .ref xba11, .int 0, .int 0]))] [.ref x0, .int b0, .int b1] (fun rr_ _ => rr_ = sp_X11_house g x0 b0 b1 xr xt xg xb xp xu xm xd xw xh xa xs xf xba0 xba1 xba2 xba3 xba4 xba5 xba6 xba7 xba8 xba9 xba10 xba11) := by
  refine met_of (fun A => va_Qi _ (bW g A) A) (by decide) (Nat.le_of_ble_eq_true rfl) ?_
  intro p e s m below meth c A ls X hK hP hD hA hZ hS hl
  have hx := X.1
  have hb := X.2.1
  have hml := X.2.2.1
  have hown := X.2.2.2.1
  have hts := X.2.2.2.2.1
  have hnm := X.2.2.2.2.2.2.2
  have hl : lv_has ls 3 [(0, .ref x0), (1, .int b0), (2, .int b1)] := hl
  refine lv_aload_n hx hb dX11_house_0 rfl (lv_at hl 0 rfl) ?_
  refine va_get (D := g.1) (ci := 11) (v := .ref xb) (C := RX11) (T := TX11) (N := 18) hx hb hts fw_X11 hown hK hP 0 rfl rfl 3 (by decide) (hts _ q_461) (fun _ h9 => h9) rfl dX11_house_1 ?_
  refine lv_iload_n hx hb dX11_house_4 rfl (lv_at hl 1 rfl) ?_
  refine kVi (As := [.int b0]) (rest := []) (wr := [(x0, .inr (11, [.ref xr, .ref xt, .ref xg, .ref xb, .ref xp, .ref xu, .ref xm, .ref xd, .ref xw, .ref xh, .ref xa, .ref xs, .ref xf, .int 0, .int 0, .long 0, .long 0, .int 0]))]) X (c_X1_exists l g xb b0 xba0 xba1 xba2 xba3 xba4 xba5 xba6 xba7 xba8 xba9 xba10 xba11) ok_X1_exists okv_X1_exists q_667 rfl hK hP hD hS hA hZ hl.1 [1] [0] rfl rfl rfl rfl rfl 0 1 rfl rfl rfl (Nat.le_of_ble_eq_true rfl) ⟨Nat.le_of_ble_eq_true rfl, Nat.le_of_ble_eq_true rfl⟩ dX11_house_5 ⟨Nat.le_of_ble_eq_true rfl, Nat.le_of_ble_eq_true rfl⟩ (fun r_1 w1 H locs hw_2 hP hD hS => ?_)
  rw [sp_X1_exists] at hw_2
  rcases Classical.em (b0 < 0) with c_3 | c_3
  ·
    rw [if_pos c_3] at hw_2
    obtain ⟨e1, e2⟩ := Prod.mk.inj hw_2
    subst e1; subst e2
    have hP : va_P g.1 classes [(x0, .inr (11, [.ref xr, .ref xt, .ref xg, .ref xb, .ref xp, .ref xu, .ref xm, .ref xd, .ref xw, .ref xh, .ref xa, .ref xs, .ref xf, .int 0, .int 0, .long 0, .long 0, .int 0])), (xb, .inr (1, [.ref xba0, .ref xba1, .ref xba2, .ref xba3, .ref xba4, .ref xba5, .ref xba6, .ref xba7, .ref xba8, .ref xba9, .ref xba10, .ref xba11, .int 0, .int 0]))] H := hP
    have hD : va_D A [(x0, .inr (11, [.ref xr, .ref xt, .ref xg, .ref xb, .ref xp, .ref xu, .ref xm, .ref xd, .ref xw, .ref xh, .ref xa, .ref xs, .ref xf, .int 0, .int 0, .long 0, .long 0, .int 0])), (xb, .inr (1, [.ref xba0, .ref xba1, .ref xba2, .ref xba3, .ref xba4, .ref xba5, .ref xba6, .ref xba7, .ref xba8, .ref xba9, .ref xba10, .ref xba11, .int 0, .int 0]))] := hD
    refine lv_if_eq (tgt := 20) hx hb dX11_house_8 (by decide) (fun _ => ?_) (fun c_4 => absurd (by decide) c_4)
    refine lv_iconst (v := (-1)) hx hb dX11_house_20 (by decide) ?_
    exact rI X hK hP hD hS dX11_house_21 (by rfl) (Nat.le_of_ble_eq_true rfl) (Nat.le_of_ble_eq_true rfl) (by show _ = _; unfold sp_X11_house; rw [if_pos c_3]; try rfl)
  ·
    rw [if_neg c_3] at hw_2
    obtain ⟨e1, e2⟩ := Prod.mk.inj hw_2
    subst e1; subst e2
    have hP : va_P g.1 classes [(x0, .inr (11, [.ref xr, .ref xt, .ref xg, .ref xb, .ref xp, .ref xu, .ref xm, .ref xd, .ref xw, .ref xh, .ref xa, .ref xs, .ref xf, .int 0, .int 0, .long 0, .long 0, .int 0])), (xb, .inr (1, [.ref xba0, .ref xba1, .ref xba2, .ref xba3, .ref xba4, .ref xba5, .ref xba6, .ref xba7, .ref xba8, .ref xba9, .ref xba10, .ref xba11, .int 0, .int 0]))] H := hP
    have hD : va_D A [(x0, .inr (11, [.ref xr, .ref xt, .ref xg, .ref xb, .ref xp, .ref xu, .ref xm, .ref xd, .ref xw, .ref xh, .ref xa, .ref xs, .ref xf, .int 0, .int 0, .long 0, .long 0, .int 0])), (xb, .inr (1, [.ref xba0, .ref xba1, .ref xba2, .ref xba3, .ref xba4, .ref xba5, .ref xba6, .ref xba7, .ref xba8, .ref xba9, .ref xba10, .ref xba11, .int 0, .int 0]))] := hD
    refine lv_if_eq (tgt := 20) hx hb dX11_house_8 (by decide) (fun _ => ?_) (fun c_5 => absurd (by decide) c_5)
    refine lv_iconst (v := (-1)) hx hb dX11_house_20 (by decide) ?_
    exact rI X hK hP hD hS dX11_house_21 (by rfl) (Nat.le_of_ble_eq_true rfl) (Nat.le_of_ble_eq_true rfl) (by show _ = _; unfold sp_X11_house; rw [if_neg c_3]; try rfl)
def sp_X11_who (g : GG) (x0 : Nat) (b0 : Int32) (b1 : Int32) (xr : Nat) (xt : Nat) (xg : Nat) (xb : Nat) (xp : Nat) (xu : Nat) (xm : Nat) (xd : Nat) (xw : Nat) (xh : Nat) (xa : Nat) (xs : Nat) (xf : Nat) (xpa0 : Nat) (xpa1 : Nat) (xpa2 : Nat) (xpa3 : Nat) : Int32 := if b0 < 0 then (-1) else (-1)
set_option maxHeartbeats 4000000 in
set_option maxRecDepth 100000 in
theorem c_X11_who (l : Launch) (g : GG) (x0 : Nat) (b0 : Int32) (b1 : Int32) (xr : Nat) (xt : Nat) (xg : Nat) (xb : Nat) (xp : Nat) (xu : Nat) (xm : Nat) (xd : Nat) (xw : Nat) (xh : Nat) (xa : Nat) (xs : Nat) (xf : Nat) (xpa0 : Nat) (xpa1 : Nat) (xpa2 : Nat) (xpa3 : Nat) : MI l g yX11_who cX11_who 3 (some .int) 1 21 0 0 [(x0, .inr (11, [.ref xr, .ref xt, .ref xg, .ref xb, .ref xp, .ref xu, .ref xm, .ref xd, .ref xw, .ref xh, .ref xa, .ref xs, .ref xf, .int 0, .int 0, .long 0, .long 0, .int 0])), (xp, .inr (5, [.ref xpa0, .ref xpa1, .ref xpa2, .ref xpa3, .int 0]))] [.ref x0, .int b0, .int b1] (fun rr_ _ => rr_ = sp_X11_who g x0 b0 b1 xr xt xg xb xp xu xm xd xw xh xa xs xf xpa0 xpa1 xpa2 xpa3) := by
  refine met_of (fun A => va_Qi _ (bW g A) A) (by decide) (Nat.le_of_ble_eq_true rfl) ?_
  intro p e s m below meth c A ls X hK hP hD hA hZ hS hl
  have hx := X.1
  have hb := X.2.1
  have hml := X.2.2.1
  have hown := X.2.2.2.1
  have hts := X.2.2.2.2.1
  have hnm := X.2.2.2.2.2.2.2
  have hl : lv_has ls 3 [(0, .ref x0), (1, .int b0), (2, .int b1)] := hl
  refine lv_aload_n hx hb dX11_who_0 rfl (lv_at hl 0 rfl) ?_
  refine va_get (D := g.1) (ci := 11) (v := .ref xp) (C := RX11) (T := TX11) (N := 18) hx hb hts fw_X11 hown hK hP 0 rfl rfl 4 (by decide) (hts _ q_462) (fun _ h9 => h9) rfl dX11_who_1 ?_
  refine lv_iload_n hx hb dX11_who_4 rfl (lv_at hl 1 rfl) ?_
  refine kVi (As := [.int b0]) (rest := []) (wr := [(x0, .inr (11, [.ref xr, .ref xt, .ref xg, .ref xb, .ref xp, .ref xu, .ref xm, .ref xd, .ref xw, .ref xh, .ref xa, .ref xs, .ref xf, .int 0, .int 0, .long 0, .long 0, .int 0]))]) X (c_X5_exists l g xp b0 xpa0 xpa1 xpa2 xpa3) ok_X5_exists okv_X5_exists q_735 rfl hK hP hD hS hA hZ hl.1 [1] [0] rfl rfl rfl rfl rfl 0 5 rfl rfl rfl (Nat.le_of_ble_eq_true rfl) ⟨Nat.le_of_ble_eq_true rfl, Nat.le_of_ble_eq_true rfl⟩ dX11_who_5 ⟨Nat.le_of_ble_eq_true rfl, Nat.le_of_ble_eq_true rfl⟩ (fun r_1 w1 H locs hw_2 hP hD hS => ?_)
  rw [sp_X5_exists] at hw_2
  rcases Classical.em (b0 < 0) with c_3 | c_3
  ·
    rw [if_pos c_3] at hw_2
    obtain ⟨e1, e2⟩ := Prod.mk.inj hw_2
    subst e1; subst e2
    have hP : va_P g.1 classes [(x0, .inr (11, [.ref xr, .ref xt, .ref xg, .ref xb, .ref xp, .ref xu, .ref xm, .ref xd, .ref xw, .ref xh, .ref xa, .ref xs, .ref xf, .int 0, .int 0, .long 0, .long 0, .int 0])), (xp, .inr (5, [.ref xpa0, .ref xpa1, .ref xpa2, .ref xpa3, .int 0]))] H := hP
    have hD : va_D A [(x0, .inr (11, [.ref xr, .ref xt, .ref xg, .ref xb, .ref xp, .ref xu, .ref xm, .ref xd, .ref xw, .ref xh, .ref xa, .ref xs, .ref xf, .int 0, .int 0, .long 0, .long 0, .int 0])), (xp, .inr (5, [.ref xpa0, .ref xpa1, .ref xpa2, .ref xpa3, .int 0]))] := hD
    refine lv_if_eq (tgt := 20) hx hb dX11_who_8 (by decide) (fun _ => ?_) (fun c_4 => absurd (by decide) c_4)
    refine lv_iconst (v := (-1)) hx hb dX11_who_20 (by decide) ?_
    exact rI X hK hP hD hS dX11_who_21 (by rfl) (Nat.le_of_ble_eq_true rfl) (Nat.le_of_ble_eq_true rfl) (by show _ = _; unfold sp_X11_who; rw [if_pos c_3]; try rfl)
  ·
    rw [if_neg c_3] at hw_2
    obtain ⟨e1, e2⟩ := Prod.mk.inj hw_2
    subst e1; subst e2
    have hP : va_P g.1 classes [(x0, .inr (11, [.ref xr, .ref xt, .ref xg, .ref xb, .ref xp, .ref xu, .ref xm, .ref xd, .ref xw, .ref xh, .ref xa, .ref xs, .ref xf, .int 0, .int 0, .long 0, .long 0, .int 0])), (xp, .inr (5, [.ref xpa0, .ref xpa1, .ref xpa2, .ref xpa3, .int 0]))] H := hP
    have hD : va_D A [(x0, .inr (11, [.ref xr, .ref xt, .ref xg, .ref xb, .ref xp, .ref xu, .ref xm, .ref xd, .ref xw, .ref xh, .ref xa, .ref xs, .ref xf, .int 0, .int 0, .long 0, .long 0, .int 0])), (xp, .inr (5, [.ref xpa0, .ref xpa1, .ref xpa2, .ref xpa3, .int 0]))] := hD
    refine lv_if_eq (tgt := 20) hx hb dX11_who_8 (by decide) (fun _ => ?_) (fun c_5 => absurd (by decide) c_5)
    refine lv_iconst (v := (-1)) hx hb dX11_who_20 (by decide) ?_
    exact rI X hK hP hD hS dX11_who_21 (by rfl) (Nat.le_of_ble_eq_true rfl) (Nat.le_of_ble_eq_true rfl) (by show _ = _; unfold sp_X11_who; rw [if_neg c_3]; try rfl)
def sp_X11_ramp (g : GG) (x0 : Nat) (b0 : Int32) (b1 : Int32) (xr : Nat) (xt : Nat) (xg : Nat) (xb : Nat) (xp : Nat) (xu : Nat) (xm : Nat) (xd : Nat) (xw : Nat) (xh : Nat) (xa : Nat) (xs : Nat) (xf : Nat) (xma0 : Nat) (xma1 : Nat) (xma2 : Nat) (xma3 : Nat) (xma4 : Nat) (xma5 : Nat) (xma6 : Nat) (xma7 : Nat) (xma8 : Nat) (xma9 : Nat) (xma10 : Nat) (xma11 : Nat) (xma12 : Nat) : Int32 := if b0 < 0 then (-1) else (-1)
set_option maxHeartbeats 4000000 in
set_option maxRecDepth 100000 in
theorem c_X11_ramp (l : Launch) (g : GG) (x0 : Nat) (b0 : Int32) (b1 : Int32) (xr : Nat) (xt : Nat) (xg : Nat) (xb : Nat) (xp : Nat) (xu : Nat) (xm : Nat) (xd : Nat) (xw : Nat) (xh : Nat) (xa : Nat) (xs : Nat) (xf : Nat) (xma0 : Nat) (xma1 : Nat) (xma2 : Nat) (xma3 : Nat) (xma4 : Nat) (xma5 : Nat) (xma6 : Nat) (xma7 : Nat) (xma8 : Nat) (xma9 : Nat) (xma10 : Nat) (xma11 : Nat) (xma12 : Nat) : MI l g yX11_ramp cX11_ramp 7 (some .int) 1 21 0 0 [(x0, .inr (11, [.ref xr, .ref xt, .ref xg, .ref xb, .ref xp, .ref xu, .ref xm, .ref xd, .ref xw, .ref xh, .ref xa, .ref xs, .ref xf, .int 0, .int 0, .long 0, .long 0, .int 0])), (xm, .inr (4, [.ref xma0, .ref xma1, .ref xma2, .ref xma3, .ref xma4, .ref xma5, .ref xma6, .ref xma7, .ref xma8, .ref xma9, .ref xma10, .ref xma11, .ref xma12, .int 0]))] [.ref x0, .int b0, .int b1] (fun rr_ _ => rr_ = sp_X11_ramp g x0 b0 b1 xr xt xg xb xp xu xm xd xw xh xa xs xf xma0 xma1 xma2 xma3 xma4 xma5 xma6 xma7 xma8 xma9 xma10 xma11 xma12) := by
  refine met_of (fun A => va_Qi _ (bW g A) A) (by decide) (Nat.le_of_ble_eq_true rfl) ?_
  intro p e s m below meth c A ls X hK hP hD hA hZ hS hl
  have hx := X.1
  have hb := X.2.1
  have hml := X.2.2.1
  have hown := X.2.2.2.1
  have hts := X.2.2.2.2.1
  have hnm := X.2.2.2.2.2.2.2
  have hl : lv_has ls 7 [(0, .ref x0), (1, .int b0), (2, .int b1)] := hl
  refine lv_aload_n hx hb dX11_ramp_0 rfl (lv_at hl 0 rfl) ?_
  refine va_get (D := g.1) (ci := 11) (v := .ref xm) (C := RX11) (T := TX11) (N := 18) hx hb hts fw_X11 hown hK hP 0 rfl rfl 6 (by decide) (hts _ q_464) (fun _ h9 => h9) rfl dX11_ramp_1 ?_
  refine lv_iload_n hx hb dX11_ramp_4 rfl (lv_at hl 1 rfl) ?_
  refine kVi (As := [.int b0]) (rest := []) (wr := [(x0, .inr (11, [.ref xr, .ref xt, .ref xg, .ref xb, .ref xp, .ref xu, .ref xm, .ref xd, .ref xw, .ref xh, .ref xa, .ref xs, .ref xf, .int 0, .int 0, .long 0, .long 0, .int 0]))]) X (c_X4_exists l g xm b0 xma0 xma1 xma2 xma3 xma4 xma5 xma6 xma7 xma8 xma9 xma10 xma11 xma12) ok_X4_exists okv_X4_exists q_882 rfl hK hP hD hS hA hZ hl.1 [1] [0] rfl rfl rfl rfl rfl 0 4 rfl rfl rfl (Nat.le_of_ble_eq_true rfl) ⟨Nat.le_of_ble_eq_true rfl, Nat.le_of_ble_eq_true rfl⟩ dX11_ramp_5 ⟨Nat.le_of_ble_eq_true rfl, Nat.le_of_ble_eq_true rfl⟩ (fun r_1 w1 H locs hw_2 hP hD hS => ?_)
  rw [sp_X4_exists] at hw_2
  rcases Classical.em (b0 < 0) with c_3 | c_3
  ·
    rw [if_pos c_3] at hw_2
    obtain ⟨e1, e2⟩ := Prod.mk.inj hw_2
    subst e1; subst e2
    have hP : va_P g.1 classes [(x0, .inr (11, [.ref xr, .ref xt, .ref xg, .ref xb, .ref xp, .ref xu, .ref xm, .ref xd, .ref xw, .ref xh, .ref xa, .ref xs, .ref xf, .int 0, .int 0, .long 0, .long 0, .int 0])), (xm, .inr (4, [.ref xma0, .ref xma1, .ref xma2, .ref xma3, .ref xma4, .ref xma5, .ref xma6, .ref xma7, .ref xma8, .ref xma9, .ref xma10, .ref xma11, .ref xma12, .int 0]))] H := hP
    have hD : va_D A [(x0, .inr (11, [.ref xr, .ref xt, .ref xg, .ref xb, .ref xp, .ref xu, .ref xm, .ref xd, .ref xw, .ref xh, .ref xa, .ref xs, .ref xf, .int 0, .int 0, .long 0, .long 0, .int 0])), (xm, .inr (4, [.ref xma0, .ref xma1, .ref xma2, .ref xma3, .ref xma4, .ref xma5, .ref xma6, .ref xma7, .ref xma8, .ref xma9, .ref xma10, .ref xma11, .ref xma12, .int 0]))] := hD
    refine lv_if_eq (tgt := 18) hx hb dX11_ramp_8 (by decide) (fun _ => ?_) (fun c_4 => absurd (by decide) c_4)
    refine lv_iconst (v := (-1)) hx hb dX11_ramp_18 (by decide) ?_
    exact rI X hK hP hD hS dX11_ramp_19 (by rfl) (Nat.le_of_ble_eq_true rfl) (Nat.le_of_ble_eq_true rfl) (by show _ = _; unfold sp_X11_ramp; rw [if_pos c_3]; try rfl)
  ·
    rw [if_neg c_3] at hw_2
    obtain ⟨e1, e2⟩ := Prod.mk.inj hw_2
    subst e1; subst e2
    have hP : va_P g.1 classes [(x0, .inr (11, [.ref xr, .ref xt, .ref xg, .ref xb, .ref xp, .ref xu, .ref xm, .ref xd, .ref xw, .ref xh, .ref xa, .ref xs, .ref xf, .int 0, .int 0, .long 0, .long 0, .int 0])), (xm, .inr (4, [.ref xma0, .ref xma1, .ref xma2, .ref xma3, .ref xma4, .ref xma5, .ref xma6, .ref xma7, .ref xma8, .ref xma9, .ref xma10, .ref xma11, .ref xma12, .int 0]))] H := hP
    have hD : va_D A [(x0, .inr (11, [.ref xr, .ref xt, .ref xg, .ref xb, .ref xp, .ref xu, .ref xm, .ref xd, .ref xw, .ref xh, .ref xa, .ref xs, .ref xf, .int 0, .int 0, .long 0, .long 0, .int 0])), (xm, .inr (4, [.ref xma0, .ref xma1, .ref xma2, .ref xma3, .ref xma4, .ref xma5, .ref xma6, .ref xma7, .ref xma8, .ref xma9, .ref xma10, .ref xma11, .ref xma12, .int 0]))] := hD
    refine lv_if_eq (tgt := 18) hx hb dX11_ramp_8 (by decide) (fun _ => ?_) (fun c_5 => absurd (by decide) c_5)
    refine lv_iconst (v := (-1)) hx hb dX11_ramp_18 (by decide) ?_
    exact rI X hK hP hD hS dX11_ramp_19 (by rfl) (Nat.le_of_ble_eq_true rfl) (Nat.le_of_ble_eq_true rfl) (by show _ = _; unfold sp_X11_ramp; rw [if_neg c_3]; try rfl)
def sp_X11_cellOf (g : GG) (x0 : Nat) (b0 : Int32) (b1 : Int32) (xr : Nat) (xt : Nat) (xg : Nat) (xb : Nat) (xp : Nat) (xu : Nat) (xm : Nat) (xd : Nat) (xw : Nat) (xh : Nat) (xa : Nat) (xs : Nat) (xf : Nat) (xma0 : Nat) (xma1 : Nat) (xma2 : Nat) (xma3 : Nat) (xma4 : Nat) (xma5 : Nat) (xma6 : Nat) (xma7 : Nat) (xma8 : Nat) (xma9 : Nat) (xma10 : Nat) (xma11 : Nat) (xma12 : Nat) : Int32 := if b0 < 0 then (-1) else (-1)
set_option maxHeartbeats 4000000 in
set_option maxRecDepth 100000 in
theorem c_X11_cellOf (l : Launch) (g : GG) (x0 : Nat) (b0 : Int32) (b1 : Int32) (xr : Nat) (xt : Nat) (xg : Nat) (xb : Nat) (xp : Nat) (xu : Nat) (xm : Nat) (xd : Nat) (xw : Nat) (xh : Nat) (xa : Nat) (xs : Nat) (xf : Nat) (xma0 : Nat) (xma1 : Nat) (xma2 : Nat) (xma3 : Nat) (xma4 : Nat) (xma5 : Nat) (xma6 : Nat) (xma7 : Nat) (xma8 : Nat) (xma9 : Nat) (xma10 : Nat) (xma11 : Nat) (xma12 : Nat) : MI l g yX11_cellOf cX11_cellOf 3 (some .int) 1 21 0 0 [(x0, .inr (11, [.ref xr, .ref xt, .ref xg, .ref xb, .ref xp, .ref xu, .ref xm, .ref xd, .ref xw, .ref xh, .ref xa, .ref xs, .ref xf, .int 0, .int 0, .long 0, .long 0, .int 0])), (xm, .inr (4, [.ref xma0, .ref xma1, .ref xma2, .ref xma3, .ref xma4, .ref xma5, .ref xma6, .ref xma7, .ref xma8, .ref xma9, .ref xma10, .ref xma11, .ref xma12, .int 0]))] [.ref x0, .int b0, .int b1] (fun rr_ _ => rr_ = sp_X11_cellOf g x0 b0 b1 xr xt xg xb xp xu xm xd xw xh xa xs xf xma0 xma1 xma2 xma3 xma4 xma5 xma6 xma7 xma8 xma9 xma10 xma11 xma12) := by
  refine met_of (fun A => va_Qi _ (bW g A) A) (by decide) (Nat.le_of_ble_eq_true rfl) ?_
  intro p e s m below meth c A ls X hK hP hD hA hZ hS hl
  have hx := X.1
  have hb := X.2.1
  have hml := X.2.2.1
  have hown := X.2.2.2.1
  have hts := X.2.2.2.2.1
  have hnm := X.2.2.2.2.2.2.2
  have hl : lv_has ls 3 [(0, .ref x0), (1, .int b0), (2, .int b1)] := hl
  refine lv_aload_n hx hb dX11_cellOf_0 rfl (lv_at hl 0 rfl) ?_
  refine va_get (D := g.1) (ci := 11) (v := .ref xm) (C := RX11) (T := TX11) (N := 18) hx hb hts fw_X11 hown hK hP 0 rfl rfl 6 (by decide) (hts _ q_464) (fun _ h9 => h9) rfl dX11_cellOf_1 ?_
  refine lv_iload_n hx hb dX11_cellOf_4 rfl (lv_at hl 1 rfl) ?_
  refine kVi (As := [.int b0]) (rest := []) (wr := [(x0, .inr (11, [.ref xr, .ref xt, .ref xg, .ref xb, .ref xp, .ref xu, .ref xm, .ref xd, .ref xw, .ref xh, .ref xa, .ref xs, .ref xf, .int 0, .int 0, .long 0, .long 0, .int 0]))]) X (c_X4_exists l g xm b0 xma0 xma1 xma2 xma3 xma4 xma5 xma6 xma7 xma8 xma9 xma10 xma11 xma12) ok_X4_exists okv_X4_exists q_882 rfl hK hP hD hS hA hZ hl.1 [1] [0] rfl rfl rfl rfl rfl 0 4 rfl rfl rfl (Nat.le_of_ble_eq_true rfl) ⟨Nat.le_of_ble_eq_true rfl, Nat.le_of_ble_eq_true rfl⟩ dX11_cellOf_5 ⟨Nat.le_of_ble_eq_true rfl, Nat.le_of_ble_eq_true rfl⟩ (fun r_1 w1 H locs hw_2 hP hD hS => ?_)
  rw [sp_X4_exists] at hw_2
  rcases Classical.em (b0 < 0) with c_3 | c_3
  ·
    rw [if_pos c_3] at hw_2
    obtain ⟨e1, e2⟩ := Prod.mk.inj hw_2
    subst e1; subst e2
    have hP : va_P g.1 classes [(x0, .inr (11, [.ref xr, .ref xt, .ref xg, .ref xb, .ref xp, .ref xu, .ref xm, .ref xd, .ref xw, .ref xh, .ref xa, .ref xs, .ref xf, .int 0, .int 0, .long 0, .long 0, .int 0])), (xm, .inr (4, [.ref xma0, .ref xma1, .ref xma2, .ref xma3, .ref xma4, .ref xma5, .ref xma6, .ref xma7, .ref xma8, .ref xma9, .ref xma10, .ref xma11, .ref xma12, .int 0]))] H := hP
    have hD : va_D A [(x0, .inr (11, [.ref xr, .ref xt, .ref xg, .ref xb, .ref xp, .ref xu, .ref xm, .ref xd, .ref xw, .ref xh, .ref xa, .ref xs, .ref xf, .int 0, .int 0, .long 0, .long 0, .int 0])), (xm, .inr (4, [.ref xma0, .ref xma1, .ref xma2, .ref xma3, .ref xma4, .ref xma5, .ref xma6, .ref xma7, .ref xma8, .ref xma9, .ref xma10, .ref xma11, .ref xma12, .int 0]))] := hD
    refine lv_if_ne (tgt := 13) hx hb dX11_cellOf_8 (by decide) (fun c_4 => absurd (by decide) c_4) (fun _ => ?_)
    refine lv_iconst (v := (-1)) hx hb dX11_cellOf_11 (by decide) ?_
    exact rI X hK hP hD hS dX11_cellOf_12 (by rfl) (Nat.le_of_ble_eq_true rfl) (Nat.le_of_ble_eq_true rfl) (by show _ = _; unfold sp_X11_cellOf; rw [if_pos c_3]; try rfl)
  ·
    rw [if_neg c_3] at hw_2
    obtain ⟨e1, e2⟩ := Prod.mk.inj hw_2
    subst e1; subst e2
    have hP : va_P g.1 classes [(x0, .inr (11, [.ref xr, .ref xt, .ref xg, .ref xb, .ref xp, .ref xu, .ref xm, .ref xd, .ref xw, .ref xh, .ref xa, .ref xs, .ref xf, .int 0, .int 0, .long 0, .long 0, .int 0])), (xm, .inr (4, [.ref xma0, .ref xma1, .ref xma2, .ref xma3, .ref xma4, .ref xma5, .ref xma6, .ref xma7, .ref xma8, .ref xma9, .ref xma10, .ref xma11, .ref xma12, .int 0]))] H := hP
    have hD : va_D A [(x0, .inr (11, [.ref xr, .ref xt, .ref xg, .ref xb, .ref xp, .ref xu, .ref xm, .ref xd, .ref xw, .ref xh, .ref xa, .ref xs, .ref xf, .int 0, .int 0, .long 0, .long 0, .int 0])), (xm, .inr (4, [.ref xma0, .ref xma1, .ref xma2, .ref xma3, .ref xma4, .ref xma5, .ref xma6, .ref xma7, .ref xma8, .ref xma9, .ref xma10, .ref xma11, .ref xma12, .int 0]))] := hD
    refine lv_if_ne (tgt := 13) hx hb dX11_cellOf_8 (by decide) (fun c_5 => absurd (by decide) c_5) (fun _ => ?_)
    refine lv_iconst (v := (-1)) hx hb dX11_cellOf_11 (by decide) ?_
    exact rI X hK hP hD hS dX11_cellOf_12 (by rfl) (Nat.le_of_ble_eq_true rfl) (Nat.le_of_ble_eq_true rfl) (by show _ = _; unfold sp_X11_cellOf; rw [if_neg c_3]; try rfl)
def sp_X11_show (g : GG) (x0 : Nat) (b0 : Int32) (xr : Nat) (xt : Nat) (xg : Nat) (xb : Nat) (xp : Nat) (xu : Nat) (xm : Nat) (xd : Nat) (xw : Nat) (xh : Nat) (xa : Nat) (xs : Nat) (xf : Nat) (xma0 : Nat) (xma1 : Nat) (xma2 : Nat) (xma3 : Nat) (xma4 : Nat) (xma5 : Nat) (xma6 : Nat) (xma7 : Nat) (xma8 : Nat) (xma9 : Nat) (xma10 : Nat) (xma11 : Nat) (xma12 : Nat) : Int32 := if b0 < 0 then (-1) else (-1)
set_option maxHeartbeats 4000000 in
set_option maxRecDepth 100000 in
theorem c_X11_show (l : Launch) (g : GG) (x0 : Nat) (b0 : Int32) (xr : Nat) (xt : Nat) (xg : Nat) (xb : Nat) (xp : Nat) (xu : Nat) (xm : Nat) (xd : Nat) (xw : Nat) (xh : Nat) (xa : Nat) (xs : Nat) (xf : Nat) (xma0 : Nat) (xma1 : Nat) (xma2 : Nat) (xma3 : Nat) (xma4 : Nat) (xma5 : Nat) (xma6 : Nat) (xma7 : Nat) (xma8 : Nat) (xma9 : Nat) (xma10 : Nat) (xma11 : Nat) (xma12 : Nat) : MI l g yX11_show cX11_show 7 (some .int) 1 21 0 0 [(x0, .inr (11, [.ref xr, .ref xt, .ref xg, .ref xb, .ref xp, .ref xu, .ref xm, .ref xd, .ref xw, .ref xh, .ref xa, .ref xs, .ref xf, .int 0, .int 0, .long 0, .long 0, .int 0])), (xm, .inr (4, [.ref xma0, .ref xma1, .ref xma2, .ref xma3, .ref xma4, .ref xma5, .ref xma6, .ref xma7, .ref xma8, .ref xma9, .ref xma10, .ref xma11, .ref xma12, .int 0]))] [.ref x0, .int b0] (fun rr_ _ => rr_ = sp_X11_show g x0 b0 xr xt xg xb xp xu xm xd xw xh xa xs xf xma0 xma1 xma2 xma3 xma4 xma5 xma6 xma7 xma8 xma9 xma10 xma11 xma12) := by
  refine met_of (fun A => va_Qi _ (bW g A) A) (by decide) (Nat.le_of_ble_eq_true rfl) ?_
  intro p e s m below meth c A ls X hK hP hD hA hZ hS hl
  have hx := X.1
  have hb := X.2.1
  have hml := X.2.2.1
  have hown := X.2.2.2.1
  have hts := X.2.2.2.2.1
  have hnm := X.2.2.2.2.2.2.2
  have hl : lv_has ls 7 [(0, .ref x0), (1, .int b0)] := hl
  refine lv_aload_n hx hb dX11_show_0 rfl (lv_at hl 0 rfl) ?_
  refine va_get (D := g.1) (ci := 11) (v := .ref xm) (C := RX11) (T := TX11) (N := 18) hx hb hts fw_X11 hown hK hP 0 rfl rfl 6 (by decide) (hts _ q_464) (fun _ h9 => h9) rfl dX11_show_1 ?_
  refine lv_iload_n hx hb dX11_show_4 rfl (lv_at hl 1 rfl) ?_
  refine kVi (As := [.int b0]) (rest := []) (wr := [(x0, .inr (11, [.ref xr, .ref xt, .ref xg, .ref xb, .ref xp, .ref xu, .ref xm, .ref xd, .ref xw, .ref xh, .ref xa, .ref xs, .ref xf, .int 0, .int 0, .long 0, .long 0, .int 0]))]) X (c_X4_exists l g xm b0 xma0 xma1 xma2 xma3 xma4 xma5 xma6 xma7 xma8 xma9 xma10 xma11 xma12) ok_X4_exists okv_X4_exists q_882 rfl hK hP hD hS hA hZ hl.1 [1] [0] rfl rfl rfl rfl rfl 0 4 rfl rfl rfl (Nat.le_of_ble_eq_true rfl) ⟨Nat.le_of_ble_eq_true rfl, Nat.le_of_ble_eq_true rfl⟩ dX11_show_5 ⟨Nat.le_of_ble_eq_true rfl, Nat.le_of_ble_eq_true rfl⟩ (fun r_1 w1 H locs hw_2 hP hD hS => ?_)
  rw [sp_X4_exists] at hw_2
  rcases Classical.em (b0 < 0) with c_3 | c_3
  ·
    rw [if_pos c_3] at hw_2
    obtain ⟨e1, e2⟩ := Prod.mk.inj hw_2
    subst e1; subst e2
    have hP : va_P g.1 classes [(x0, .inr (11, [.ref xr, .ref xt, .ref xg, .ref xb, .ref xp, .ref xu, .ref xm, .ref xd, .ref xw, .ref xh, .ref xa, .ref xs, .ref xf, .int 0, .int 0, .long 0, .long 0, .int 0])), (xm, .inr (4, [.ref xma0, .ref xma1, .ref xma2, .ref xma3, .ref xma4, .ref xma5, .ref xma6, .ref xma7, .ref xma8, .ref xma9, .ref xma10, .ref xma11, .ref xma12, .int 0]))] H := hP
    have hD : va_D A [(x0, .inr (11, [.ref xr, .ref xt, .ref xg, .ref xb, .ref xp, .ref xu, .ref xm, .ref xd, .ref xw, .ref xh, .ref xa, .ref xs, .ref xf, .int 0, .int 0, .long 0, .long 0, .int 0])), (xm, .inr (4, [.ref xma0, .ref xma1, .ref xma2, .ref xma3, .ref xma4, .ref xma5, .ref xma6, .ref xma7, .ref xma8, .ref xma9, .ref xma10, .ref xma11, .ref xma12, .int 0]))] := hD
    refine lv_if_ne (tgt := 13) hx hb dX11_show_8 (by decide) (fun c_4 => absurd (by decide) c_4) (fun _ => ?_)
    refine lv_iconst (v := (-1)) hx hb dX11_show_11 (by decide) ?_
    exact rI X hK hP hD hS dX11_show_12 (by rfl) (Nat.le_of_ble_eq_true rfl) (Nat.le_of_ble_eq_true rfl) (by show _ = _; unfold sp_X11_show; rw [if_pos c_3]; try rfl)
  ·
    rw [if_neg c_3] at hw_2
    obtain ⟨e1, e2⟩ := Prod.mk.inj hw_2
    subst e1; subst e2
    have hP : va_P g.1 classes [(x0, .inr (11, [.ref xr, .ref xt, .ref xg, .ref xb, .ref xp, .ref xu, .ref xm, .ref xd, .ref xw, .ref xh, .ref xa, .ref xs, .ref xf, .int 0, .int 0, .long 0, .long 0, .int 0])), (xm, .inr (4, [.ref xma0, .ref xma1, .ref xma2, .ref xma3, .ref xma4, .ref xma5, .ref xma6, .ref xma7, .ref xma8, .ref xma9, .ref xma10, .ref xma11, .ref xma12, .int 0]))] H := hP
    have hD : va_D A [(x0, .inr (11, [.ref xr, .ref xt, .ref xg, .ref xb, .ref xp, .ref xu, .ref xm, .ref xd, .ref xw, .ref xh, .ref xa, .ref xs, .ref xf, .int 0, .int 0, .long 0, .long 0, .int 0])), (xm, .inr (4, [.ref xma0, .ref xma1, .ref xma2, .ref xma3, .ref xma4, .ref xma5, .ref xma6, .ref xma7, .ref xma8, .ref xma9, .ref xma10, .ref xma11, .ref xma12, .int 0]))] := hD
    refine lv_if_ne (tgt := 13) hx hb dX11_show_8 (by decide) (fun c_5 => absurd (by decide) c_5) (fun _ => ?_)
    refine lv_iconst (v := (-1)) hx hb dX11_show_11 (by decide) ?_
    exact rI X hK hP hD hS dX11_show_12 (by rfl) (Nat.le_of_ble_eq_true rfl) (Nat.le_of_ble_eq_true rfl) (by show _ = _; unfold sp_X11_show; rw [if_neg c_3]; try rfl)
def sp_X11_take (g : GG) (x0 : Nat) (b0 : Int32) (b1 : Int32) (xr : Nat) (xt : Nat) (xg : Nat) (xb : Nat) (xp : Nat) (xu : Nat) (xm : Nat) (xd : Nat) (xw : Nat) (xh : Nat) (xa : Nat) (xs : Nat) (xf : Nat) (xba0 : Nat) (xba1 : Nat) (xba2 : Nat) (xba3 : Nat) (xba4 : Nat) (xba5 : Nat) (xba6 : Nat) (xba7 : Nat) (xba8 : Nat) (xba9 : Nat) (xba10 : Nat) (xba11 : Nat) : Int32 := if b0 < 0 then (-1) else (-1)
set_option maxHeartbeats 4000000 in
set_option maxRecDepth 100000 in
theorem c_X11_take (l : Launch) (g : GG) (x0 : Nat) (b0 : Int32) (b1 : Int32) (xr : Nat) (xt : Nat) (xg : Nat) (xb : Nat) (xp : Nat) (xu : Nat) (xm : Nat) (xd : Nat) (xw : Nat) (xh : Nat) (xa : Nat) (xs : Nat) (xf : Nat) (xba0 : Nat) (xba1 : Nat) (xba2 : Nat) (xba3 : Nat) (xba4 : Nat) (xba5 : Nat) (xba6 : Nat) (xba7 : Nat) (xba8 : Nat) (xba9 : Nat) (xba10 : Nat) (xba11 : Nat) : MI l g yX11_take cX11_take 7 (some .int) 1 21 0 0 [(x0, .inr (11, [.ref xr, .ref xt, .ref xg, .ref xb, .ref xp, .ref xu, .ref xm, .ref xd, .ref xw, .ref xh, .ref xa, .ref xs, .ref xf, .int 0, .int 0, .long 0, .long 0, .int 0])), (xb, .inr (1, [.ref xba0, .ref xba1, .ref xba2, .ref xba3, .ref xba4, .ref xba5, .ref xba6, .ref xba7, .ref xba8, .ref xba9, .ref xba10, .ref xba11, .int 0, .int 0]))] [.ref x0, .int b0, .int b1] (fun rr_ _ => rr_ = sp_X11_take g x0 b0 b1 xr xt xg xb xp xu xm xd xw xh xa xs xf xba0 xba1 xba2 xba3 xba4 xba5 xba6 xba7 xba8 xba9 xba10 xba11) := by
  refine met_of (fun A => va_Qi _ (bW g A) A) (by decide) (Nat.le_of_ble_eq_true rfl) ?_
  intro p e s m below meth c A ls X hK hP hD hA hZ hS hl
  have hx := X.1
  have hb := X.2.1
  have hml := X.2.2.1
  have hown := X.2.2.2.1
  have hts := X.2.2.2.2.1
  have hnm := X.2.2.2.2.2.2.2
  have hl : lv_has ls 7 [(0, .ref x0), (1, .int b0), (2, .int b1)] := hl
  refine lv_aload_n hx hb dX11_take_0 rfl (lv_at hl 0 rfl) ?_
  refine va_get (D := g.1) (ci := 11) (v := .ref xb) (C := RX11) (T := TX11) (N := 18) hx hb hts fw_X11 hown hK hP 0 rfl rfl 3 (by decide) (hts _ q_461) (fun _ h9 => h9) rfl dX11_take_1 ?_
  refine lv_iload_n hx hb dX11_take_4 rfl (lv_at hl 1 rfl) ?_
  refine kVi (As := [.int b0]) (rest := []) (wr := [(x0, .inr (11, [.ref xr, .ref xt, .ref xg, .ref xb, .ref xp, .ref xu, .ref xm, .ref xd, .ref xw, .ref xh, .ref xa, .ref xs, .ref xf, .int 0, .int 0, .long 0, .long 0, .int 0]))]) X (c_X1_exists l g xb b0 xba0 xba1 xba2 xba3 xba4 xba5 xba6 xba7 xba8 xba9 xba10 xba11) ok_X1_exists okv_X1_exists q_667 rfl hK hP hD hS hA hZ hl.1 [1] [0] rfl rfl rfl rfl rfl 0 1 rfl rfl rfl (Nat.le_of_ble_eq_true rfl) ⟨Nat.le_of_ble_eq_true rfl, Nat.le_of_ble_eq_true rfl⟩ dX11_take_5 ⟨Nat.le_of_ble_eq_true rfl, Nat.le_of_ble_eq_true rfl⟩ (fun r_1 w1 H locs hw_2 hP hD hS => ?_)
  rw [sp_X1_exists] at hw_2
  rcases Classical.em (b0 < 0) with c_3 | c_3
  ·
    rw [if_pos c_3] at hw_2
    obtain ⟨e1, e2⟩ := Prod.mk.inj hw_2
    subst e1; subst e2
    have hP : va_P g.1 classes [(x0, .inr (11, [.ref xr, .ref xt, .ref xg, .ref xb, .ref xp, .ref xu, .ref xm, .ref xd, .ref xw, .ref xh, .ref xa, .ref xs, .ref xf, .int 0, .int 0, .long 0, .long 0, .int 0])), (xb, .inr (1, [.ref xba0, .ref xba1, .ref xba2, .ref xba3, .ref xba4, .ref xba5, .ref xba6, .ref xba7, .ref xba8, .ref xba9, .ref xba10, .ref xba11, .int 0, .int 0]))] H := hP
    have hD : va_D A [(x0, .inr (11, [.ref xr, .ref xt, .ref xg, .ref xb, .ref xp, .ref xu, .ref xm, .ref xd, .ref xw, .ref xh, .ref xa, .ref xs, .ref xf, .int 0, .int 0, .long 0, .long 0, .int 0])), (xb, .inr (1, [.ref xba0, .ref xba1, .ref xba2, .ref xba3, .ref xba4, .ref xba5, .ref xba6, .ref xba7, .ref xba8, .ref xba9, .ref xba10, .ref xba11, .int 0, .int 0]))] := hD
    refine lv_if_eq (tgt := 22) hx hb dX11_take_8 (by decide) (fun _ => ?_) (fun c_4 => absurd (by decide) c_4)
    refine lv_iconst (v := (-1)) hx hb dX11_take_22 (by decide) ?_
    exact rI X hK hP hD hS dX11_take_23 (by rfl) (Nat.le_of_ble_eq_true rfl) (Nat.le_of_ble_eq_true rfl) (by show _ = _; unfold sp_X11_take; rw [if_pos c_3]; try rfl)
  ·
    rw [if_neg c_3] at hw_2
    obtain ⟨e1, e2⟩ := Prod.mk.inj hw_2
    subst e1; subst e2
    have hP : va_P g.1 classes [(x0, .inr (11, [.ref xr, .ref xt, .ref xg, .ref xb, .ref xp, .ref xu, .ref xm, .ref xd, .ref xw, .ref xh, .ref xa, .ref xs, .ref xf, .int 0, .int 0, .long 0, .long 0, .int 0])), (xb, .inr (1, [.ref xba0, .ref xba1, .ref xba2, .ref xba3, .ref xba4, .ref xba5, .ref xba6, .ref xba7, .ref xba8, .ref xba9, .ref xba10, .ref xba11, .int 0, .int 0]))] H := hP
    have hD : va_D A [(x0, .inr (11, [.ref xr, .ref xt, .ref xg, .ref xb, .ref xp, .ref xu, .ref xm, .ref xd, .ref xw, .ref xh, .ref xa, .ref xs, .ref xf, .int 0, .int 0, .long 0, .long 0, .int 0])), (xb, .inr (1, [.ref xba0, .ref xba1, .ref xba2, .ref xba3, .ref xba4, .ref xba5, .ref xba6, .ref xba7, .ref xba8, .ref xba9, .ref xba10, .ref xba11, .int 0, .int 0]))] := hD
    refine lv_if_eq (tgt := 22) hx hb dX11_take_8 (by decide) (fun _ => ?_) (fun c_5 => absurd (by decide) c_5)
    refine lv_iconst (v := (-1)) hx hb dX11_take_22 (by decide) ?_
    exact rI X hK hP hD hS dX11_take_23 (by rfl) (Nat.le_of_ble_eq_true rfl) (Nat.le_of_ble_eq_true rfl) (by show _ = _; unfold sp_X11_take; rw [if_neg c_3]; try rfl)
def sp_X11_moved (g : GG) (x0 : Nat) (b0 : Int32) (b1 : Int32) (b2 : Int32) (xr : Nat) (xt : Nat) (xg : Nat) (xb : Nat) (xp : Nat) (xu : Nat) (xm : Nat) (xd : Nat) (xw : Nat) (xh : Nat) (xa : Nat) (xs : Nat) (xf : Nat) (xma0 : Nat) (xma1 : Nat) (xma2 : Nat) (xma3 : Nat) (xma4 : Nat) (xma5 : Nat) (xma6 : Nat) (xma7 : Nat) (xma8 : Nat) (xma9 : Nat) (xma10 : Nat) (xma11 : Nat) (xma12 : Nat) : Int32 := if b0 < 0 then (-1) else (-1)
set_option maxHeartbeats 4000000 in
set_option maxRecDepth 100000 in
theorem c_X11_moved (l : Launch) (g : GG) (x0 : Nat) (b0 : Int32) (b1 : Int32) (b2 : Int32) (xr : Nat) (xt : Nat) (xg : Nat) (xb : Nat) (xp : Nat) (xu : Nat) (xm : Nat) (xd : Nat) (xw : Nat) (xh : Nat) (xa : Nat) (xs : Nat) (xf : Nat) (xma0 : Nat) (xma1 : Nat) (xma2 : Nat) (xma3 : Nat) (xma4 : Nat) (xma5 : Nat) (xma6 : Nat) (xma7 : Nat) (xma8 : Nat) (xma9 : Nat) (xma10 : Nat) (xma11 : Nat) (xma12 : Nat) : MI l g yX11_moved cX11_moved 6 (some .int) 1 21 0 0 [(x0, .inr (11, [.ref xr, .ref xt, .ref xg, .ref xb, .ref xp, .ref xu, .ref xm, .ref xd, .ref xw, .ref xh, .ref xa, .ref xs, .ref xf, .int 0, .int 0, .long 0, .long 0, .int 0])), (xm, .inr (4, [.ref xma0, .ref xma1, .ref xma2, .ref xma3, .ref xma4, .ref xma5, .ref xma6, .ref xma7, .ref xma8, .ref xma9, .ref xma10, .ref xma11, .ref xma12, .int 0]))] [.ref x0, .int b0, .int b1, .int b2] (fun rr_ _ => rr_ = sp_X11_moved g x0 b0 b1 b2 xr xt xg xb xp xu xm xd xw xh xa xs xf xma0 xma1 xma2 xma3 xma4 xma5 xma6 xma7 xma8 xma9 xma10 xma11 xma12) := by
  refine met_of (fun A => va_Qi _ (bW g A) A) (by decide) (Nat.le_of_ble_eq_true rfl) ?_
  intro p e s m below meth c A ls X hK hP hD hA hZ hS hl
  have hx := X.1
  have hb := X.2.1
  have hml := X.2.2.1
  have hown := X.2.2.2.1
  have hts := X.2.2.2.2.1
  have hnm := X.2.2.2.2.2.2.2
  have hl : lv_has ls 6 [(0, .ref x0), (1, .int b0), (2, .int b1), (3, .int b2)] := hl
  refine lv_aload_n hx hb dX11_moved_0 rfl (lv_at hl 0 rfl) ?_
  refine va_get (D := g.1) (ci := 11) (v := .ref xm) (C := RX11) (T := TX11) (N := 18) hx hb hts fw_X11 hown hK hP 0 rfl rfl 6 (by decide) (hts _ q_464) (fun _ h9 => h9) rfl dX11_moved_1 ?_
  refine lv_iload_n hx hb dX11_moved_4 rfl (lv_at hl 1 rfl) ?_
  refine kVi (As := [.int b0]) (rest := []) (wr := [(x0, .inr (11, [.ref xr, .ref xt, .ref xg, .ref xb, .ref xp, .ref xu, .ref xm, .ref xd, .ref xw, .ref xh, .ref xa, .ref xs, .ref xf, .int 0, .int 0, .long 0, .long 0, .int 0]))]) X (c_X4_exists l g xm b0 xma0 xma1 xma2 xma3 xma4 xma5 xma6 xma7 xma8 xma9 xma10 xma11 xma12) ok_X4_exists okv_X4_exists q_882 rfl hK hP hD hS hA hZ hl.1 [1] [0] rfl rfl rfl rfl rfl 0 4 rfl rfl rfl (Nat.le_of_ble_eq_true rfl) ⟨Nat.le_of_ble_eq_true rfl, Nat.le_of_ble_eq_true rfl⟩ dX11_moved_5 ⟨Nat.le_of_ble_eq_true rfl, Nat.le_of_ble_eq_true rfl⟩ (fun r_1 w1 H locs hw_2 hP hD hS => ?_)
  rw [sp_X4_exists] at hw_2
  rcases Classical.em (b0 < 0) with c_3 | c_3
  ·
    rw [if_pos c_3] at hw_2
    obtain ⟨e1, e2⟩ := Prod.mk.inj hw_2
    subst e1; subst e2
    have hP : va_P g.1 classes [(x0, .inr (11, [.ref xr, .ref xt, .ref xg, .ref xb, .ref xp, .ref xu, .ref xm, .ref xd, .ref xw, .ref xh, .ref xa, .ref xs, .ref xf, .int 0, .int 0, .long 0, .long 0, .int 0])), (xm, .inr (4, [.ref xma0, .ref xma1, .ref xma2, .ref xma3, .ref xma4, .ref xma5, .ref xma6, .ref xma7, .ref xma8, .ref xma9, .ref xma10, .ref xma11, .ref xma12, .int 0]))] H := hP
    have hD : va_D A [(x0, .inr (11, [.ref xr, .ref xt, .ref xg, .ref xb, .ref xp, .ref xu, .ref xm, .ref xd, .ref xw, .ref xh, .ref xa, .ref xs, .ref xf, .int 0, .int 0, .long 0, .long 0, .int 0])), (xm, .inr (4, [.ref xma0, .ref xma1, .ref xma2, .ref xma3, .ref xma4, .ref xma5, .ref xma6, .ref xma7, .ref xma8, .ref xma9, .ref xma10, .ref xma11, .ref xma12, .int 0]))] := hD
    refine lv_if_eq (tgt := 33) hx hb dX11_moved_8 (by decide) (fun _ => ?_) (fun c_4 => absurd (by decide) c_4)
    refine lv_iconst (v := (-1)) hx hb dX11_moved_33 (by decide) ?_
    exact rI X hK hP hD hS dX11_moved_34 (by rfl) (Nat.le_of_ble_eq_true rfl) (Nat.le_of_ble_eq_true rfl) (by show _ = _; unfold sp_X11_moved; rw [if_pos c_3]; try rfl)
  ·
    rw [if_neg c_3] at hw_2
    obtain ⟨e1, e2⟩ := Prod.mk.inj hw_2
    subst e1; subst e2
    have hP : va_P g.1 classes [(x0, .inr (11, [.ref xr, .ref xt, .ref xg, .ref xb, .ref xp, .ref xu, .ref xm, .ref xd, .ref xw, .ref xh, .ref xa, .ref xs, .ref xf, .int 0, .int 0, .long 0, .long 0, .int 0])), (xm, .inr (4, [.ref xma0, .ref xma1, .ref xma2, .ref xma3, .ref xma4, .ref xma5, .ref xma6, .ref xma7, .ref xma8, .ref xma9, .ref xma10, .ref xma11, .ref xma12, .int 0]))] H := hP
    have hD : va_D A [(x0, .inr (11, [.ref xr, .ref xt, .ref xg, .ref xb, .ref xp, .ref xu, .ref xm, .ref xd, .ref xw, .ref xh, .ref xa, .ref xs, .ref xf, .int 0, .int 0, .long 0, .long 0, .int 0])), (xm, .inr (4, [.ref xma0, .ref xma1, .ref xma2, .ref xma3, .ref xma4, .ref xma5, .ref xma6, .ref xma7, .ref xma8, .ref xma9, .ref xma10, .ref xma11, .ref xma12, .int 0]))] := hD
    refine lv_if_eq (tgt := 33) hx hb dX11_moved_8 (by decide) (fun _ => ?_) (fun c_5 => absurd (by decide) c_5)
    refine lv_iconst (v := (-1)) hx hb dX11_moved_33 (by decide) ?_
    exact rI X hK hP hD hS dX11_moved_34 (by rfl) (Nat.le_of_ble_eq_true rfl) (Nat.le_of_ble_eq_true rfl) (by show _ = _; unfold sp_X11_moved; rw [if_neg c_3]; try rfl)
def sp_X11_hearing (g : GG) (x0 : Nat) (b0 : Int32) (b1 : Int32) (b2 : Int32) (b3 : Int32) (xr : Nat) (xt : Nat) (xg : Nat) (xb : Nat) (xp : Nat) (xu : Nat) (xm : Nat) (xd : Nat) (xw : Nat) (xh : Nat) (xa : Nat) (xs : Nat) (xf : Nat) (xma0 : Nat) (xma1 : Nat) (xma2 : Nat) (xma3 : Nat) (xma4 : Nat) (xma5 : Nat) (xma6 : Nat) (xma7 : Nat) (xma8 : Nat) (xma9 : Nat) (xma10 : Nat) (xma11 : Nat) (xma12 : Nat) : Int32 := if b0 < 0 then (-1) else (-1)
set_option maxHeartbeats 4000000 in
set_option maxRecDepth 100000 in
theorem c_X11_hearing (l : Launch) (g : GG) (x0 : Nat) (b0 : Int32) (b1 : Int32) (b2 : Int32) (b3 : Int32) (xr : Nat) (xt : Nat) (xg : Nat) (xb : Nat) (xp : Nat) (xu : Nat) (xm : Nat) (xd : Nat) (xw : Nat) (xh : Nat) (xa : Nat) (xs : Nat) (xf : Nat) (xma0 : Nat) (xma1 : Nat) (xma2 : Nat) (xma3 : Nat) (xma4 : Nat) (xma5 : Nat) (xma6 : Nat) (xma7 : Nat) (xma8 : Nat) (xma9 : Nat) (xma10 : Nat) (xma11 : Nat) (xma12 : Nat) : MI l g yX11_hearing cX11_hearing 6 (some .int) 1 21 0 0 [(x0, .inr (11, [.ref xr, .ref xt, .ref xg, .ref xb, .ref xp, .ref xu, .ref xm, .ref xd, .ref xw, .ref xh, .ref xa, .ref xs, .ref xf, .int 0, .int 0, .long 0, .long 0, .int 0])), (xm, .inr (4, [.ref xma0, .ref xma1, .ref xma2, .ref xma3, .ref xma4, .ref xma5, .ref xma6, .ref xma7, .ref xma8, .ref xma9, .ref xma10, .ref xma11, .ref xma12, .int 0]))] [.ref x0, .int b0, .int b1, .int b2, .int b3] (fun rr_ _ => rr_ = sp_X11_hearing g x0 b0 b1 b2 b3 xr xt xg xb xp xu xm xd xw xh xa xs xf xma0 xma1 xma2 xma3 xma4 xma5 xma6 xma7 xma8 xma9 xma10 xma11 xma12) := by
  refine met_of (fun A => va_Qi _ (bW g A) A) (by decide) (Nat.le_of_ble_eq_true rfl) ?_
  intro p e s m below meth c A ls X hK hP hD hA hZ hS hl
  have hx := X.1
  have hb := X.2.1
  have hml := X.2.2.1
  have hown := X.2.2.2.1
  have hts := X.2.2.2.2.1
  have hnm := X.2.2.2.2.2.2.2
  have hl : lv_has ls 6 [(0, .ref x0), (1, .int b0), (2, .int b1), (3, .int b2), (4, .int b3)] := hl
  refine lv_aload_n hx hb dX11_hearing_0 rfl (lv_at hl 0 rfl) ?_
  refine va_get (D := g.1) (ci := 11) (v := .ref xm) (C := RX11) (T := TX11) (N := 18) hx hb hts fw_X11 hown hK hP 0 rfl rfl 6 (by decide) (hts _ q_464) (fun _ h9 => h9) rfl dX11_hearing_1 ?_
  refine lv_iload_n hx hb dX11_hearing_4 rfl (lv_at hl 1 rfl) ?_
  refine kVi (As := [.int b0]) (rest := []) (wr := [(x0, .inr (11, [.ref xr, .ref xt, .ref xg, .ref xb, .ref xp, .ref xu, .ref xm, .ref xd, .ref xw, .ref xh, .ref xa, .ref xs, .ref xf, .int 0, .int 0, .long 0, .long 0, .int 0]))]) X (c_X4_exists l g xm b0 xma0 xma1 xma2 xma3 xma4 xma5 xma6 xma7 xma8 xma9 xma10 xma11 xma12) ok_X4_exists okv_X4_exists q_882 rfl hK hP hD hS hA hZ hl.1 [1] [0] rfl rfl rfl rfl rfl 0 4 rfl rfl rfl (Nat.le_of_ble_eq_true rfl) ⟨Nat.le_of_ble_eq_true rfl, Nat.le_of_ble_eq_true rfl⟩ dX11_hearing_5 ⟨Nat.le_of_ble_eq_true rfl, Nat.le_of_ble_eq_true rfl⟩ (fun r_1 w1 H locs hw_2 hP hD hS => ?_)
  rw [sp_X4_exists] at hw_2
  rcases Classical.em (b0 < 0) with c_3 | c_3
  ·
    rw [if_pos c_3] at hw_2
    obtain ⟨e1, e2⟩ := Prod.mk.inj hw_2
    subst e1; subst e2
    have hP : va_P g.1 classes [(x0, .inr (11, [.ref xr, .ref xt, .ref xg, .ref xb, .ref xp, .ref xu, .ref xm, .ref xd, .ref xw, .ref xh, .ref xa, .ref xs, .ref xf, .int 0, .int 0, .long 0, .long 0, .int 0])), (xm, .inr (4, [.ref xma0, .ref xma1, .ref xma2, .ref xma3, .ref xma4, .ref xma5, .ref xma6, .ref xma7, .ref xma8, .ref xma9, .ref xma10, .ref xma11, .ref xma12, .int 0]))] H := hP
    have hD : va_D A [(x0, .inr (11, [.ref xr, .ref xt, .ref xg, .ref xb, .ref xp, .ref xu, .ref xm, .ref xd, .ref xw, .ref xh, .ref xa, .ref xs, .ref xf, .int 0, .int 0, .long 0, .long 0, .int 0])), (xm, .inr (4, [.ref xma0, .ref xma1, .ref xma2, .ref xma3, .ref xma4, .ref xma5, .ref xma6, .ref xma7, .ref xma8, .ref xma9, .ref xma10, .ref xma11, .ref xma12, .int 0]))] := hD
    refine lv_if_eq (tgt := 36) hx hb dX11_hearing_8 (by decide) (fun _ => ?_) (fun c_4 => absurd (by decide) c_4)
    refine lv_iconst (v := (-1)) hx hb dX11_hearing_36 (by decide) ?_
    exact rI X hK hP hD hS dX11_hearing_37 (by rfl) (Nat.le_of_ble_eq_true rfl) (Nat.le_of_ble_eq_true rfl) (by show _ = _; unfold sp_X11_hearing; rw [if_pos c_3]; try rfl)
  ·
    rw [if_neg c_3] at hw_2
    obtain ⟨e1, e2⟩ := Prod.mk.inj hw_2
    subst e1; subst e2
    have hP : va_P g.1 classes [(x0, .inr (11, [.ref xr, .ref xt, .ref xg, .ref xb, .ref xp, .ref xu, .ref xm, .ref xd, .ref xw, .ref xh, .ref xa, .ref xs, .ref xf, .int 0, .int 0, .long 0, .long 0, .int 0])), (xm, .inr (4, [.ref xma0, .ref xma1, .ref xma2, .ref xma3, .ref xma4, .ref xma5, .ref xma6, .ref xma7, .ref xma8, .ref xma9, .ref xma10, .ref xma11, .ref xma12, .int 0]))] H := hP
    have hD : va_D A [(x0, .inr (11, [.ref xr, .ref xt, .ref xg, .ref xb, .ref xp, .ref xu, .ref xm, .ref xd, .ref xw, .ref xh, .ref xa, .ref xs, .ref xf, .int 0, .int 0, .long 0, .long 0, .int 0])), (xm, .inr (4, [.ref xma0, .ref xma1, .ref xma2, .ref xma3, .ref xma4, .ref xma5, .ref xma6, .ref xma7, .ref xma8, .ref xma9, .ref xma10, .ref xma11, .ref xma12, .int 0]))] := hD
    refine lv_if_eq (tgt := 36) hx hb dX11_hearing_8 (by decide) (fun _ => ?_) (fun c_5 => absurd (by decide) c_5)
    refine lv_iconst (v := (-1)) hx hb dX11_hearing_36 (by decide) ?_
    exact rI X hK hP hD hS dX11_hearing_37 (by rfl) (Nat.le_of_ble_eq_true rfl) (Nat.le_of_ble_eq_true rfl) (by show _ = _; unfold sp_X11_hearing; rw [if_neg c_3]; try rfl)
def sp_X11_told (g : GG) (x0 : Nat) (b0 : Int32) (b1 : Int32) (xr : Nat) (xt : Nat) (xg : Nat) (xb : Nat) (xp : Nat) (xu : Nat) (xm : Nat) (xd : Nat) (xw : Nat) (xh : Nat) (xa : Nat) (xs : Nat) (xf : Nat) (xma0 : Nat) (xma1 : Nat) (xma2 : Nat) (xma3 : Nat) (xma4 : Nat) (xma5 : Nat) (xma6 : Nat) (xma7 : Nat) (xma8 : Nat) (xma9 : Nat) (xma10 : Nat) (xma11 : Nat) (xma12 : Nat) : Int32 := if b0 < 0 then (-1) else (-1)
set_option maxHeartbeats 4000000 in
set_option maxRecDepth 100000 in
theorem c_X11_told (l : Launch) (g : GG) (x0 : Nat) (b0 : Int32) (b1 : Int32) (xr : Nat) (xt : Nat) (xg : Nat) (xb : Nat) (xp : Nat) (xu : Nat) (xm : Nat) (xd : Nat) (xw : Nat) (xh : Nat) (xa : Nat) (xs : Nat) (xf : Nat) (xma0 : Nat) (xma1 : Nat) (xma2 : Nat) (xma3 : Nat) (xma4 : Nat) (xma5 : Nat) (xma6 : Nat) (xma7 : Nat) (xma8 : Nat) (xma9 : Nat) (xma10 : Nat) (xma11 : Nat) (xma12 : Nat) : MI l g yX11_told cX11_told 3 (some .int) 1 21 0 0 [(x0, .inr (11, [.ref xr, .ref xt, .ref xg, .ref xb, .ref xp, .ref xu, .ref xm, .ref xd, .ref xw, .ref xh, .ref xa, .ref xs, .ref xf, .int 0, .int 0, .long 0, .long 0, .int 0])), (xm, .inr (4, [.ref xma0, .ref xma1, .ref xma2, .ref xma3, .ref xma4, .ref xma5, .ref xma6, .ref xma7, .ref xma8, .ref xma9, .ref xma10, .ref xma11, .ref xma12, .int 0]))] [.ref x0, .int b0, .int b1] (fun rr_ _ => rr_ = sp_X11_told g x0 b0 b1 xr xt xg xb xp xu xm xd xw xh xa xs xf xma0 xma1 xma2 xma3 xma4 xma5 xma6 xma7 xma8 xma9 xma10 xma11 xma12) := by
  refine met_of (fun A => va_Qi _ (bW g A) A) (by decide) (Nat.le_of_ble_eq_true rfl) ?_
  intro p e s m below meth c A ls X hK hP hD hA hZ hS hl
  have hx := X.1
  have hb := X.2.1
  have hml := X.2.2.1
  have hown := X.2.2.2.1
  have hts := X.2.2.2.2.1
  have hnm := X.2.2.2.2.2.2.2
  have hl : lv_has ls 3 [(0, .ref x0), (1, .int b0), (2, .int b1)] := hl
  refine lv_aload_n hx hb dX11_told_0 rfl (lv_at hl 0 rfl) ?_
  refine va_get (D := g.1) (ci := 11) (v := .ref xm) (C := RX11) (T := TX11) (N := 18) hx hb hts fw_X11 hown hK hP 0 rfl rfl 6 (by decide) (hts _ q_464) (fun _ h9 => h9) rfl dX11_told_1 ?_
  refine lv_iload_n hx hb dX11_told_4 rfl (lv_at hl 1 rfl) ?_
  refine kVi (As := [.int b0]) (rest := []) (wr := [(x0, .inr (11, [.ref xr, .ref xt, .ref xg, .ref xb, .ref xp, .ref xu, .ref xm, .ref xd, .ref xw, .ref xh, .ref xa, .ref xs, .ref xf, .int 0, .int 0, .long 0, .long 0, .int 0]))]) X (c_X4_exists l g xm b0 xma0 xma1 xma2 xma3 xma4 xma5 xma6 xma7 xma8 xma9 xma10 xma11 xma12) ok_X4_exists okv_X4_exists q_882 rfl hK hP hD hS hA hZ hl.1 [1] [0] rfl rfl rfl rfl rfl 0 4 rfl rfl rfl (Nat.le_of_ble_eq_true rfl) ⟨Nat.le_of_ble_eq_true rfl, Nat.le_of_ble_eq_true rfl⟩ dX11_told_5 ⟨Nat.le_of_ble_eq_true rfl, Nat.le_of_ble_eq_true rfl⟩ (fun r_1 w1 H locs hw_2 hP hD hS => ?_)
  rw [sp_X4_exists] at hw_2
  rcases Classical.em (b0 < 0) with c_3 | c_3
  ·
    rw [if_pos c_3] at hw_2
    obtain ⟨e1, e2⟩ := Prod.mk.inj hw_2
    subst e1; subst e2
    have hP : va_P g.1 classes [(x0, .inr (11, [.ref xr, .ref xt, .ref xg, .ref xb, .ref xp, .ref xu, .ref xm, .ref xd, .ref xw, .ref xh, .ref xa, .ref xs, .ref xf, .int 0, .int 0, .long 0, .long 0, .int 0])), (xm, .inr (4, [.ref xma0, .ref xma1, .ref xma2, .ref xma3, .ref xma4, .ref xma5, .ref xma6, .ref xma7, .ref xma8, .ref xma9, .ref xma10, .ref xma11, .ref xma12, .int 0]))] H := hP
    have hD : va_D A [(x0, .inr (11, [.ref xr, .ref xt, .ref xg, .ref xb, .ref xp, .ref xu, .ref xm, .ref xd, .ref xw, .ref xh, .ref xa, .ref xs, .ref xf, .int 0, .int 0, .long 0, .long 0, .int 0])), (xm, .inr (4, [.ref xma0, .ref xma1, .ref xma2, .ref xma3, .ref xma4, .ref xma5, .ref xma6, .ref xma7, .ref xma8, .ref xma9, .ref xma10, .ref xma11, .ref xma12, .int 0]))] := hD
    refine lv_if_eq (tgt := 20) hx hb dX11_told_8 (by decide) (fun _ => ?_) (fun c_4 => absurd (by decide) c_4)
    refine lv_iconst (v := (-1)) hx hb dX11_told_20 (by decide) ?_
    exact rI X hK hP hD hS dX11_told_21 (by rfl) (Nat.le_of_ble_eq_true rfl) (Nat.le_of_ble_eq_true rfl) (by show _ = _; unfold sp_X11_told; rw [if_pos c_3]; try rfl)
  ·
    rw [if_neg c_3] at hw_2
    obtain ⟨e1, e2⟩ := Prod.mk.inj hw_2
    subst e1; subst e2
    have hP : va_P g.1 classes [(x0, .inr (11, [.ref xr, .ref xt, .ref xg, .ref xb, .ref xp, .ref xu, .ref xm, .ref xd, .ref xw, .ref xh, .ref xa, .ref xs, .ref xf, .int 0, .int 0, .long 0, .long 0, .int 0])), (xm, .inr (4, [.ref xma0, .ref xma1, .ref xma2, .ref xma3, .ref xma4, .ref xma5, .ref xma6, .ref xma7, .ref xma8, .ref xma9, .ref xma10, .ref xma11, .ref xma12, .int 0]))] H := hP
    have hD : va_D A [(x0, .inr (11, [.ref xr, .ref xt, .ref xg, .ref xb, .ref xp, .ref xu, .ref xm, .ref xd, .ref xw, .ref xh, .ref xa, .ref xs, .ref xf, .int 0, .int 0, .long 0, .long 0, .int 0])), (xm, .inr (4, [.ref xma0, .ref xma1, .ref xma2, .ref xma3, .ref xma4, .ref xma5, .ref xma6, .ref xma7, .ref xma8, .ref xma9, .ref xma10, .ref xma11, .ref xma12, .int 0]))] := hD
    refine lv_if_eq (tgt := 20) hx hb dX11_told_8 (by decide) (fun _ => ?_) (fun c_5 => absurd (by decide) c_5)
    refine lv_iconst (v := (-1)) hx hb dX11_told_20 (by decide) ?_
    exact rI X hK hP hD hS dX11_told_21 (by rfl) (Nat.le_of_ble_eq_true rfl) (Nat.le_of_ble_eq_true rfl) (by show _ = _; unfold sp_X11_told; rw [if_neg c_3]; try rfl)
def sp_X11_mark (g : GG) (x0 : Nat) (b0 : Int32) (b1 : Int32) (xr : Nat) (xt : Nat) (xg : Nat) (xb : Nat) (xp : Nat) (xu : Nat) (xm : Nat) (xd : Nat) (xw : Nat) (xh : Nat) (xa : Nat) (xs : Nat) (xf : Nat) (xma0 : Nat) (xma1 : Nat) (xma2 : Nat) (xma3 : Nat) (xma4 : Nat) (xma5 : Nat) (xma6 : Nat) (xma7 : Nat) (xma8 : Nat) (xma9 : Nat) (xma10 : Nat) (xma11 : Nat) (xma12 : Nat) : Int32 := if b0 < 0 then (-1) else (-1)
set_option maxHeartbeats 4000000 in
set_option maxRecDepth 100000 in
theorem c_X11_mark (l : Launch) (g : GG) (x0 : Nat) (b0 : Int32) (b1 : Int32) (xr : Nat) (xt : Nat) (xg : Nat) (xb : Nat) (xp : Nat) (xu : Nat) (xm : Nat) (xd : Nat) (xw : Nat) (xh : Nat) (xa : Nat) (xs : Nat) (xf : Nat) (xma0 : Nat) (xma1 : Nat) (xma2 : Nat) (xma3 : Nat) (xma4 : Nat) (xma5 : Nat) (xma6 : Nat) (xma7 : Nat) (xma8 : Nat) (xma9 : Nat) (xma10 : Nat) (xma11 : Nat) (xma12 : Nat) : MI l g yX11_mark cX11_mark 3 (some .int) 1 21 0 0 [(x0, .inr (11, [.ref xr, .ref xt, .ref xg, .ref xb, .ref xp, .ref xu, .ref xm, .ref xd, .ref xw, .ref xh, .ref xa, .ref xs, .ref xf, .int 0, .int 0, .long 0, .long 0, .int 0])), (xm, .inr (4, [.ref xma0, .ref xma1, .ref xma2, .ref xma3, .ref xma4, .ref xma5, .ref xma6, .ref xma7, .ref xma8, .ref xma9, .ref xma10, .ref xma11, .ref xma12, .int 0]))] [.ref x0, .int b0, .int b1] (fun rr_ _ => rr_ = sp_X11_mark g x0 b0 b1 xr xt xg xb xp xu xm xd xw xh xa xs xf xma0 xma1 xma2 xma3 xma4 xma5 xma6 xma7 xma8 xma9 xma10 xma11 xma12) := by
  refine met_of (fun A => va_Qi _ (bW g A) A) (by decide) (Nat.le_of_ble_eq_true rfl) ?_
  intro p e s m below meth c A ls X hK hP hD hA hZ hS hl
  have hx := X.1
  have hb := X.2.1
  have hml := X.2.2.1
  have hown := X.2.2.2.1
  have hts := X.2.2.2.2.1
  have hnm := X.2.2.2.2.2.2.2
  have hl : lv_has ls 3 [(0, .ref x0), (1, .int b0), (2, .int b1)] := hl
  refine lv_aload_n hx hb dX11_mark_0 rfl (lv_at hl 0 rfl) ?_
  refine va_get (D := g.1) (ci := 11) (v := .ref xm) (C := RX11) (T := TX11) (N := 18) hx hb hts fw_X11 hown hK hP 0 rfl rfl 6 (by decide) (hts _ q_464) (fun _ h9 => h9) rfl dX11_mark_1 ?_
  refine lv_iload_n hx hb dX11_mark_4 rfl (lv_at hl 1 rfl) ?_
  refine kVi (As := [.int b0]) (rest := []) (wr := [(x0, .inr (11, [.ref xr, .ref xt, .ref xg, .ref xb, .ref xp, .ref xu, .ref xm, .ref xd, .ref xw, .ref xh, .ref xa, .ref xs, .ref xf, .int 0, .int 0, .long 0, .long 0, .int 0]))]) X (c_X4_exists l g xm b0 xma0 xma1 xma2 xma3 xma4 xma5 xma6 xma7 xma8 xma9 xma10 xma11 xma12) ok_X4_exists okv_X4_exists q_882 rfl hK hP hD hS hA hZ hl.1 [1] [0] rfl rfl rfl rfl rfl 0 4 rfl rfl rfl (Nat.le_of_ble_eq_true rfl) ⟨Nat.le_of_ble_eq_true rfl, Nat.le_of_ble_eq_true rfl⟩ dX11_mark_5 ⟨Nat.le_of_ble_eq_true rfl, Nat.le_of_ble_eq_true rfl⟩ (fun r_1 w1 H locs hw_2 hP hD hS => ?_)
  rw [sp_X4_exists] at hw_2
  rcases Classical.em (b0 < 0) with c_3 | c_3
  ·
    rw [if_pos c_3] at hw_2
    obtain ⟨e1, e2⟩ := Prod.mk.inj hw_2
    subst e1; subst e2
    have hP : va_P g.1 classes [(x0, .inr (11, [.ref xr, .ref xt, .ref xg, .ref xb, .ref xp, .ref xu, .ref xm, .ref xd, .ref xw, .ref xh, .ref xa, .ref xs, .ref xf, .int 0, .int 0, .long 0, .long 0, .int 0])), (xm, .inr (4, [.ref xma0, .ref xma1, .ref xma2, .ref xma3, .ref xma4, .ref xma5, .ref xma6, .ref xma7, .ref xma8, .ref xma9, .ref xma10, .ref xma11, .ref xma12, .int 0]))] H := hP
    have hD : va_D A [(x0, .inr (11, [.ref xr, .ref xt, .ref xg, .ref xb, .ref xp, .ref xu, .ref xm, .ref xd, .ref xw, .ref xh, .ref xa, .ref xs, .ref xf, .int 0, .int 0, .long 0, .long 0, .int 0])), (xm, .inr (4, [.ref xma0, .ref xma1, .ref xma2, .ref xma3, .ref xma4, .ref xma5, .ref xma6, .ref xma7, .ref xma8, .ref xma9, .ref xma10, .ref xma11, .ref xma12, .int 0]))] := hD
    refine lv_if_eq (tgt := 22) hx hb dX11_mark_8 (by decide) (fun _ => ?_) (fun c_4 => absurd (by decide) c_4)
    refine lv_iconst (v := (-1)) hx hb dX11_mark_22 (by decide) ?_
    exact rI X hK hP hD hS dX11_mark_23 (by rfl) (Nat.le_of_ble_eq_true rfl) (Nat.le_of_ble_eq_true rfl) (by show _ = _; unfold sp_X11_mark; rw [if_pos c_3]; try rfl)
  ·
    rw [if_neg c_3] at hw_2
    obtain ⟨e1, e2⟩ := Prod.mk.inj hw_2
    subst e1; subst e2
    have hP : va_P g.1 classes [(x0, .inr (11, [.ref xr, .ref xt, .ref xg, .ref xb, .ref xp, .ref xu, .ref xm, .ref xd, .ref xw, .ref xh, .ref xa, .ref xs, .ref xf, .int 0, .int 0, .long 0, .long 0, .int 0])), (xm, .inr (4, [.ref xma0, .ref xma1, .ref xma2, .ref xma3, .ref xma4, .ref xma5, .ref xma6, .ref xma7, .ref xma8, .ref xma9, .ref xma10, .ref xma11, .ref xma12, .int 0]))] H := hP
    have hD : va_D A [(x0, .inr (11, [.ref xr, .ref xt, .ref xg, .ref xb, .ref xp, .ref xu, .ref xm, .ref xd, .ref xw, .ref xh, .ref xa, .ref xs, .ref xf, .int 0, .int 0, .long 0, .long 0, .int 0])), (xm, .inr (4, [.ref xma0, .ref xma1, .ref xma2, .ref xma3, .ref xma4, .ref xma5, .ref xma6, .ref xma7, .ref xma8, .ref xma9, .ref xma10, .ref xma11, .ref xma12, .int 0]))] := hD
    refine lv_if_eq (tgt := 22) hx hb dX11_mark_8 (by decide) (fun _ => ?_) (fun c_5 => absurd (by decide) c_5)
    refine lv_iconst (v := (-1)) hx hb dX11_mark_22 (by decide) ?_
    exact rI X hK hP hD hS dX11_mark_23 (by rfl) (Nat.le_of_ble_eq_true rfl) (Nat.le_of_ble_eq_true rfl) (by show _ = _; unfold sp_X11_mark; rw [if_neg c_3]; try rfl)
def sp_X11_cost (g : GG) (x0 : Nat) (b0 : Int32) (xr : Nat) (xt : Nat) (xg : Nat) (xb : Nat) (xp : Nat) (xu : Nat) (xm : Nat) (xd : Nat) (xw : Nat) (xh : Nat) (xa : Nat) (xs : Nat) (xf : Nat) (xma0 : Nat) (xma1 : Nat) (xma2 : Nat) (xma3 : Nat) (xma4 : Nat) (xma5 : Nat) (xma6 : Nat) (xma7 : Nat) (xma8 : Nat) (xma9 : Nat) (xma10 : Nat) (xma11 : Nat) (xma12 : Nat) : Int32 := if b0 < 0 then (-1) else (-1)
set_option maxHeartbeats 4000000 in
set_option maxRecDepth 100000 in
theorem c_X11_cost (l : Launch) (g : GG) (x0 : Nat) (b0 : Int32) (xr : Nat) (xt : Nat) (xg : Nat) (xb : Nat) (xp : Nat) (xu : Nat) (xm : Nat) (xd : Nat) (xw : Nat) (xh : Nat) (xa : Nat) (xs : Nat) (xf : Nat) (xma0 : Nat) (xma1 : Nat) (xma2 : Nat) (xma3 : Nat) (xma4 : Nat) (xma5 : Nat) (xma6 : Nat) (xma7 : Nat) (xma8 : Nat) (xma9 : Nat) (xma10 : Nat) (xma11 : Nat) (xma12 : Nat) : MI l g yX11_cost cX11_cost 2 (some .int) 1 21 0 0 [(x0, .inr (11, [.ref xr, .ref xt, .ref xg, .ref xb, .ref xp, .ref xu, .ref xm, .ref xd, .ref xw, .ref xh, .ref xa, .ref xs, .ref xf, .int 0, .int 0, .long 0, .long 0, .int 0])), (xm, .inr (4, [.ref xma0, .ref xma1, .ref xma2, .ref xma3, .ref xma4, .ref xma5, .ref xma6, .ref xma7, .ref xma8, .ref xma9, .ref xma10, .ref xma11, .ref xma12, .int 0]))] [.ref x0, .int b0] (fun rr_ _ => rr_ = sp_X11_cost g x0 b0 xr xt xg xb xp xu xm xd xw xh xa xs xf xma0 xma1 xma2 xma3 xma4 xma5 xma6 xma7 xma8 xma9 xma10 xma11 xma12) := by
  refine met_of (fun A => va_Qi _ (bW g A) A) (by decide) (Nat.le_of_ble_eq_true rfl) ?_
  intro p e s m below meth c A ls X hK hP hD hA hZ hS hl
  have hx := X.1
  have hb := X.2.1
  have hml := X.2.2.1
  have hown := X.2.2.2.1
  have hts := X.2.2.2.2.1
  have hnm := X.2.2.2.2.2.2.2
  have hl : lv_has ls 2 [(0, .ref x0), (1, .int b0)] := hl
  refine lv_aload_n hx hb dX11_cost_0 rfl (lv_at hl 0 rfl) ?_
  refine va_get (D := g.1) (ci := 11) (v := .ref xm) (C := RX11) (T := TX11) (N := 18) hx hb hts fw_X11 hown hK hP 0 rfl rfl 6 (by decide) (hts _ q_464) (fun _ h9 => h9) rfl dX11_cost_1 ?_
  refine lv_iload_n hx hb dX11_cost_4 rfl (lv_at hl 1 rfl) ?_
  refine kVi (As := [.int b0]) (rest := []) (wr := [(x0, .inr (11, [.ref xr, .ref xt, .ref xg, .ref xb, .ref xp, .ref xu, .ref xm, .ref xd, .ref xw, .ref xh, .ref xa, .ref xs, .ref xf, .int 0, .int 0, .long 0, .long 0, .int 0]))]) X (c_X4_exists l g xm b0 xma0 xma1 xma2 xma3 xma4 xma5 xma6 xma7 xma8 xma9 xma10 xma11 xma12) ok_X4_exists okv_X4_exists q_882 rfl hK hP hD hS hA hZ hl.1 [1] [0] rfl rfl rfl rfl rfl 0 4 rfl rfl rfl (Nat.le_of_ble_eq_true rfl) ⟨Nat.le_of_ble_eq_true rfl, Nat.le_of_ble_eq_true rfl⟩ dX11_cost_5 ⟨Nat.le_of_ble_eq_true rfl, Nat.le_of_ble_eq_true rfl⟩ (fun r_1 w1 H locs hw_2 hP hD hS => ?_)
  rw [sp_X4_exists] at hw_2
  rcases Classical.em (b0 < 0) with c_3 | c_3
  ·
    rw [if_pos c_3] at hw_2
    obtain ⟨e1, e2⟩ := Prod.mk.inj hw_2
    subst e1; subst e2
    have hP : va_P g.1 classes [(x0, .inr (11, [.ref xr, .ref xt, .ref xg, .ref xb, .ref xp, .ref xu, .ref xm, .ref xd, .ref xw, .ref xh, .ref xa, .ref xs, .ref xf, .int 0, .int 0, .long 0, .long 0, .int 0])), (xm, .inr (4, [.ref xma0, .ref xma1, .ref xma2, .ref xma3, .ref xma4, .ref xma5, .ref xma6, .ref xma7, .ref xma8, .ref xma9, .ref xma10, .ref xma11, .ref xma12, .int 0]))] H := hP
    have hD : va_D A [(x0, .inr (11, [.ref xr, .ref xt, .ref xg, .ref xb, .ref xp, .ref xu, .ref xm, .ref xd, .ref xw, .ref xh, .ref xa, .ref xs, .ref xf, .int 0, .int 0, .long 0, .long 0, .int 0])), (xm, .inr (4, [.ref xma0, .ref xma1, .ref xma2, .ref xma3, .ref xma4, .ref xma5, .ref xma6, .ref xma7, .ref xma8, .ref xma9, .ref xma10, .ref xma11, .ref xma12, .int 0]))] := hD
    refine lv_if_ne (tgt := 13) hx hb dX11_cost_8 (by decide) (fun c_4 => absurd (by decide) c_4) (fun _ => ?_)
    refine lv_iconst (v := (-1)) hx hb dX11_cost_11 (by decide) ?_
    exact rI X hK hP hD hS dX11_cost_12 (by rfl) (Nat.le_of_ble_eq_true rfl) (Nat.le_of_ble_eq_true rfl) (by show _ = _; unfold sp_X11_cost; rw [if_pos c_3]; try rfl)
  ·
    rw [if_neg c_3] at hw_2
    obtain ⟨e1, e2⟩ := Prod.mk.inj hw_2
    subst e1; subst e2
    have hP : va_P g.1 classes [(x0, .inr (11, [.ref xr, .ref xt, .ref xg, .ref xb, .ref xp, .ref xu, .ref xm, .ref xd, .ref xw, .ref xh, .ref xa, .ref xs, .ref xf, .int 0, .int 0, .long 0, .long 0, .int 0])), (xm, .inr (4, [.ref xma0, .ref xma1, .ref xma2, .ref xma3, .ref xma4, .ref xma5, .ref xma6, .ref xma7, .ref xma8, .ref xma9, .ref xma10, .ref xma11, .ref xma12, .int 0]))] H := hP
    have hD : va_D A [(x0, .inr (11, [.ref xr, .ref xt, .ref xg, .ref xb, .ref xp, .ref xu, .ref xm, .ref xd, .ref xw, .ref xh, .ref xa, .ref xs, .ref xf, .int 0, .int 0, .long 0, .long 0, .int 0])), (xm, .inr (4, [.ref xma0, .ref xma1, .ref xma2, .ref xma3, .ref xma4, .ref xma5, .ref xma6, .ref xma7, .ref xma8, .ref xma9, .ref xma10, .ref xma11, .ref xma12, .int 0]))] := hD
    refine lv_if_ne (tgt := 13) hx hb dX11_cost_8 (by decide) (fun c_5 => absurd (by decide) c_5) (fun _ => ?_)
    refine lv_iconst (v := (-1)) hx hb dX11_cost_11 (by decide) ?_
    exact rI X hK hP hD hS dX11_cost_12 (by rfl) (Nat.le_of_ble_eq_true rfl) (Nat.le_of_ble_eq_true rfl) (by show _ = _; unfold sp_X11_cost; rw [if_neg c_3]; try rfl)
def sp_X11_shown (g : GG) (x0 : Nat) (b0 : Int32) (xr : Nat) (xt : Nat) (xg : Nat) (xb : Nat) (xp : Nat) (xu : Nat) (xm : Nat) (xd : Nat) (xw : Nat) (xh : Nat) (xa : Nat) (xs : Nat) (xf : Nat) (xma0 : Nat) (xma1 : Nat) (xma2 : Nat) (xma3 : Nat) (xma4 : Nat) (xma5 : Nat) (xma6 : Nat) (xma7 : Nat) (xma8 : Nat) (xma9 : Nat) (xma10 : Nat) (xma11 : Nat) (xma12 : Nat) : Int32 := if b0 < 0 then (-1) else (-1)
set_option maxHeartbeats 4000000 in
set_option maxRecDepth 100000 in
theorem c_X11_shown (l : Launch) (g : GG) (x0 : Nat) (b0 : Int32) (xr : Nat) (xt : Nat) (xg : Nat) (xb : Nat) (xp : Nat) (xu : Nat) (xm : Nat) (xd : Nat) (xw : Nat) (xh : Nat) (xa : Nat) (xs : Nat) (xf : Nat) (xma0 : Nat) (xma1 : Nat) (xma2 : Nat) (xma3 : Nat) (xma4 : Nat) (xma5 : Nat) (xma6 : Nat) (xma7 : Nat) (xma8 : Nat) (xma9 : Nat) (xma10 : Nat) (xma11 : Nat) (xma12 : Nat) : MI l g yX11_shown cX11_shown 2 (some .int) 1 21 0 0 [(x0, .inr (11, [.ref xr, .ref xt, .ref xg, .ref xb, .ref xp, .ref xu, .ref xm, .ref xd, .ref xw, .ref xh, .ref xa, .ref xs, .ref xf, .int 0, .int 0, .long 0, .long 0, .int 0])), (xm, .inr (4, [.ref xma0, .ref xma1, .ref xma2, .ref xma3, .ref xma4, .ref xma5, .ref xma6, .ref xma7, .ref xma8, .ref xma9, .ref xma10, .ref xma11, .ref xma12, .int 0]))] [.ref x0, .int b0] (fun rr_ _ => rr_ = sp_X11_shown g x0 b0 xr xt xg xb xp xu xm xd xw xh xa xs xf xma0 xma1 xma2 xma3 xma4 xma5 xma6 xma7 xma8 xma9 xma10 xma11 xma12) := by
  refine met_of (fun A => va_Qi _ (bW g A) A) (by decide) (Nat.le_of_ble_eq_true rfl) ?_
  intro p e s m below meth c A ls X hK hP hD hA hZ hS hl
  have hx := X.1
  have hb := X.2.1
  have hml := X.2.2.1
  have hown := X.2.2.2.1
  have hts := X.2.2.2.2.1
  have hnm := X.2.2.2.2.2.2.2
  have hl : lv_has ls 2 [(0, .ref x0), (1, .int b0)] := hl
  refine lv_aload_n hx hb dX11_shown_0 rfl (lv_at hl 0 rfl) ?_
  refine va_get (D := g.1) (ci := 11) (v := .ref xm) (C := RX11) (T := TX11) (N := 18) hx hb hts fw_X11 hown hK hP 0 rfl rfl 6 (by decide) (hts _ q_464) (fun _ h9 => h9) rfl dX11_shown_1 ?_
  refine lv_iload_n hx hb dX11_shown_4 rfl (lv_at hl 1 rfl) ?_
  refine kVi (As := [.int b0]) (rest := []) (wr := [(x0, .inr (11, [.ref xr, .ref xt, .ref xg, .ref xb, .ref xp, .ref xu, .ref xm, .ref xd, .ref xw, .ref xh, .ref xa, .ref xs, .ref xf, .int 0, .int 0, .long 0, .long 0, .int 0]))]) X (c_X4_exists l g xm b0 xma0 xma1 xma2 xma3 xma4 xma5 xma6 xma7 xma8 xma9 xma10 xma11 xma12) ok_X4_exists okv_X4_exists q_882 rfl hK hP hD hS hA hZ hl.1 [1] [0] rfl rfl rfl rfl rfl 0 4 rfl rfl rfl (Nat.le_of_ble_eq_true rfl) ⟨Nat.le_of_ble_eq_true rfl, Nat.le_of_ble_eq_true rfl⟩ dX11_shown_5 ⟨Nat.le_of_ble_eq_true rfl, Nat.le_of_ble_eq_true rfl⟩ (fun r_1 w1 H locs hw_2 hP hD hS => ?_)
  rw [sp_X4_exists] at hw_2
  rcases Classical.em (b0 < 0) with c_3 | c_3
  ·
    rw [if_pos c_3] at hw_2
    obtain ⟨e1, e2⟩ := Prod.mk.inj hw_2
    subst e1; subst e2
    have hP : va_P g.1 classes [(x0, .inr (11, [.ref xr, .ref xt, .ref xg, .ref xb, .ref xp, .ref xu, .ref xm, .ref xd, .ref xw, .ref xh, .ref xa, .ref xs, .ref xf, .int 0, .int 0, .long 0, .long 0, .int 0])), (xm, .inr (4, [.ref xma0, .ref xma1, .ref xma2, .ref xma3, .ref xma4, .ref xma5, .ref xma6, .ref xma7, .ref xma8, .ref xma9, .ref xma10, .ref xma11, .ref xma12, .int 0]))] H := hP
    have hD : va_D A [(x0, .inr (11, [.ref xr, .ref xt, .ref xg, .ref xb, .ref xp, .ref xu, .ref xm, .ref xd, .ref xw, .ref xh, .ref xa, .ref xs, .ref xf, .int 0, .int 0, .long 0, .long 0, .int 0])), (xm, .inr (4, [.ref xma0, .ref xma1, .ref xma2, .ref xma3, .ref xma4, .ref xma5, .ref xma6, .ref xma7, .ref xma8, .ref xma9, .ref xma10, .ref xma11, .ref xma12, .int 0]))] := hD
    refine lv_if_ne (tgt := 13) hx hb dX11_shown_8 (by decide) (fun c_4 => absurd (by decide) c_4) (fun _ => ?_)
    refine lv_iconst (v := (-1)) hx hb dX11_shown_11 (by decide) ?_
    exact rI X hK hP hD hS dX11_shown_12 (by rfl) (Nat.le_of_ble_eq_true rfl) (Nat.le_of_ble_eq_true rfl) (by show _ = _; unfold sp_X11_shown; rw [if_pos c_3]; try rfl)
  ·
    rw [if_neg c_3] at hw_2
    obtain ⟨e1, e2⟩ := Prod.mk.inj hw_2
    subst e1; subst e2
    have hP : va_P g.1 classes [(x0, .inr (11, [.ref xr, .ref xt, .ref xg, .ref xb, .ref xp, .ref xu, .ref xm, .ref xd, .ref xw, .ref xh, .ref xa, .ref xs, .ref xf, .int 0, .int 0, .long 0, .long 0, .int 0])), (xm, .inr (4, [.ref xma0, .ref xma1, .ref xma2, .ref xma3, .ref xma4, .ref xma5, .ref xma6, .ref xma7, .ref xma8, .ref xma9, .ref xma10, .ref xma11, .ref xma12, .int 0]))] H := hP
    have hD : va_D A [(x0, .inr (11, [.ref xr, .ref xt, .ref xg, .ref xb, .ref xp, .ref xu, .ref xm, .ref xd, .ref xw, .ref xh, .ref xa, .ref xs, .ref xf, .int 0, .int 0, .long 0, .long 0, .int 0])), (xm, .inr (4, [.ref xma0, .ref xma1, .ref xma2, .ref xma3, .ref xma4, .ref xma5, .ref xma6, .ref xma7, .ref xma8, .ref xma9, .ref xma10, .ref xma11, .ref xma12, .int 0]))] := hD
    refine lv_if_ne (tgt := 13) hx hb dX11_shown_8 (by decide) (fun c_5 => absurd (by decide) c_5) (fun _ => ?_)
    refine lv_iconst (v := (-1)) hx hb dX11_shown_11 (by decide) ?_
    exact rI X hK hP hD hS dX11_shown_12 (by rfl) (Nat.le_of_ble_eq_true rfl) (Nat.le_of_ble_eq_true rfl) (by show _ = _; unfold sp_X11_shown; rw [if_neg c_3]; try rfl)
def sp_X11_over (g : GG) (x0 : Nat) (b0 : Int32) (xr : Nat) (xt : Nat) (xg : Nat) (xb : Nat) (xp : Nat) (xu : Nat) (xm : Nat) (xd : Nat) (xw : Nat) (xh : Nat) (xa : Nat) (xs : Nat) (xf : Nat) (xma0 : Nat) (xma1 : Nat) (xma2 : Nat) (xma3 : Nat) (xma4 : Nat) (xma5 : Nat) (xma6 : Nat) (xma7 : Nat) (xma8 : Nat) (xma9 : Nat) (xma10 : Nat) (xma11 : Nat) (xma12 : Nat) : Int32 := if b0 < 0 then (-1) else (-1)
set_option maxHeartbeats 4000000 in
set_option maxRecDepth 100000 in
theorem c_X11_over (l : Launch) (g : GG) (x0 : Nat) (b0 : Int32) (xr : Nat) (xt : Nat) (xg : Nat) (xb : Nat) (xp : Nat) (xu : Nat) (xm : Nat) (xd : Nat) (xw : Nat) (xh : Nat) (xa : Nat) (xs : Nat) (xf : Nat) (xma0 : Nat) (xma1 : Nat) (xma2 : Nat) (xma3 : Nat) (xma4 : Nat) (xma5 : Nat) (xma6 : Nat) (xma7 : Nat) (xma8 : Nat) (xma9 : Nat) (xma10 : Nat) (xma11 : Nat) (xma12 : Nat) : MI l g yX11_over cX11_over 2 (some .int) 1 21 0 0 [(x0, .inr (11, [.ref xr, .ref xt, .ref xg, .ref xb, .ref xp, .ref xu, .ref xm, .ref xd, .ref xw, .ref xh, .ref xa, .ref xs, .ref xf, .int 0, .int 0, .long 0, .long 0, .int 0])), (xm, .inr (4, [.ref xma0, .ref xma1, .ref xma2, .ref xma3, .ref xma4, .ref xma5, .ref xma6, .ref xma7, .ref xma8, .ref xma9, .ref xma10, .ref xma11, .ref xma12, .int 0]))] [.ref x0, .int b0] (fun rr_ _ => rr_ = sp_X11_over g x0 b0 xr xt xg xb xp xu xm xd xw xh xa xs xf xma0 xma1 xma2 xma3 xma4 xma5 xma6 xma7 xma8 xma9 xma10 xma11 xma12) := by
  refine met_of (fun A => va_Qi _ (bW g A) A) (by decide) (Nat.le_of_ble_eq_true rfl) ?_
  intro p e s m below meth c A ls X hK hP hD hA hZ hS hl
  have hx := X.1
  have hb := X.2.1
  have hml := X.2.2.1
  have hown := X.2.2.2.1
  have hts := X.2.2.2.2.1
  have hnm := X.2.2.2.2.2.2.2
  have hl : lv_has ls 2 [(0, .ref x0), (1, .int b0)] := hl
  refine lv_aload_n hx hb dX11_over_0 rfl (lv_at hl 0 rfl) ?_
  refine va_get (D := g.1) (ci := 11) (v := .ref xm) (C := RX11) (T := TX11) (N := 18) hx hb hts fw_X11 hown hK hP 0 rfl rfl 6 (by decide) (hts _ q_464) (fun _ h9 => h9) rfl dX11_over_1 ?_
  refine lv_iload_n hx hb dX11_over_4 rfl (lv_at hl 1 rfl) ?_
  refine kVi (As := [.int b0]) (rest := []) (wr := [(x0, .inr (11, [.ref xr, .ref xt, .ref xg, .ref xb, .ref xp, .ref xu, .ref xm, .ref xd, .ref xw, .ref xh, .ref xa, .ref xs, .ref xf, .int 0, .int 0, .long 0, .long 0, .int 0]))]) X (c_X4_exists l g xm b0 xma0 xma1 xma2 xma3 xma4 xma5 xma6 xma7 xma8 xma9 xma10 xma11 xma12) ok_X4_exists okv_X4_exists q_882 rfl hK hP hD hS hA hZ hl.1 [1] [0] rfl rfl rfl rfl rfl 0 4 rfl rfl rfl (Nat.le_of_ble_eq_true rfl) ⟨Nat.le_of_ble_eq_true rfl, Nat.le_of_ble_eq_true rfl⟩ dX11_over_5 ⟨Nat.le_of_ble_eq_true rfl, Nat.le_of_ble_eq_true rfl⟩ (fun r_1 w1 H locs hw_2 hP hD hS => ?_)
  rw [sp_X4_exists] at hw_2
  rcases Classical.em (b0 < 0) with c_3 | c_3
  ·
    rw [if_pos c_3] at hw_2
    obtain ⟨e1, e2⟩ := Prod.mk.inj hw_2
    subst e1; subst e2
    have hP : va_P g.1 classes [(x0, .inr (11, [.ref xr, .ref xt, .ref xg, .ref xb, .ref xp, .ref xu, .ref xm, .ref xd, .ref xw, .ref xh, .ref xa, .ref xs, .ref xf, .int 0, .int 0, .long 0, .long 0, .int 0])), (xm, .inr (4, [.ref xma0, .ref xma1, .ref xma2, .ref xma3, .ref xma4, .ref xma5, .ref xma6, .ref xma7, .ref xma8, .ref xma9, .ref xma10, .ref xma11, .ref xma12, .int 0]))] H := hP
    have hD : va_D A [(x0, .inr (11, [.ref xr, .ref xt, .ref xg, .ref xb, .ref xp, .ref xu, .ref xm, .ref xd, .ref xw, .ref xh, .ref xa, .ref xs, .ref xf, .int 0, .int 0, .long 0, .long 0, .int 0])), (xm, .inr (4, [.ref xma0, .ref xma1, .ref xma2, .ref xma3, .ref xma4, .ref xma5, .ref xma6, .ref xma7, .ref xma8, .ref xma9, .ref xma10, .ref xma11, .ref xma12, .int 0]))] := hD
    refine lv_if_ne (tgt := 13) hx hb dX11_over_8 (by decide) (fun c_4 => absurd (by decide) c_4) (fun _ => ?_)
    refine lv_iconst (v := (-1)) hx hb dX11_over_11 (by decide) ?_
    exact rI X hK hP hD hS dX11_over_12 (by rfl) (Nat.le_of_ble_eq_true rfl) (Nat.le_of_ble_eq_true rfl) (by show _ = _; unfold sp_X11_over; rw [if_pos c_3]; try rfl)
  ·
    rw [if_neg c_3] at hw_2
    obtain ⟨e1, e2⟩ := Prod.mk.inj hw_2
    subst e1; subst e2
    have hP : va_P g.1 classes [(x0, .inr (11, [.ref xr, .ref xt, .ref xg, .ref xb, .ref xp, .ref xu, .ref xm, .ref xd, .ref xw, .ref xh, .ref xa, .ref xs, .ref xf, .int 0, .int 0, .long 0, .long 0, .int 0])), (xm, .inr (4, [.ref xma0, .ref xma1, .ref xma2, .ref xma3, .ref xma4, .ref xma5, .ref xma6, .ref xma7, .ref xma8, .ref xma9, .ref xma10, .ref xma11, .ref xma12, .int 0]))] H := hP
    have hD : va_D A [(x0, .inr (11, [.ref xr, .ref xt, .ref xg, .ref xb, .ref xp, .ref xu, .ref xm, .ref xd, .ref xw, .ref xh, .ref xa, .ref xs, .ref xf, .int 0, .int 0, .long 0, .long 0, .int 0])), (xm, .inr (4, [.ref xma0, .ref xma1, .ref xma2, .ref xma3, .ref xma4, .ref xma5, .ref xma6, .ref xma7, .ref xma8, .ref xma9, .ref xma10, .ref xma11, .ref xma12, .int 0]))] := hD
    refine lv_if_ne (tgt := 13) hx hb dX11_over_8 (by decide) (fun c_5 => absurd (by decide) c_5) (fun _ => ?_)
    refine lv_iconst (v := (-1)) hx hb dX11_over_11 (by decide) ?_
    exact rI X hK hP hD hS dX11_over_12 (by rfl) (Nat.le_of_ble_eq_true rfl) (Nat.le_of_ble_eq_true rfl) (by show _ = _; unfold sp_X11_over; rw [if_neg c_3]; try rfl)
def sp_X11_buy (g : GG) (x0 : Nat) (b0 : Int32) (b1 : Int32) (xr : Nat) (xt : Nat) (xg : Nat) (xb : Nat) (xp : Nat) (xu : Nat) (xm : Nat) (xd : Nat) (xw : Nat) (xh : Nat) (xa : Nat) (xs : Nat) (xf : Nat) (xba0 : Nat) (xba1 : Nat) (xba2 : Nat) (xba3 : Nat) (xba4 : Nat) (xba5 : Nat) (xba6 : Nat) (xba7 : Nat) (xba8 : Nat) (xba9 : Nat) (xba10 : Nat) (xba11 : Nat) : Int32 := if b0 < 0 then (-1) else (-1)
set_option maxHeartbeats 4000000 in
set_option maxRecDepth 100000 in
theorem c_X11_buy (l : Launch) (g : GG) (x0 : Nat) (b0 : Int32) (b1 : Int32) (xr : Nat) (xt : Nat) (xg : Nat) (xb : Nat) (xp : Nat) (xu : Nat) (xm : Nat) (xd : Nat) (xw : Nat) (xh : Nat) (xa : Nat) (xs : Nat) (xf : Nat) (xba0 : Nat) (xba1 : Nat) (xba2 : Nat) (xba3 : Nat) (xba4 : Nat) (xba5 : Nat) (xba6 : Nat) (xba7 : Nat) (xba8 : Nat) (xba9 : Nat) (xba10 : Nat) (xba11 : Nat) : MI l g yX11_buy cX11_buy 3 (some .int) 1 21 0 0 [(x0, .inr (11, [.ref xr, .ref xt, .ref xg, .ref xb, .ref xp, .ref xu, .ref xm, .ref xd, .ref xw, .ref xh, .ref xa, .ref xs, .ref xf, .int 0, .int 0, .long 0, .long 0, .int 0])), (xb, .inr (1, [.ref xba0, .ref xba1, .ref xba2, .ref xba3, .ref xba4, .ref xba5, .ref xba6, .ref xba7, .ref xba8, .ref xba9, .ref xba10, .ref xba11, .int 0, .int 0]))] [.ref x0, .int b0, .int b1] (fun rr_ _ => rr_ = sp_X11_buy g x0 b0 b1 xr xt xg xb xp xu xm xd xw xh xa xs xf xba0 xba1 xba2 xba3 xba4 xba5 xba6 xba7 xba8 xba9 xba10 xba11) := by
  refine met_of (fun A => va_Qi _ (bW g A) A) (by decide) (Nat.le_of_ble_eq_true rfl) ?_
  intro p e s m below meth c A ls X hK hP hD hA hZ hS hl
  have hx := X.1
  have hb := X.2.1
  have hml := X.2.2.1
  have hown := X.2.2.2.1
  have hts := X.2.2.2.2.1
  have hnm := X.2.2.2.2.2.2.2
  have hl : lv_has ls 3 [(0, .ref x0), (1, .int b0), (2, .int b1)] := hl
  refine lv_aload_n hx hb dX11_buy_0 rfl (lv_at hl 0 rfl) ?_
  refine va_get (D := g.1) (ci := 11) (v := .ref xb) (C := RX11) (T := TX11) (N := 18) hx hb hts fw_X11 hown hK hP 0 rfl rfl 3 (by decide) (hts _ q_461) (fun _ h9 => h9) rfl dX11_buy_1 ?_
  refine lv_iload_n hx hb dX11_buy_4 rfl (lv_at hl 1 rfl) ?_
  refine kVi (As := [.int b0]) (rest := []) (wr := [(x0, .inr (11, [.ref xr, .ref xt, .ref xg, .ref xb, .ref xp, .ref xu, .ref xm, .ref xd, .ref xw, .ref xh, .ref xa, .ref xs, .ref xf, .int 0, .int 0, .long 0, .long 0, .int 0]))]) X (c_X1_exists l g xb b0 xba0 xba1 xba2 xba3 xba4 xba5 xba6 xba7 xba8 xba9 xba10 xba11) ok_X1_exists okv_X1_exists q_667 rfl hK hP hD hS hA hZ hl.1 [1] [0] rfl rfl rfl rfl rfl 0 1 rfl rfl rfl (Nat.le_of_ble_eq_true rfl) ⟨Nat.le_of_ble_eq_true rfl, Nat.le_of_ble_eq_true rfl⟩ dX11_buy_5 ⟨Nat.le_of_ble_eq_true rfl, Nat.le_of_ble_eq_true rfl⟩ (fun r_1 w1 H locs hw_2 hP hD hS => ?_)
  rw [sp_X1_exists] at hw_2
  rcases Classical.em (b0 < 0) with c_3 | c_3
  ·
    rw [if_pos c_3] at hw_2
    obtain ⟨e1, e2⟩ := Prod.mk.inj hw_2
    subst e1; subst e2
    have hP : va_P g.1 classes [(x0, .inr (11, [.ref xr, .ref xt, .ref xg, .ref xb, .ref xp, .ref xu, .ref xm, .ref xd, .ref xw, .ref xh, .ref xa, .ref xs, .ref xf, .int 0, .int 0, .long 0, .long 0, .int 0])), (xb, .inr (1, [.ref xba0, .ref xba1, .ref xba2, .ref xba3, .ref xba4, .ref xba5, .ref xba6, .ref xba7, .ref xba8, .ref xba9, .ref xba10, .ref xba11, .int 0, .int 0]))] H := hP
    have hD : va_D A [(x0, .inr (11, [.ref xr, .ref xt, .ref xg, .ref xb, .ref xp, .ref xu, .ref xm, .ref xd, .ref xw, .ref xh, .ref xa, .ref xs, .ref xf, .int 0, .int 0, .long 0, .long 0, .int 0])), (xb, .inr (1, [.ref xba0, .ref xba1, .ref xba2, .ref xba3, .ref xba4, .ref xba5, .ref xba6, .ref xba7, .ref xba8, .ref xba9, .ref xba10, .ref xba11, .int 0, .int 0]))] := hD
    refine lv_if_eq (tgt := 22) hx hb dX11_buy_8 (by decide) (fun _ => ?_) (fun c_4 => absurd (by decide) c_4)
    refine lv_iconst (v := (-1)) hx hb dX11_buy_22 (by decide) ?_
    exact rI X hK hP hD hS dX11_buy_23 (by rfl) (Nat.le_of_ble_eq_true rfl) (Nat.le_of_ble_eq_true rfl) (by show _ = _; unfold sp_X11_buy; rw [if_pos c_3]; try rfl)
  ·
    rw [if_neg c_3] at hw_2
    obtain ⟨e1, e2⟩ := Prod.mk.inj hw_2
    subst e1; subst e2
    have hP : va_P g.1 classes [(x0, .inr (11, [.ref xr, .ref xt, .ref xg, .ref xb, .ref xp, .ref xu, .ref xm, .ref xd, .ref xw, .ref xh, .ref xa, .ref xs, .ref xf, .int 0, .int 0, .long 0, .long 0, .int 0])), (xb, .inr (1, [.ref xba0, .ref xba1, .ref xba2, .ref xba3, .ref xba4, .ref xba5, .ref xba6, .ref xba7, .ref xba8, .ref xba9, .ref xba10, .ref xba11, .int 0, .int 0]))] H := hP
    have hD : va_D A [(x0, .inr (11, [.ref xr, .ref xt, .ref xg, .ref xb, .ref xp, .ref xu, .ref xm, .ref xd, .ref xw, .ref xh, .ref xa, .ref xs, .ref xf, .int 0, .int 0, .long 0, .long 0, .int 0])), (xb, .inr (1, [.ref xba0, .ref xba1, .ref xba2, .ref xba3, .ref xba4, .ref xba5, .ref xba6, .ref xba7, .ref xba8, .ref xba9, .ref xba10, .ref xba11, .int 0, .int 0]))] := hD
    refine lv_if_eq (tgt := 22) hx hb dX11_buy_8 (by decide) (fun _ => ?_) (fun c_5 => absurd (by decide) c_5)
    refine lv_iconst (v := (-1)) hx hb dX11_buy_22 (by decide) ?_
    exact rI X hK hP hD hS dX11_buy_23 (by rfl) (Nat.le_of_ble_eq_true rfl) (Nat.le_of_ble_eq_true rfl) (by show _ = _; unfold sp_X11_buy; rw [if_neg c_3]; try rfl)
def sp_X11_hear (g : GG) (x0 : Nat) (b0 : Int32) (b1 : Int32) (xr : Nat) (xt : Nat) (xg : Nat) (xb : Nat) (xp : Nat) (xu : Nat) (xm : Nat) (xd : Nat) (xw : Nat) (xh : Nat) (xa : Nat) (xs : Nat) (xf : Nat) (xpa0 : Nat) (xpa1 : Nat) (xpa2 : Nat) (xpa3 : Nat) : Int32 := if b0 < 0 then (-1) else (-1)
set_option maxHeartbeats 4000000 in
set_option maxRecDepth 100000 in
theorem c_X11_hear (l : Launch) (g : GG) (x0 : Nat) (b0 : Int32) (b1 : Int32) (xr : Nat) (xt : Nat) (xg : Nat) (xb : Nat) (xp : Nat) (xu : Nat) (xm : Nat) (xd : Nat) (xw : Nat) (xh : Nat) (xa : Nat) (xs : Nat) (xf : Nat) (xpa0 : Nat) (xpa1 : Nat) (xpa2 : Nat) (xpa3 : Nat) : MI l g yX11_hear cX11_hear 4 (some .int) 1 21 0 0 [(x0, .inr (11, [.ref xr, .ref xt, .ref xg, .ref xb, .ref xp, .ref xu, .ref xm, .ref xd, .ref xw, .ref xh, .ref xa, .ref xs, .ref xf, .int 0, .int 0, .long 0, .long 0, .int 0])), (xp, .inr (5, [.ref xpa0, .ref xpa1, .ref xpa2, .ref xpa3, .int 0]))] [.ref x0, .int b0, .int b1] (fun rr_ _ => rr_ = sp_X11_hear g x0 b0 b1 xr xt xg xb xp xu xm xd xw xh xa xs xf xpa0 xpa1 xpa2 xpa3) := by
  refine met_of (fun A => va_Qi _ (bW g A) A) (by decide) (Nat.le_of_ble_eq_true rfl) ?_
  intro p e s m below meth c A ls X hK hP hD hA hZ hS hl
  have hx := X.1
  have hb := X.2.1
  have hml := X.2.2.1
  have hown := X.2.2.2.1
  have hts := X.2.2.2.2.1
  have hnm := X.2.2.2.2.2.2.2
  have hl : lv_has ls 4 [(0, .ref x0), (1, .int b0), (2, .int b1)] := hl
  refine lv_aload_n hx hb dX11_hear_0 rfl (lv_at hl 0 rfl) ?_
  refine va_get (D := g.1) (ci := 11) (v := .ref xp) (C := RX11) (T := TX11) (N := 18) hx hb hts fw_X11 hown hK hP 0 rfl rfl 4 (by decide) (hts _ q_462) (fun _ h9 => h9) rfl dX11_hear_1 ?_
  refine lv_iload_n hx hb dX11_hear_4 rfl (lv_at hl 1 rfl) ?_
  refine kVi (As := [.int b0]) (rest := []) (wr := [(x0, .inr (11, [.ref xr, .ref xt, .ref xg, .ref xb, .ref xp, .ref xu, .ref xm, .ref xd, .ref xw, .ref xh, .ref xa, .ref xs, .ref xf, .int 0, .int 0, .long 0, .long 0, .int 0]))]) X (c_X5_exists l g xp b0 xpa0 xpa1 xpa2 xpa3) ok_X5_exists okv_X5_exists q_735 rfl hK hP hD hS hA hZ hl.1 [1] [0] rfl rfl rfl rfl rfl 0 5 rfl rfl rfl (Nat.le_of_ble_eq_true rfl) ⟨Nat.le_of_ble_eq_true rfl, Nat.le_of_ble_eq_true rfl⟩ dX11_hear_5 ⟨Nat.le_of_ble_eq_true rfl, Nat.le_of_ble_eq_true rfl⟩ (fun r_1 w1 H locs hw_2 hP hD hS => ?_)
  rw [sp_X5_exists] at hw_2
  rcases Classical.em (b0 < 0) with c_3 | c_3
  ·
    rw [if_pos c_3] at hw_2
    obtain ⟨e1, e2⟩ := Prod.mk.inj hw_2
    subst e1; subst e2
    have hP : va_P g.1 classes [(x0, .inr (11, [.ref xr, .ref xt, .ref xg, .ref xb, .ref xp, .ref xu, .ref xm, .ref xd, .ref xw, .ref xh, .ref xa, .ref xs, .ref xf, .int 0, .int 0, .long 0, .long 0, .int 0])), (xp, .inr (5, [.ref xpa0, .ref xpa1, .ref xpa2, .ref xpa3, .int 0]))] H := hP
    have hD : va_D A [(x0, .inr (11, [.ref xr, .ref xt, .ref xg, .ref xb, .ref xp, .ref xu, .ref xm, .ref xd, .ref xw, .ref xh, .ref xa, .ref xs, .ref xf, .int 0, .int 0, .long 0, .long 0, .int 0])), (xp, .inr (5, [.ref xpa0, .ref xpa1, .ref xpa2, .ref xpa3, .int 0]))] := hD
    refine lv_if_eq (tgt := 22) hx hb dX11_hear_8 (by decide) (fun _ => ?_) (fun c_4 => absurd (by decide) c_4)
    refine lv_iconst (v := (-1)) hx hb dX11_hear_22 (by decide) ?_
    exact rI X hK hP hD hS dX11_hear_23 (by rfl) (Nat.le_of_ble_eq_true rfl) (Nat.le_of_ble_eq_true rfl) (by show _ = _; unfold sp_X11_hear; rw [if_pos c_3]; try rfl)
  ·
    rw [if_neg c_3] at hw_2
    obtain ⟨e1, e2⟩ := Prod.mk.inj hw_2
    subst e1; subst e2
    have hP : va_P g.1 classes [(x0, .inr (11, [.ref xr, .ref xt, .ref xg, .ref xb, .ref xp, .ref xu, .ref xm, .ref xd, .ref xw, .ref xh, .ref xa, .ref xs, .ref xf, .int 0, .int 0, .long 0, .long 0, .int 0])), (xp, .inr (5, [.ref xpa0, .ref xpa1, .ref xpa2, .ref xpa3, .int 0]))] H := hP
    have hD : va_D A [(x0, .inr (11, [.ref xr, .ref xt, .ref xg, .ref xb, .ref xp, .ref xu, .ref xm, .ref xd, .ref xw, .ref xh, .ref xa, .ref xs, .ref xf, .int 0, .int 0, .long 0, .long 0, .int 0])), (xp, .inr (5, [.ref xpa0, .ref xpa1, .ref xpa2, .ref xpa3, .int 0]))] := hD
    refine lv_if_eq (tgt := 22) hx hb dX11_hear_8 (by decide) (fun _ => ?_) (fun c_5 => absurd (by decide) c_5)
    refine lv_iconst (v := (-1)) hx hb dX11_hear_22 (by decide) ?_
    exact rI X hK hP hD hS dX11_hear_23 (by rfl) (Nat.le_of_ble_eq_true rfl) (Nat.le_of_ble_eq_true rfl) (by show _ = _; unfold sp_X11_hear; rw [if_neg c_3]; try rfl)
def sp_X11_early (g : GG) (x0 : Nat) (b0 : Int32) (xr : Nat) (xt : Nat) (xg : Nat) (xb : Nat) (xp : Nat) (xu : Nat) (xm : Nat) (xd : Nat) (xw : Nat) (xh : Nat) (xa : Nat) (xs : Nat) (xf : Nat) (xma0 : Nat) (xma1 : Nat) (xma2 : Nat) (xma3 : Nat) (xma4 : Nat) (xma5 : Nat) (xma6 : Nat) (xma7 : Nat) (xma8 : Nat) (xma9 : Nat) (xma10 : Nat) (xma11 : Nat) (xma12 : Nat) : Int32 := if b0 < 0 then (-1) else (-1)
set_option maxHeartbeats 4000000 in
set_option maxRecDepth 100000 in
theorem c_X11_early (l : Launch) (g : GG) (x0 : Nat) (b0 : Int32) (xr : Nat) (xt : Nat) (xg : Nat) (xb : Nat) (xp : Nat) (xu : Nat) (xm : Nat) (xd : Nat) (xw : Nat) (xh : Nat) (xa : Nat) (xs : Nat) (xf : Nat) (xma0 : Nat) (xma1 : Nat) (xma2 : Nat) (xma3 : Nat) (xma4 : Nat) (xma5 : Nat) (xma6 : Nat) (xma7 : Nat) (xma8 : Nat) (xma9 : Nat) (xma10 : Nat) (xma11 : Nat) (xma12 : Nat) : MI l g yX11_early cX11_early 5 (some .int) 1 21 0 0 [(x0, .inr (11, [.ref xr, .ref xt, .ref xg, .ref xb, .ref xp, .ref xu, .ref xm, .ref xd, .ref xw, .ref xh, .ref xa, .ref xs, .ref xf, .int 0, .int 0, .long 0, .long 0, .int 0])), (xm, .inr (4, [.ref xma0, .ref xma1, .ref xma2, .ref xma3, .ref xma4, .ref xma5, .ref xma6, .ref xma7, .ref xma8, .ref xma9, .ref xma10, .ref xma11, .ref xma12, .int 0]))] [.ref x0, .int b0] (fun rr_ _ => rr_ = sp_X11_early g x0 b0 xr xt xg xb xp xu xm xd xw xh xa xs xf xma0 xma1 xma2 xma3 xma4 xma5 xma6 xma7 xma8 xma9 xma10 xma11 xma12) := by
  refine met_of (fun A => va_Qi _ (bW g A) A) (by decide) (Nat.le_of_ble_eq_true rfl) ?_
  intro p e s m below meth c A ls X hK hP hD hA hZ hS hl
  have hx := X.1
  have hb := X.2.1
  have hml := X.2.2.1
  have hown := X.2.2.2.1
  have hts := X.2.2.2.2.1
  have hnm := X.2.2.2.2.2.2.2
  have hl : lv_has ls 5 [(0, .ref x0), (1, .int b0)] := hl
  refine lv_aload_n hx hb dX11_early_0 rfl (lv_at hl 0 rfl) ?_
  refine va_get (D := g.1) (ci := 11) (v := .ref xm) (C := RX11) (T := TX11) (N := 18) hx hb hts fw_X11 hown hK hP 0 rfl rfl 6 (by decide) (hts _ q_464) (fun _ h9 => h9) rfl dX11_early_1 ?_
  refine lv_iload_n hx hb dX11_early_4 rfl (lv_at hl 1 rfl) ?_
  refine kVi (As := [.int b0]) (rest := []) (wr := [(x0, .inr (11, [.ref xr, .ref xt, .ref xg, .ref xb, .ref xp, .ref xu, .ref xm, .ref xd, .ref xw, .ref xh, .ref xa, .ref xs, .ref xf, .int 0, .int 0, .long 0, .long 0, .int 0]))]) X (c_X4_exists l g xm b0 xma0 xma1 xma2 xma3 xma4 xma5 xma6 xma7 xma8 xma9 xma10 xma11 xma12) ok_X4_exists okv_X4_exists q_882 rfl hK hP hD hS hA hZ hl.1 [1] [0] rfl rfl rfl rfl rfl 0 4 rfl rfl rfl (Nat.le_of_ble_eq_true rfl) ⟨Nat.le_of_ble_eq_true rfl, Nat.le_of_ble_eq_true rfl⟩ dX11_early_5 ⟨Nat.le_of_ble_eq_true rfl, Nat.le_of_ble_eq_true rfl⟩ (fun r_1 w1 H locs hw_2 hP hD hS => ?_)
  rw [sp_X4_exists] at hw_2
  rcases Classical.em (b0 < 0) with c_3 | c_3
  ·
    rw [if_pos c_3] at hw_2
    obtain ⟨e1, e2⟩ := Prod.mk.inj hw_2
    subst e1; subst e2
    have hP : va_P g.1 classes [(x0, .inr (11, [.ref xr, .ref xt, .ref xg, .ref xb, .ref xp, .ref xu, .ref xm, .ref xd, .ref xw, .ref xh, .ref xa, .ref xs, .ref xf, .int 0, .int 0, .long 0, .long 0, .int 0])), (xm, .inr (4, [.ref xma0, .ref xma1, .ref xma2, .ref xma3, .ref xma4, .ref xma5, .ref xma6, .ref xma7, .ref xma8, .ref xma9, .ref xma10, .ref xma11, .ref xma12, .int 0]))] H := hP
    have hD : va_D A [(x0, .inr (11, [.ref xr, .ref xt, .ref xg, .ref xb, .ref xp, .ref xu, .ref xm, .ref xd, .ref xw, .ref xh, .ref xa, .ref xs, .ref xf, .int 0, .int 0, .long 0, .long 0, .int 0])), (xm, .inr (4, [.ref xma0, .ref xma1, .ref xma2, .ref xma3, .ref xma4, .ref xma5, .ref xma6, .ref xma7, .ref xma8, .ref xma9, .ref xma10, .ref xma11, .ref xma12, .int 0]))] := hD
    refine lv_if_ne (tgt := 13) hx hb dX11_early_8 (by decide) (fun c_4 => absurd (by decide) c_4) (fun _ => ?_)
    refine lv_iconst (v := (-1)) hx hb dX11_early_11 (by decide) ?_
    exact rI X hK hP hD hS dX11_early_12 (by rfl) (Nat.le_of_ble_eq_true rfl) (Nat.le_of_ble_eq_true rfl) (by show _ = _; unfold sp_X11_early; rw [if_pos c_3]; try rfl)
  ·
    rw [if_neg c_3] at hw_2
    obtain ⟨e1, e2⟩ := Prod.mk.inj hw_2
    subst e1; subst e2
    have hP : va_P g.1 classes [(x0, .inr (11, [.ref xr, .ref xt, .ref xg, .ref xb, .ref xp, .ref xu, .ref xm, .ref xd, .ref xw, .ref xh, .ref xa, .ref xs, .ref xf, .int 0, .int 0, .long 0, .long 0, .int 0])), (xm, .inr (4, [.ref xma0, .ref xma1, .ref xma2, .ref xma3, .ref xma4, .ref xma5, .ref xma6, .ref xma7, .ref xma8, .ref xma9, .ref xma10, .ref xma11, .ref xma12, .int 0]))] H := hP
    have hD : va_D A [(x0, .inr (11, [.ref xr, .ref xt, .ref xg, .ref xb, .ref xp, .ref xu, .ref xm, .ref xd, .ref xw, .ref xh, .ref xa, .ref xs, .ref xf, .int 0, .int 0, .long 0, .long 0, .int 0])), (xm, .inr (4, [.ref xma0, .ref xma1, .ref xma2, .ref xma3, .ref xma4, .ref xma5, .ref xma6, .ref xma7, .ref xma8, .ref xma9, .ref xma10, .ref xma11, .ref xma12, .int 0]))] := hD
    refine lv_if_ne (tgt := 13) hx hb dX11_early_8 (by decide) (fun c_5 => absurd (by decide) c_5) (fun _ => ?_)
    refine lv_iconst (v := (-1)) hx hb dX11_early_11 (by decide) ?_
    exact rI X hK hP hD hS dX11_early_12 (by rfl) (Nat.le_of_ble_eq_true rfl) (Nat.le_of_ble_eq_true rfl) (by show _ = _; unfold sp_X11_early; rw [if_neg c_3]; try rfl)
def sp_X11_whither (g : GG) (x0 : Nat) (b0 : Int32) (xr : Nat) (xt : Nat) (xg : Nat) (xb : Nat) (xp : Nat) (xu : Nat) (xm : Nat) (xd : Nat) (xw : Nat) (xh : Nat) (xa : Nat) (xs : Nat) (xf : Nat) (xma0 : Nat) (xma1 : Nat) (xma2 : Nat) (xma3 : Nat) (xma4 : Nat) (xma5 : Nat) (xma6 : Nat) (xma7 : Nat) (xma8 : Nat) (xma9 : Nat) (xma10 : Nat) (xma11 : Nat) (xma12 : Nat) : Int32 := if b0 < 0 then (-1) else (-1)
set_option maxHeartbeats 4000000 in
set_option maxRecDepth 100000 in
theorem c_X11_whither (l : Launch) (g : GG) (x0 : Nat) (b0 : Int32) (xr : Nat) (xt : Nat) (xg : Nat) (xb : Nat) (xp : Nat) (xu : Nat) (xm : Nat) (xd : Nat) (xw : Nat) (xh : Nat) (xa : Nat) (xs : Nat) (xf : Nat) (xma0 : Nat) (xma1 : Nat) (xma2 : Nat) (xma3 : Nat) (xma4 : Nat) (xma5 : Nat) (xma6 : Nat) (xma7 : Nat) (xma8 : Nat) (xma9 : Nat) (xma10 : Nat) (xma11 : Nat) (xma12 : Nat) : MI l g yX11_whither cX11_whither 2 (some .int) 1 21 0 0 [(x0, .inr (11, [.ref xr, .ref xt, .ref xg, .ref xb, .ref xp, .ref xu, .ref xm, .ref xd, .ref xw, .ref xh, .ref xa, .ref xs, .ref xf, .int 0, .int 0, .long 0, .long 0, .int 0])), (xm, .inr (4, [.ref xma0, .ref xma1, .ref xma2, .ref xma3, .ref xma4, .ref xma5, .ref xma6, .ref xma7, .ref xma8, .ref xma9, .ref xma10, .ref xma11, .ref xma12, .int 0]))] [.ref x0, .int b0] (fun rr_ _ => rr_ = sp_X11_whither g x0 b0 xr xt xg xb xp xu xm xd xw xh xa xs xf xma0 xma1 xma2 xma3 xma4 xma5 xma6 xma7 xma8 xma9 xma10 xma11 xma12) := by
  refine met_of (fun A => va_Qi _ (bW g A) A) (by decide) (Nat.le_of_ble_eq_true rfl) ?_
  intro p e s m below meth c A ls X hK hP hD hA hZ hS hl
  have hx := X.1
  have hb := X.2.1
  have hml := X.2.2.1
  have hown := X.2.2.2.1
  have hts := X.2.2.2.2.1
  have hnm := X.2.2.2.2.2.2.2
  have hl : lv_has ls 2 [(0, .ref x0), (1, .int b0)] := hl
  refine lv_aload_n hx hb dX11_whither_0 rfl (lv_at hl 0 rfl) ?_
  refine va_get (D := g.1) (ci := 11) (v := .ref xm) (C := RX11) (T := TX11) (N := 18) hx hb hts fw_X11 hown hK hP 0 rfl rfl 6 (by decide) (hts _ q_464) (fun _ h9 => h9) rfl dX11_whither_1 ?_
  refine lv_iload_n hx hb dX11_whither_4 rfl (lv_at hl 1 rfl) ?_
  refine kVi (As := [.int b0]) (rest := []) (wr := [(x0, .inr (11, [.ref xr, .ref xt, .ref xg, .ref xb, .ref xp, .ref xu, .ref xm, .ref xd, .ref xw, .ref xh, .ref xa, .ref xs, .ref xf, .int 0, .int 0, .long 0, .long 0, .int 0]))]) X (c_X4_exists l g xm b0 xma0 xma1 xma2 xma3 xma4 xma5 xma6 xma7 xma8 xma9 xma10 xma11 xma12) ok_X4_exists okv_X4_exists q_882 rfl hK hP hD hS hA hZ hl.1 [1] [0] rfl rfl rfl rfl rfl 0 4 rfl rfl rfl (Nat.le_of_ble_eq_true rfl) ⟨Nat.le_of_ble_eq_true rfl, Nat.le_of_ble_eq_true rfl⟩ dX11_whither_5 ⟨Nat.le_of_ble_eq_true rfl, Nat.le_of_ble_eq_true rfl⟩ (fun r_1 w1 H locs hw_2 hP hD hS => ?_)
  rw [sp_X4_exists] at hw_2
  rcases Classical.em (b0 < 0) with c_3 | c_3
  ·
    rw [if_pos c_3] at hw_2
    obtain ⟨e1, e2⟩ := Prod.mk.inj hw_2
    subst e1; subst e2
    have hP : va_P g.1 classes [(x0, .inr (11, [.ref xr, .ref xt, .ref xg, .ref xb, .ref xp, .ref xu, .ref xm, .ref xd, .ref xw, .ref xh, .ref xa, .ref xs, .ref xf, .int 0, .int 0, .long 0, .long 0, .int 0])), (xm, .inr (4, [.ref xma0, .ref xma1, .ref xma2, .ref xma3, .ref xma4, .ref xma5, .ref xma6, .ref xma7, .ref xma8, .ref xma9, .ref xma10, .ref xma11, .ref xma12, .int 0]))] H := hP
    have hD : va_D A [(x0, .inr (11, [.ref xr, .ref xt, .ref xg, .ref xb, .ref xp, .ref xu, .ref xm, .ref xd, .ref xw, .ref xh, .ref xa, .ref xs, .ref xf, .int 0, .int 0, .long 0, .long 0, .int 0])), (xm, .inr (4, [.ref xma0, .ref xma1, .ref xma2, .ref xma3, .ref xma4, .ref xma5, .ref xma6, .ref xma7, .ref xma8, .ref xma9, .ref xma10, .ref xma11, .ref xma12, .int 0]))] := hD
    refine lv_if_ne (tgt := 13) hx hb dX11_whither_8 (by decide) (fun c_4 => absurd (by decide) c_4) (fun _ => ?_)
    refine lv_iconst (v := (-1)) hx hb dX11_whither_11 (by decide) ?_
    exact rI X hK hP hD hS dX11_whither_12 (by rfl) (Nat.le_of_ble_eq_true rfl) (Nat.le_of_ble_eq_true rfl) (by show _ = _; unfold sp_X11_whither; rw [if_pos c_3]; try rfl)
  ·
    rw [if_neg c_3] at hw_2
    obtain ⟨e1, e2⟩ := Prod.mk.inj hw_2
    subst e1; subst e2
    have hP : va_P g.1 classes [(x0, .inr (11, [.ref xr, .ref xt, .ref xg, .ref xb, .ref xp, .ref xu, .ref xm, .ref xd, .ref xw, .ref xh, .ref xa, .ref xs, .ref xf, .int 0, .int 0, .long 0, .long 0, .int 0])), (xm, .inr (4, [.ref xma0, .ref xma1, .ref xma2, .ref xma3, .ref xma4, .ref xma5, .ref xma6, .ref xma7, .ref xma8, .ref xma9, .ref xma10, .ref xma11, .ref xma12, .int 0]))] H := hP
    have hD : va_D A [(x0, .inr (11, [.ref xr, .ref xt, .ref xg, .ref xb, .ref xp, .ref xu, .ref xm, .ref xd, .ref xw, .ref xh, .ref xa, .ref xs, .ref xf, .int 0, .int 0, .long 0, .long 0, .int 0])), (xm, .inr (4, [.ref xma0, .ref xma1, .ref xma2, .ref xma3, .ref xma4, .ref xma5, .ref xma6, .ref xma7, .ref xma8, .ref xma9, .ref xma10, .ref xma11, .ref xma12, .int 0]))] := hD
    refine lv_if_ne (tgt := 13) hx hb dX11_whither_8 (by decide) (fun c_5 => absurd (by decide) c_5) (fun _ => ?_)
    refine lv_iconst (v := (-1)) hx hb dX11_whither_11 (by decide) ?_
    exact rI X hK hP hD hS dX11_whither_12 (by rfl) (Nat.le_of_ble_eq_true rfl) (Nat.le_of_ble_eq_true rfl) (by show _ = _; unfold sp_X11_whither; rw [if_neg c_3]; try rfl)
def sp_X11_fall (g : GG) (x0 : Nat) (b0 : Int32) (b1 : Int32) (xr : Nat) (xt : Nat) (xg : Nat) (xb : Nat) (xp : Nat) (xu : Nat) (xm : Nat) (xd : Nat) (xw : Nat) (xh : Nat) (xa : Nat) (xs : Nat) (xf : Nat) (xma0 : Nat) (xma1 : Nat) (xma2 : Nat) (xma3 : Nat) (xma4 : Nat) (xma5 : Nat) (xma6 : Nat) (xma7 : Nat) (xma8 : Nat) (xma9 : Nat) (xma10 : Nat) (xma11 : Nat) (xma12 : Nat) : Int32 := if b0 < 0 then (-1) else (-1)
set_option maxHeartbeats 4000000 in
set_option maxRecDepth 100000 in
theorem c_X11_fall (l : Launch) (g : GG) (x0 : Nat) (b0 : Int32) (b1 : Int32) (xr : Nat) (xt : Nat) (xg : Nat) (xb : Nat) (xp : Nat) (xu : Nat) (xm : Nat) (xd : Nat) (xw : Nat) (xh : Nat) (xa : Nat) (xs : Nat) (xf : Nat) (xma0 : Nat) (xma1 : Nat) (xma2 : Nat) (xma3 : Nat) (xma4 : Nat) (xma5 : Nat) (xma6 : Nat) (xma7 : Nat) (xma8 : Nat) (xma9 : Nat) (xma10 : Nat) (xma11 : Nat) (xma12 : Nat) : MI l g yX11_fall cX11_fall 13 (some .int) 1 21 0 0 [(x0, .inr (11, [.ref xr, .ref xt, .ref xg, .ref xb, .ref xp, .ref xu, .ref xm, .ref xd, .ref xw, .ref xh, .ref xa, .ref xs, .ref xf, .int 0, .int 0, .long 0, .long 0, .int 0])), (xm, .inr (4, [.ref xma0, .ref xma1, .ref xma2, .ref xma3, .ref xma4, .ref xma5, .ref xma6, .ref xma7, .ref xma8, .ref xma9, .ref xma10, .ref xma11, .ref xma12, .int 0]))] [.ref x0, .int b0, .int b1] (fun rr_ _ => rr_ = sp_X11_fall g x0 b0 b1 xr xt xg xb xp xu xm xd xw xh xa xs xf xma0 xma1 xma2 xma3 xma4 xma5 xma6 xma7 xma8 xma9 xma10 xma11 xma12) := by
  refine met_of (fun A => va_Qi _ (bW g A) A) (by decide) (Nat.le_of_ble_eq_true rfl) ?_
  intro p e s m below meth c A ls X hK hP hD hA hZ hS hl
  have hx := X.1
  have hb := X.2.1
  have hml := X.2.2.1
  have hown := X.2.2.2.1
  have hts := X.2.2.2.2.1
  have hnm := X.2.2.2.2.2.2.2
  have hl : lv_has ls 13 [(0, .ref x0), (1, .int b0), (2, .int b1)] := hl
  refine lv_aload_n hx hb dX11_fall_0 rfl (lv_at hl 0 rfl) ?_
  refine va_get (D := g.1) (ci := 11) (v := .ref xm) (C := RX11) (T := TX11) (N := 18) hx hb hts fw_X11 hown hK hP 0 rfl rfl 6 (by decide) (hts _ q_464) (fun _ h9 => h9) rfl dX11_fall_1 ?_
  refine lv_iload_n hx hb dX11_fall_4 rfl (lv_at hl 1 rfl) ?_
  refine kVi (As := [.int b0]) (rest := []) (wr := [(x0, .inr (11, [.ref xr, .ref xt, .ref xg, .ref xb, .ref xp, .ref xu, .ref xm, .ref xd, .ref xw, .ref xh, .ref xa, .ref xs, .ref xf, .int 0, .int 0, .long 0, .long 0, .int 0]))]) X (c_X4_exists l g xm b0 xma0 xma1 xma2 xma3 xma4 xma5 xma6 xma7 xma8 xma9 xma10 xma11 xma12) ok_X4_exists okv_X4_exists q_882 rfl hK hP hD hS hA hZ hl.1 [1] [0] rfl rfl rfl rfl rfl 0 4 rfl rfl rfl (Nat.le_of_ble_eq_true rfl) ⟨Nat.le_of_ble_eq_true rfl, Nat.le_of_ble_eq_true rfl⟩ dX11_fall_5 ⟨Nat.le_of_ble_eq_true rfl, Nat.le_of_ble_eq_true rfl⟩ (fun r_1 w1 H locs hw_2 hP hD hS => ?_)
  rw [sp_X4_exists] at hw_2
  rcases Classical.em (b0 < 0) with c_3 | c_3
  ·
    rw [if_pos c_3] at hw_2
    obtain ⟨e1, e2⟩ := Prod.mk.inj hw_2
    subst e1; subst e2
    have hP : va_P g.1 classes [(x0, .inr (11, [.ref xr, .ref xt, .ref xg, .ref xb, .ref xp, .ref xu, .ref xm, .ref xd, .ref xw, .ref xh, .ref xa, .ref xs, .ref xf, .int 0, .int 0, .long 0, .long 0, .int 0])), (xm, .inr (4, [.ref xma0, .ref xma1, .ref xma2, .ref xma3, .ref xma4, .ref xma5, .ref xma6, .ref xma7, .ref xma8, .ref xma9, .ref xma10, .ref xma11, .ref xma12, .int 0]))] H := hP
    have hD : va_D A [(x0, .inr (11, [.ref xr, .ref xt, .ref xg, .ref xb, .ref xp, .ref xu, .ref xm, .ref xd, .ref xw, .ref xh, .ref xa, .ref xs, .ref xf, .int 0, .int 0, .long 0, .long 0, .int 0])), (xm, .inr (4, [.ref xma0, .ref xma1, .ref xma2, .ref xma3, .ref xma4, .ref xma5, .ref xma6, .ref xma7, .ref xma8, .ref xma9, .ref xma10, .ref xma11, .ref xma12, .int 0]))] := hD
    refine lv_if_eq (tgt := 21) hx hb dX11_fall_8 (by decide) (fun _ => ?_) (fun c_4 => absurd (by decide) c_4)
    refine lv_iconst (v := (-1)) hx hb dX11_fall_21 (by decide) ?_
    exact rI X hK hP hD hS dX11_fall_22 (by rfl) (Nat.le_of_ble_eq_true rfl) (Nat.le_of_ble_eq_true rfl) (by show _ = _; unfold sp_X11_fall; rw [if_pos c_3]; try rfl)
  ·
    rw [if_neg c_3] at hw_2
    obtain ⟨e1, e2⟩ := Prod.mk.inj hw_2
    subst e1; subst e2
    have hP : va_P g.1 classes [(x0, .inr (11, [.ref xr, .ref xt, .ref xg, .ref xb, .ref xp, .ref xu, .ref xm, .ref xd, .ref xw, .ref xh, .ref xa, .ref xs, .ref xf, .int 0, .int 0, .long 0, .long 0, .int 0])), (xm, .inr (4, [.ref xma0, .ref xma1, .ref xma2, .ref xma3, .ref xma4, .ref xma5, .ref xma6, .ref xma7, .ref xma8, .ref xma9, .ref xma10, .ref xma11, .ref xma12, .int 0]))] H := hP
    have hD : va_D A [(x0, .inr (11, [.ref xr, .ref xt, .ref xg, .ref xb, .ref xp, .ref xu, .ref xm, .ref xd, .ref xw, .ref xh, .ref xa, .ref xs, .ref xf, .int 0, .int 0, .long 0, .long 0, .int 0])), (xm, .inr (4, [.ref xma0, .ref xma1, .ref xma2, .ref xma3, .ref xma4, .ref xma5, .ref xma6, .ref xma7, .ref xma8, .ref xma9, .ref xma10, .ref xma11, .ref xma12, .int 0]))] := hD
    refine lv_if_eq (tgt := 21) hx hb dX11_fall_8 (by decide) (fun _ => ?_) (fun c_5 => absurd (by decide) c_5)
    refine lv_iconst (v := (-1)) hx hb dX11_fall_21 (by decide) ?_
    exact rI X hK hP hD hS dX11_fall_22 (by rfl) (Nat.le_of_ble_eq_true rfl) (Nat.le_of_ble_eq_true rfl) (by show _ = _; unfold sp_X11_fall; rw [if_neg c_3]; try rfl)
def sp_X11_noise (g : GG) (x0 : Nat) (b0 : Int32) (b1 : Int32) (xr : Nat) (xt : Nat) (xg : Nat) (xb : Nat) (xp : Nat) (xu : Nat) (xm : Nat) (xd : Nat) (xw : Nat) (xh : Nat) (xa : Nat) (xs : Nat) (xf : Nat) (xma0 : Nat) (xma1 : Nat) (xma2 : Nat) (xma3 : Nat) (xma4 : Nat) (xma5 : Nat) (xma6 : Nat) (xma7 : Nat) (xma8 : Nat) (xma9 : Nat) (xma10 : Nat) (xma11 : Nat) (xma12 : Nat) : Int32 := if b0 < 0 then (-1) else (-1)
set_option maxHeartbeats 4000000 in
set_option maxRecDepth 100000 in
theorem c_X11_noise (l : Launch) (g : GG) (x0 : Nat) (b0 : Int32) (b1 : Int32) (xr : Nat) (xt : Nat) (xg : Nat) (xb : Nat) (xp : Nat) (xu : Nat) (xm : Nat) (xd : Nat) (xw : Nat) (xh : Nat) (xa : Nat) (xs : Nat) (xf : Nat) (xma0 : Nat) (xma1 : Nat) (xma2 : Nat) (xma3 : Nat) (xma4 : Nat) (xma5 : Nat) (xma6 : Nat) (xma7 : Nat) (xma8 : Nat) (xma9 : Nat) (xma10 : Nat) (xma11 : Nat) (xma12 : Nat) : MI l g yX11_noise cX11_noise 5 (some .int) 1 21 0 0 [(x0, .inr (11, [.ref xr, .ref xt, .ref xg, .ref xb, .ref xp, .ref xu, .ref xm, .ref xd, .ref xw, .ref xh, .ref xa, .ref xs, .ref xf, .int 0, .int 0, .long 0, .long 0, .int 0])), (xm, .inr (4, [.ref xma0, .ref xma1, .ref xma2, .ref xma3, .ref xma4, .ref xma5, .ref xma6, .ref xma7, .ref xma8, .ref xma9, .ref xma10, .ref xma11, .ref xma12, .int 0]))] [.ref x0, .int b0, .int b1] (fun rr_ _ => rr_ = sp_X11_noise g x0 b0 b1 xr xt xg xb xp xu xm xd xw xh xa xs xf xma0 xma1 xma2 xma3 xma4 xma5 xma6 xma7 xma8 xma9 xma10 xma11 xma12) := by
  refine met_of (fun A => va_Qi _ (bW g A) A) (by decide) (Nat.le_of_ble_eq_true rfl) ?_
  intro p e s m below meth c A ls X hK hP hD hA hZ hS hl
  have hx := X.1
  have hb := X.2.1
  have hml := X.2.2.1
  have hown := X.2.2.2.1
  have hts := X.2.2.2.2.1
  have hnm := X.2.2.2.2.2.2.2
  have hl : lv_has ls 5 [(0, .ref x0), (1, .int b0), (2, .int b1)] := hl
  refine lv_aload_n hx hb dX11_noise_0 rfl (lv_at hl 0 rfl) ?_
  refine va_get (D := g.1) (ci := 11) (v := .ref xm) (C := RX11) (T := TX11) (N := 18) hx hb hts fw_X11 hown hK hP 0 rfl rfl 6 (by decide) (hts _ q_464) (fun _ h9 => h9) rfl dX11_noise_1 ?_
  refine lv_iload_n hx hb dX11_noise_4 rfl (lv_at hl 1 rfl) ?_
  refine kVi (As := [.int b0]) (rest := []) (wr := [(x0, .inr (11, [.ref xr, .ref xt, .ref xg, .ref xb, .ref xp, .ref xu, .ref xm, .ref xd, .ref xw, .ref xh, .ref xa, .ref xs, .ref xf, .int 0, .int 0, .long 0, .long 0, .int 0]))]) X (c_X4_exists l g xm b0 xma0 xma1 xma2 xma3 xma4 xma5 xma6 xma7 xma8 xma9 xma10 xma11 xma12) ok_X4_exists okv_X4_exists q_882 rfl hK hP hD hS hA hZ hl.1 [1] [0] rfl rfl rfl rfl rfl 0 4 rfl rfl rfl (Nat.le_of_ble_eq_true rfl) ⟨Nat.le_of_ble_eq_true rfl, Nat.le_of_ble_eq_true rfl⟩ dX11_noise_5 ⟨Nat.le_of_ble_eq_true rfl, Nat.le_of_ble_eq_true rfl⟩ (fun r_1 w1 H locs hw_2 hP hD hS => ?_)
  rw [sp_X4_exists] at hw_2
  rcases Classical.em (b0 < 0) with c_3 | c_3
  ·
    rw [if_pos c_3] at hw_2
    obtain ⟨e1, e2⟩ := Prod.mk.inj hw_2
    subst e1; subst e2
    have hP : va_P g.1 classes [(x0, .inr (11, [.ref xr, .ref xt, .ref xg, .ref xb, .ref xp, .ref xu, .ref xm, .ref xd, .ref xw, .ref xh, .ref xa, .ref xs, .ref xf, .int 0, .int 0, .long 0, .long 0, .int 0])), (xm, .inr (4, [.ref xma0, .ref xma1, .ref xma2, .ref xma3, .ref xma4, .ref xma5, .ref xma6, .ref xma7, .ref xma8, .ref xma9, .ref xma10, .ref xma11, .ref xma12, .int 0]))] H := hP
    have hD : va_D A [(x0, .inr (11, [.ref xr, .ref xt, .ref xg, .ref xb, .ref xp, .ref xu, .ref xm, .ref xd, .ref xw, .ref xh, .ref xa, .ref xs, .ref xf, .int 0, .int 0, .long 0, .long 0, .int 0])), (xm, .inr (4, [.ref xma0, .ref xma1, .ref xma2, .ref xma3, .ref xma4, .ref xma5, .ref xma6, .ref xma7, .ref xma8, .ref xma9, .ref xma10, .ref xma11, .ref xma12, .int 0]))] := hD
    refine lv_if_eq (tgt := 22) hx hb dX11_noise_8 (by decide) (fun _ => ?_) (fun c_4 => absurd (by decide) c_4)
    refine lv_iconst (v := (-1)) hx hb dX11_noise_22 (by decide) ?_
    exact rI X hK hP hD hS dX11_noise_23 (by rfl) (Nat.le_of_ble_eq_true rfl) (Nat.le_of_ble_eq_true rfl) (by show _ = _; unfold sp_X11_noise; rw [if_pos c_3]; try rfl)
  ·
    rw [if_neg c_3] at hw_2
    obtain ⟨e1, e2⟩ := Prod.mk.inj hw_2
    subst e1; subst e2
    have hP : va_P g.1 classes [(x0, .inr (11, [.ref xr, .ref xt, .ref xg, .ref xb, .ref xp, .ref xu, .ref xm, .ref xd, .ref xw, .ref xh, .ref xa, .ref xs, .ref xf, .int 0, .int 0, .long 0, .long 0, .int 0])), (xm, .inr (4, [.ref xma0, .ref xma1, .ref xma2, .ref xma3, .ref xma4, .ref xma5, .ref xma6, .ref xma7, .ref xma8, .ref xma9, .ref xma10, .ref xma11, .ref xma12, .int 0]))] H := hP
    have hD : va_D A [(x0, .inr (11, [.ref xr, .ref xt, .ref xg, .ref xb, .ref xp, .ref xu, .ref xm, .ref xd, .ref xw, .ref xh, .ref xa, .ref xs, .ref xf, .int 0, .int 0, .long 0, .long 0, .int 0])), (xm, .inr (4, [.ref xma0, .ref xma1, .ref xma2, .ref xma3, .ref xma4, .ref xma5, .ref xma6, .ref xma7, .ref xma8, .ref xma9, .ref xma10, .ref xma11, .ref xma12, .int 0]))] := hD
    refine lv_if_eq (tgt := 22) hx hb dX11_noise_8 (by decide) (fun _ => ?_) (fun c_5 => absurd (by decide) c_5)
    refine lv_iconst (v := (-1)) hx hb dX11_noise_22 (by decide) ?_
    exact rI X hK hP hD hS dX11_noise_23 (by rfl) (Nat.le_of_ble_eq_true rfl) (Nat.le_of_ble_eq_true rfl) (by show _ = _; unfold sp_X11_noise; rw [if_neg c_3]; try rfl)
def sp_X11_park (g : GG) (x0 : Nat) (b0 : Int32) (xr : Nat) (xt : Nat) (xg : Nat) (xb : Nat) (xp : Nat) (xu : Nat) (xm : Nat) (xd : Nat) (xw : Nat) (xh : Nat) (xa : Nat) (xs : Nat) (xf : Nat) (xma0 : Nat) (xma1 : Nat) (xma2 : Nat) (xma3 : Nat) (xma4 : Nat) (xma5 : Nat) (xma6 : Nat) (xma7 : Nat) (xma8 : Nat) (xma9 : Nat) (xma10 : Nat) (xma11 : Nat) (xma12 : Nat) : Int32 := if b0 < 0 then (-1) else (-1)
set_option maxHeartbeats 4000000 in
set_option maxRecDepth 100000 in
theorem c_X11_park (l : Launch) (g : GG) (x0 : Nat) (b0 : Int32) (xr : Nat) (xt : Nat) (xg : Nat) (xb : Nat) (xp : Nat) (xu : Nat) (xm : Nat) (xd : Nat) (xw : Nat) (xh : Nat) (xa : Nat) (xs : Nat) (xf : Nat) (xma0 : Nat) (xma1 : Nat) (xma2 : Nat) (xma3 : Nat) (xma4 : Nat) (xma5 : Nat) (xma6 : Nat) (xma7 : Nat) (xma8 : Nat) (xma9 : Nat) (xma10 : Nat) (xma11 : Nat) (xma12 : Nat) : MI l g yX11_park cX11_park 3 (some .int) 1 21 0 0 [(x0, .inr (11, [.ref xr, .ref xt, .ref xg, .ref xb, .ref xp, .ref xu, .ref xm, .ref xd, .ref xw, .ref xh, .ref xa, .ref xs, .ref xf, .int 0, .int 0, .long 0, .long 0, .int 0])), (xm, .inr (4, [.ref xma0, .ref xma1, .ref xma2, .ref xma3, .ref xma4, .ref xma5, .ref xma6, .ref xma7, .ref xma8, .ref xma9, .ref xma10, .ref xma11, .ref xma12, .int 0]))] [.ref x0, .int b0] (fun rr_ _ => rr_ = sp_X11_park g x0 b0 xr xt xg xb xp xu xm xd xw xh xa xs xf xma0 xma1 xma2 xma3 xma4 xma5 xma6 xma7 xma8 xma9 xma10 xma11 xma12) := by
  refine met_of (fun A => va_Qi _ (bW g A) A) (by decide) (Nat.le_of_ble_eq_true rfl) ?_
  intro p e s m below meth c A ls X hK hP hD hA hZ hS hl
  have hx := X.1
  have hb := X.2.1
  have hml := X.2.2.1
  have hown := X.2.2.2.1
  have hts := X.2.2.2.2.1
  have hnm := X.2.2.2.2.2.2.2
  have hl : lv_has ls 3 [(0, .ref x0), (1, .int b0)] := hl
  refine lv_aload_n hx hb dX11_park_0 rfl (lv_at hl 0 rfl) ?_
  refine va_get (D := g.1) (ci := 11) (v := .ref xm) (C := RX11) (T := TX11) (N := 18) hx hb hts fw_X11 hown hK hP 0 rfl rfl 6 (by decide) (hts _ q_464) (fun _ h9 => h9) rfl dX11_park_1 ?_
  refine lv_iload_n hx hb dX11_park_4 rfl (lv_at hl 1 rfl) ?_
  refine kVi (As := [.int b0]) (rest := []) (wr := [(x0, .inr (11, [.ref xr, .ref xt, .ref xg, .ref xb, .ref xp, .ref xu, .ref xm, .ref xd, .ref xw, .ref xh, .ref xa, .ref xs, .ref xf, .int 0, .int 0, .long 0, .long 0, .int 0]))]) X (c_X4_exists l g xm b0 xma0 xma1 xma2 xma3 xma4 xma5 xma6 xma7 xma8 xma9 xma10 xma11 xma12) ok_X4_exists okv_X4_exists q_882 rfl hK hP hD hS hA hZ hl.1 [1] [0] rfl rfl rfl rfl rfl 0 4 rfl rfl rfl (Nat.le_of_ble_eq_true rfl) ⟨Nat.le_of_ble_eq_true rfl, Nat.le_of_ble_eq_true rfl⟩ dX11_park_5 ⟨Nat.le_of_ble_eq_true rfl, Nat.le_of_ble_eq_true rfl⟩ (fun r_1 w1 H locs hw_2 hP hD hS => ?_)
  rw [sp_X4_exists] at hw_2
  rcases Classical.em (b0 < 0) with c_3 | c_3
  ·
    rw [if_pos c_3] at hw_2
    obtain ⟨e1, e2⟩ := Prod.mk.inj hw_2
    subst e1; subst e2
    have hP : va_P g.1 classes [(x0, .inr (11, [.ref xr, .ref xt, .ref xg, .ref xb, .ref xp, .ref xu, .ref xm, .ref xd, .ref xw, .ref xh, .ref xa, .ref xs, .ref xf, .int 0, .int 0, .long 0, .long 0, .int 0])), (xm, .inr (4, [.ref xma0, .ref xma1, .ref xma2, .ref xma3, .ref xma4, .ref xma5, .ref xma6, .ref xma7, .ref xma8, .ref xma9, .ref xma10, .ref xma11, .ref xma12, .int 0]))] H := hP
    have hD : va_D A [(x0, .inr (11, [.ref xr, .ref xt, .ref xg, .ref xb, .ref xp, .ref xu, .ref xm, .ref xd, .ref xw, .ref xh, .ref xa, .ref xs, .ref xf, .int 0, .int 0, .long 0, .long 0, .int 0])), (xm, .inr (4, [.ref xma0, .ref xma1, .ref xma2, .ref xma3, .ref xma4, .ref xma5, .ref xma6, .ref xma7, .ref xma8, .ref xma9, .ref xma10, .ref xma11, .ref xma12, .int 0]))] := hD
    refine lv_if_ne (tgt := 13) hx hb dX11_park_8 (by decide) (fun c_4 => absurd (by decide) c_4) (fun _ => ?_)
    refine lv_iconst (v := (-1)) hx hb dX11_park_11 (by decide) ?_
    exact rI X hK hP hD hS dX11_park_12 (by rfl) (Nat.le_of_ble_eq_true rfl) (Nat.le_of_ble_eq_true rfl) (by show _ = _; unfold sp_X11_park; rw [if_pos c_3]; try rfl)
  ·
    rw [if_neg c_3] at hw_2
    obtain ⟨e1, e2⟩ := Prod.mk.inj hw_2
    subst e1; subst e2
    have hP : va_P g.1 classes [(x0, .inr (11, [.ref xr, .ref xt, .ref xg, .ref xb, .ref xp, .ref xu, .ref xm, .ref xd, .ref xw, .ref xh, .ref xa, .ref xs, .ref xf, .int 0, .int 0, .long 0, .long 0, .int 0])), (xm, .inr (4, [.ref xma0, .ref xma1, .ref xma2, .ref xma3, .ref xma4, .ref xma5, .ref xma6, .ref xma7, .ref xma8, .ref xma9, .ref xma10, .ref xma11, .ref xma12, .int 0]))] H := hP
    have hD : va_D A [(x0, .inr (11, [.ref xr, .ref xt, .ref xg, .ref xb, .ref xp, .ref xu, .ref xm, .ref xd, .ref xw, .ref xh, .ref xa, .ref xs, .ref xf, .int 0, .int 0, .long 0, .long 0, .int 0])), (xm, .inr (4, [.ref xma0, .ref xma1, .ref xma2, .ref xma3, .ref xma4, .ref xma5, .ref xma6, .ref xma7, .ref xma8, .ref xma9, .ref xma10, .ref xma11, .ref xma12, .int 0]))] := hD
    refine lv_if_ne (tgt := 13) hx hb dX11_park_8 (by decide) (fun c_5 => absurd (by decide) c_5) (fun _ => ?_)
    refine lv_iconst (v := (-1)) hx hb dX11_park_11 (by decide) ?_
    exact rI X hK hP hD hS dX11_park_12 (by rfl) (Nat.le_of_ble_eq_true rfl) (Nat.le_of_ble_eq_true rfl) (by show _ = _; unfold sp_X11_park; rw [if_neg c_3]; try rfl)
def sp_X11_isVoid (g : GG) (x0 : Nat) (b0 : Int32) (xr : Nat) (xt : Nat) (xg : Nat) (xb : Nat) (xp : Nat) (xu : Nat) (xm : Nat) (xd : Nat) (xw : Nat) (xh : Nat) (xa : Nat) (xs : Nat) (xf : Nat) (xma0 : Nat) (xma1 : Nat) (xma2 : Nat) (xma3 : Nat) (xma4 : Nat) (xma5 : Nat) (xma6 : Nat) (xma7 : Nat) (xma8 : Nat) (xma9 : Nat) (xma10 : Nat) (xma11 : Nat) (xma12 : Nat) : Int32 := if b0 < 0 then (-1) else (-1)
set_option maxHeartbeats 4000000 in
set_option maxRecDepth 100000 in
theorem c_X11_isVoid (l : Launch) (g : GG) (x0 : Nat) (b0 : Int32) (xr : Nat) (xt : Nat) (xg : Nat) (xb : Nat) (xp : Nat) (xu : Nat) (xm : Nat) (xd : Nat) (xw : Nat) (xh : Nat) (xa : Nat) (xs : Nat) (xf : Nat) (xma0 : Nat) (xma1 : Nat) (xma2 : Nat) (xma3 : Nat) (xma4 : Nat) (xma5 : Nat) (xma6 : Nat) (xma7 : Nat) (xma8 : Nat) (xma9 : Nat) (xma10 : Nat) (xma11 : Nat) (xma12 : Nat) : MI l g yX11_isVoid cX11_isVoid 3 (some .int) 1 21 0 0 [(x0, .inr (11, [.ref xr, .ref xt, .ref xg, .ref xb, .ref xp, .ref xu, .ref xm, .ref xd, .ref xw, .ref xh, .ref xa, .ref xs, .ref xf, .int 0, .int 0, .long 0, .long 0, .int 0])), (xm, .inr (4, [.ref xma0, .ref xma1, .ref xma2, .ref xma3, .ref xma4, .ref xma5, .ref xma6, .ref xma7, .ref xma8, .ref xma9, .ref xma10, .ref xma11, .ref xma12, .int 0]))] [.ref x0, .int b0] (fun rr_ _ => rr_ = sp_X11_isVoid g x0 b0 xr xt xg xb xp xu xm xd xw xh xa xs xf xma0 xma1 xma2 xma3 xma4 xma5 xma6 xma7 xma8 xma9 xma10 xma11 xma12) := by
  refine met_of (fun A => va_Qi _ (bW g A) A) (by decide) (Nat.le_of_ble_eq_true rfl) ?_
  intro p e s m below meth c A ls X hK hP hD hA hZ hS hl
  have hx := X.1
  have hb := X.2.1
  have hml := X.2.2.1
  have hown := X.2.2.2.1
  have hts := X.2.2.2.2.1
  have hnm := X.2.2.2.2.2.2.2
  have hl : lv_has ls 3 [(0, .ref x0), (1, .int b0)] := hl
  refine lv_aload_n hx hb dX11_isVoid_0 rfl (lv_at hl 0 rfl) ?_
  refine va_get (D := g.1) (ci := 11) (v := .ref xm) (C := RX11) (T := TX11) (N := 18) hx hb hts fw_X11 hown hK hP 0 rfl rfl 6 (by decide) (hts _ q_464) (fun _ h9 => h9) rfl dX11_isVoid_1 ?_
  refine lv_iload_n hx hb dX11_isVoid_4 rfl (lv_at hl 1 rfl) ?_
  refine kVi (As := [.int b0]) (rest := []) (wr := [(x0, .inr (11, [.ref xr, .ref xt, .ref xg, .ref xb, .ref xp, .ref xu, .ref xm, .ref xd, .ref xw, .ref xh, .ref xa, .ref xs, .ref xf, .int 0, .int 0, .long 0, .long 0, .int 0]))]) X (c_X4_exists l g xm b0 xma0 xma1 xma2 xma3 xma4 xma5 xma6 xma7 xma8 xma9 xma10 xma11 xma12) ok_X4_exists okv_X4_exists q_882 rfl hK hP hD hS hA hZ hl.1 [1] [0] rfl rfl rfl rfl rfl 0 4 rfl rfl rfl (Nat.le_of_ble_eq_true rfl) ⟨Nat.le_of_ble_eq_true rfl, Nat.le_of_ble_eq_true rfl⟩ dX11_isVoid_5 ⟨Nat.le_of_ble_eq_true rfl, Nat.le_of_ble_eq_true rfl⟩ (fun r_1 w1 H locs hw_2 hP hD hS => ?_)
  rw [sp_X4_exists] at hw_2
  rcases Classical.em (b0 < 0) with c_3 | c_3
  ·
    rw [if_pos c_3] at hw_2
    obtain ⟨e1, e2⟩ := Prod.mk.inj hw_2
    subst e1; subst e2
    have hP : va_P g.1 classes [(x0, .inr (11, [.ref xr, .ref xt, .ref xg, .ref xb, .ref xp, .ref xu, .ref xm, .ref xd, .ref xw, .ref xh, .ref xa, .ref xs, .ref xf, .int 0, .int 0, .long 0, .long 0, .int 0])), (xm, .inr (4, [.ref xma0, .ref xma1, .ref xma2, .ref xma3, .ref xma4, .ref xma5, .ref xma6, .ref xma7, .ref xma8, .ref xma9, .ref xma10, .ref xma11, .ref xma12, .int 0]))] H := hP
    have hD : va_D A [(x0, .inr (11, [.ref xr, .ref xt, .ref xg, .ref xb, .ref xp, .ref xu, .ref xm, .ref xd, .ref xw, .ref xh, .ref xa, .ref xs, .ref xf, .int 0, .int 0, .long 0, .long 0, .int 0])), (xm, .inr (4, [.ref xma0, .ref xma1, .ref xma2, .ref xma3, .ref xma4, .ref xma5, .ref xma6, .ref xma7, .ref xma8, .ref xma9, .ref xma10, .ref xma11, .ref xma12, .int 0]))] := hD
    refine lv_if_ne (tgt := 13) hx hb dX11_isVoid_8 (by decide) (fun c_4 => absurd (by decide) c_4) (fun _ => ?_)
    refine lv_iconst (v := (-1)) hx hb dX11_isVoid_11 (by decide) ?_
    exact rI X hK hP hD hS dX11_isVoid_12 (by rfl) (Nat.le_of_ble_eq_true rfl) (Nat.le_of_ble_eq_true rfl) (by show _ = _; unfold sp_X11_isVoid; rw [if_pos c_3]; try rfl)
  ·
    rw [if_neg c_3] at hw_2
    obtain ⟨e1, e2⟩ := Prod.mk.inj hw_2
    subst e1; subst e2
    have hP : va_P g.1 classes [(x0, .inr (11, [.ref xr, .ref xt, .ref xg, .ref xb, .ref xp, .ref xu, .ref xm, .ref xd, .ref xw, .ref xh, .ref xa, .ref xs, .ref xf, .int 0, .int 0, .long 0, .long 0, .int 0])), (xm, .inr (4, [.ref xma0, .ref xma1, .ref xma2, .ref xma3, .ref xma4, .ref xma5, .ref xma6, .ref xma7, .ref xma8, .ref xma9, .ref xma10, .ref xma11, .ref xma12, .int 0]))] H := hP
    have hD : va_D A [(x0, .inr (11, [.ref xr, .ref xt, .ref xg, .ref xb, .ref xp, .ref xu, .ref xm, .ref xd, .ref xw, .ref xh, .ref xa, .ref xs, .ref xf, .int 0, .int 0, .long 0, .long 0, .int 0])), (xm, .inr (4, [.ref xma0, .ref xma1, .ref xma2, .ref xma3, .ref xma4, .ref xma5, .ref xma6, .ref xma7, .ref xma8, .ref xma9, .ref xma10, .ref xma11, .ref xma12, .int 0]))] := hD
    refine lv_if_ne (tgt := 13) hx hb dX11_isVoid_8 (by decide) (fun c_5 => absurd (by decide) c_5) (fun _ => ?_)
    refine lv_iconst (v := (-1)) hx hb dX11_isVoid_11 (by decide) ?_
    exact rI X hK hP hD hS dX11_isVoid_12 (by rfl) (Nat.le_of_ble_eq_true rfl) (Nat.le_of_ble_eq_true rfl) (by show _ = _; unfold sp_X11_isVoid; rw [if_neg c_3]; try rfl)
def sp_X11_act (g : GG) (x0 : Nat) (b0 : Int32) (xr : Nat) (xt : Nat) (xg : Nat) (xb : Nat) (xp : Nat) (xu : Nat) (xm : Nat) (xd : Nat) (xw : Nat) (xh : Nat) (xa : Nat) (xs : Nat) (xf : Nat) (xaa2 : Nat) (xaa3 : Nat) (xaa4 : Nat) (xaa5 : Nat) : Int32 := if b0 < 0 then (-9) else (-9)
set_option maxHeartbeats 4000000 in
set_option maxRecDepth 100000 in
theorem c_X11_act (l : Launch) (g : GG) (x0 : Nat) (b0 : Int32) (xr : Nat) (xt : Nat) (xg : Nat) (xb : Nat) (xp : Nat) (xu : Nat) (xm : Nat) (xd : Nat) (xw : Nat) (xh : Nat) (xa : Nat) (xs : Nat) (xf : Nat) (xaa2 : Nat) (xaa3 : Nat) (xaa4 : Nat) (xaa5 : Nat) : MI l g yX11_act cX11_act 2 (some .int) 1 21 0 0 [(x0, .inr (11, [.ref xr, .ref xt, .ref xg, .ref xb, .ref xp, .ref xu, .ref xm, .ref xd, .ref xw, .ref xh, .ref xa, .ref xs, .ref xf, .int 0, .int 0, .long 0, .long 0, .int 0])), (xa, .inr (0, [.int 0, .int 0, .ref xaa2, .ref xaa3, .ref xaa4, .ref xaa5]))] [.ref x0, .int b0] (fun rr_ _ => rr_ = sp_X11_act g x0 b0 xr xt xg xb xp xu xm xd xw xh xa xs xf xaa2 xaa3 xaa4 xaa5) := by
  refine met_of (fun A => va_Qi _ (bW g A) A) (by decide) (Nat.le_of_ble_eq_true rfl) ?_
  intro p e s m below meth c A ls X hK hP hD hA hZ hS hl
  have hx := X.1
  have hb := X.2.1
  have hml := X.2.2.1
  have hown := X.2.2.2.1
  have hts := X.2.2.2.2.1
  have hnm := X.2.2.2.2.2.2.2
  have hl : lv_has ls 2 [(0, .ref x0), (1, .int b0)] := hl
  refine lv_aload_n hx hb dX11_act_0 rfl (lv_at hl 0 rfl) ?_
  refine va_get (D := g.1) (ci := 11) (v := .ref xa) (C := RX11) (T := TX11) (N := 18) hx hb hts fw_X11 hown hK hP 0 rfl rfl 10 (by decide) (hts _ q_468) (fun _ h9 => h9) rfl dX11_act_1 ?_
  refine lv_iload_n hx hb dX11_act_4 rfl (lv_at hl 1 rfl) ?_
  refine kVi (As := [.int b0]) (rest := []) (wr := [(x0, .inr (11, [.ref xr, .ref xt, .ref xg, .ref xb, .ref xp, .ref xu, .ref xm, .ref xd, .ref xw, .ref xh, .ref xa, .ref xs, .ref xf, .int 0, .int 0, .long 0, .long 0, .int 0]))]) X (c_X0_exists l g xa b0 xaa2 xaa3 xaa4 xaa5) ok_X0_exists okv_X0_exists q_1302 rfl hK hP hD hS hA hZ hl.1 [1] [0] rfl rfl rfl rfl rfl 0 0 rfl rfl rfl (Nat.le_of_ble_eq_true rfl) ⟨Nat.le_of_ble_eq_true rfl, Nat.le_of_ble_eq_true rfl⟩ dX11_act_5 ⟨Nat.le_of_ble_eq_true rfl, Nat.le_of_ble_eq_true rfl⟩ (fun r_1 w1 H locs hw_2 hP hD hS => ?_)
  rw [sp_X0_exists] at hw_2
  rcases Classical.em (b0 < 0) with c_3 | c_3
  ·
    rw [if_pos c_3] at hw_2
    obtain ⟨e1, e2⟩ := Prod.mk.inj hw_2
    subst e1; subst e2
    have hP : va_P g.1 classes [(x0, .inr (11, [.ref xr, .ref xt, .ref xg, .ref xb, .ref xp, .ref xu, .ref xm, .ref xd, .ref xw, .ref xh, .ref xa, .ref xs, .ref xf, .int 0, .int 0, .long 0, .long 0, .int 0])), (xa, .inr (0, [.int 0, .int 0, .ref xaa2, .ref xaa3, .ref xaa4, .ref xaa5]))] H := hP
    have hD : va_D A [(x0, .inr (11, [.ref xr, .ref xt, .ref xg, .ref xb, .ref xp, .ref xu, .ref xm, .ref xd, .ref xw, .ref xh, .ref xa, .ref xs, .ref xf, .int 0, .int 0, .long 0, .long 0, .int 0])), (xa, .inr (0, [.int 0, .int 0, .ref xaa2, .ref xaa3, .ref xaa4, .ref xaa5]))] := hD
    refine lv_if_ne (tgt := 14) hx hb dX11_act_8 (by decide) (fun c_4 => absurd (by decide) c_4) (fun _ => ?_)
    refine lv_bipush (v := (-9)) hx hb dX11_act_11 (by decide) ?_
    exact rI X hK hP hD hS dX11_act_13 (by rfl) (Nat.le_of_ble_eq_true rfl) (Nat.le_of_ble_eq_true rfl) (by show _ = _; unfold sp_X11_act; rw [if_pos c_3]; try rfl)
  ·
    rw [if_neg c_3] at hw_2
    obtain ⟨e1, e2⟩ := Prod.mk.inj hw_2
    subst e1; subst e2
    have hP : va_P g.1 classes [(x0, .inr (11, [.ref xr, .ref xt, .ref xg, .ref xb, .ref xp, .ref xu, .ref xm, .ref xd, .ref xw, .ref xh, .ref xa, .ref xs, .ref xf, .int 0, .int 0, .long 0, .long 0, .int 0])), (xa, .inr (0, [.int 0, .int 0, .ref xaa2, .ref xaa3, .ref xaa4, .ref xaa5]))] H := hP
    have hD : va_D A [(x0, .inr (11, [.ref xr, .ref xt, .ref xg, .ref xb, .ref xp, .ref xu, .ref xm, .ref xd, .ref xw, .ref xh, .ref xa, .ref xs, .ref xf, .int 0, .int 0, .long 0, .long 0, .int 0])), (xa, .inr (0, [.int 0, .int 0, .ref xaa2, .ref xaa3, .ref xaa4, .ref xaa5]))] := hD
    refine lv_if_ne (tgt := 14) hx hb dX11_act_8 (by decide) (fun c_5 => absurd (by decide) c_5) (fun _ => ?_)
    refine lv_bipush (v := (-9)) hx hb dX11_act_11 (by decide) ?_
    exact rI X hK hP hD hS dX11_act_13 (by rfl) (Nat.le_of_ble_eq_true rfl) (Nat.le_of_ble_eq_true rfl) (by show _ = _; unfold sp_X11_act; rw [if_neg c_3]; try rfl)
def sp_X11_grants (g : GG) (x0 : Nat) (b0 : Int32) (b1 : Int32) (xr : Nat) (xt : Nat) (xg : Nat) (xb : Nat) (xp : Nat) (xu : Nat) (xm : Nat) (xd : Nat) (xw : Nat) (xh : Nat) (xa : Nat) (xs : Nat) (xf : Nat) (xma0 : Nat) (xma1 : Nat) (xma2 : Nat) (xma3 : Nat) (xma4 : Nat) (xma5 : Nat) (xma6 : Nat) (xma7 : Nat) (xma8 : Nat) (xma9 : Nat) (xma10 : Nat) (xma11 : Nat) (xma12 : Nat) : Int32 := if b0 < 0 then (-1) else (-1)
set_option maxHeartbeats 4000000 in
set_option maxRecDepth 100000 in
theorem c_X11_grants (l : Launch) (g : GG) (x0 : Nat) (b0 : Int32) (b1 : Int32) (xr : Nat) (xt : Nat) (xg : Nat) (xb : Nat) (xp : Nat) (xu : Nat) (xm : Nat) (xd : Nat) (xw : Nat) (xh : Nat) (xa : Nat) (xs : Nat) (xf : Nat) (xma0 : Nat) (xma1 : Nat) (xma2 : Nat) (xma3 : Nat) (xma4 : Nat) (xma5 : Nat) (xma6 : Nat) (xma7 : Nat) (xma8 : Nat) (xma9 : Nat) (xma10 : Nat) (xma11 : Nat) (xma12 : Nat) : MI l g yX11_grants cX11_grants 5 (some .int) 1 21 0 0 [(x0, .inr (11, [.ref xr, .ref xt, .ref xg, .ref xb, .ref xp, .ref xu, .ref xm, .ref xd, .ref xw, .ref xh, .ref xa, .ref xs, .ref xf, .int 0, .int 0, .long 0, .long 0, .int 0])), (xm, .inr (4, [.ref xma0, .ref xma1, .ref xma2, .ref xma3, .ref xma4, .ref xma5, .ref xma6, .ref xma7, .ref xma8, .ref xma9, .ref xma10, .ref xma11, .ref xma12, .int 0]))] [.ref x0, .int b0, .int b1] (fun rr_ _ => rr_ = sp_X11_grants g x0 b0 b1 xr xt xg xb xp xu xm xd xw xh xa xs xf xma0 xma1 xma2 xma3 xma4 xma5 xma6 xma7 xma8 xma9 xma10 xma11 xma12) := by
  refine met_of (fun A => va_Qi _ (bW g A) A) (by decide) (Nat.le_of_ble_eq_true rfl) ?_
  intro p e s m below meth c A ls X hK hP hD hA hZ hS hl
  have hx := X.1
  have hb := X.2.1
  have hml := X.2.2.1
  have hown := X.2.2.2.1
  have hts := X.2.2.2.2.1
  have hnm := X.2.2.2.2.2.2.2
  have hl : lv_has ls 5 [(0, .ref x0), (1, .int b0), (2, .int b1)] := hl
  refine lv_aload_n hx hb dX11_grants_0 rfl (lv_at hl 0 rfl) ?_
  refine va_get (D := g.1) (ci := 11) (v := .ref xm) (C := RX11) (T := TX11) (N := 18) hx hb hts fw_X11 hown hK hP 0 rfl rfl 6 (by decide) (hts _ q_464) (fun _ h9 => h9) rfl dX11_grants_1 ?_
  refine lv_iload_n hx hb dX11_grants_4 rfl (lv_at hl 1 rfl) ?_
  refine kVi (As := [.int b0]) (rest := []) (wr := [(x0, .inr (11, [.ref xr, .ref xt, .ref xg, .ref xb, .ref xp, .ref xu, .ref xm, .ref xd, .ref xw, .ref xh, .ref xa, .ref xs, .ref xf, .int 0, .int 0, .long 0, .long 0, .int 0]))]) X (c_X4_exists l g xm b0 xma0 xma1 xma2 xma3 xma4 xma5 xma6 xma7 xma8 xma9 xma10 xma11 xma12) ok_X4_exists okv_X4_exists q_882 rfl hK hP hD hS hA hZ hl.1 [1] [0] rfl rfl rfl rfl rfl 0 4 rfl rfl rfl (Nat.le_of_ble_eq_true rfl) ⟨Nat.le_of_ble_eq_true rfl, Nat.le_of_ble_eq_true rfl⟩ dX11_grants_5 ⟨Nat.le_of_ble_eq_true rfl, Nat.le_of_ble_eq_true rfl⟩ (fun r_1 w1 H locs hw_2 hP hD hS => ?_)
  rw [sp_X4_exists] at hw_2
  rcases Classical.em (b0 < 0) with c_3 | c_3
  ·
    rw [if_pos c_3] at hw_2
    obtain ⟨e1, e2⟩ := Prod.mk.inj hw_2
    subst e1; subst e2
    have hP : va_P g.1 classes [(x0, .inr (11, [.ref xr, .ref xt, .ref xg, .ref xb, .ref xp, .ref xu, .ref xm, .ref xd, .ref xw, .ref xh, .ref xa, .ref xs, .ref xf, .int 0, .int 0, .long 0, .long 0, .int 0])), (xm, .inr (4, [.ref xma0, .ref xma1, .ref xma2, .ref xma3, .ref xma4, .ref xma5, .ref xma6, .ref xma7, .ref xma8, .ref xma9, .ref xma10, .ref xma11, .ref xma12, .int 0]))] H := hP
    have hD : va_D A [(x0, .inr (11, [.ref xr, .ref xt, .ref xg, .ref xb, .ref xp, .ref xu, .ref xm, .ref xd, .ref xw, .ref xh, .ref xa, .ref xs, .ref xf, .int 0, .int 0, .long 0, .long 0, .int 0])), (xm, .inr (4, [.ref xma0, .ref xma1, .ref xma2, .ref xma3, .ref xma4, .ref xma5, .ref xma6, .ref xma7, .ref xma8, .ref xma9, .ref xma10, .ref xma11, .ref xma12, .int 0]))] := hD
    refine lv_if_eq (tgt := 22) hx hb dX11_grants_8 (by decide) (fun _ => ?_) (fun c_4 => absurd (by decide) c_4)
    refine lv_iconst (v := (-1)) hx hb dX11_grants_22 (by decide) ?_
    exact rI X hK hP hD hS dX11_grants_23 (by rfl) (Nat.le_of_ble_eq_true rfl) (Nat.le_of_ble_eq_true rfl) (by show _ = _; unfold sp_X11_grants; rw [if_pos c_3]; try rfl)
  ·
    rw [if_neg c_3] at hw_2
    obtain ⟨e1, e2⟩ := Prod.mk.inj hw_2
    subst e1; subst e2
    have hP : va_P g.1 classes [(x0, .inr (11, [.ref xr, .ref xt, .ref xg, .ref xb, .ref xp, .ref xu, .ref xm, .ref xd, .ref xw, .ref xh, .ref xa, .ref xs, .ref xf, .int 0, .int 0, .long 0, .long 0, .int 0])), (xm, .inr (4, [.ref xma0, .ref xma1, .ref xma2, .ref xma3, .ref xma4, .ref xma5, .ref xma6, .ref xma7, .ref xma8, .ref xma9, .ref xma10, .ref xma11, .ref xma12, .int 0]))] H := hP
    have hD : va_D A [(x0, .inr (11, [.ref xr, .ref xt, .ref xg, .ref xb, .ref xp, .ref xu, .ref xm, .ref xd, .ref xw, .ref xh, .ref xa, .ref xs, .ref xf, .int 0, .int 0, .long 0, .long 0, .int 0])), (xm, .inr (4, [.ref xma0, .ref xma1, .ref xma2, .ref xma3, .ref xma4, .ref xma5, .ref xma6, .ref xma7, .ref xma8, .ref xma9, .ref xma10, .ref xma11, .ref xma12, .int 0]))] := hD
    refine lv_if_eq (tgt := 22) hx hb dX11_grants_8 (by decide) (fun _ => ?_) (fun c_5 => absurd (by decide) c_5)
    refine lv_iconst (v := (-1)) hx hb dX11_grants_22 (by decide) ?_
    exact rI X hK hP hD hS dX11_grants_23 (by rfl) (Nat.le_of_ble_eq_true rfl) (Nat.le_of_ble_eq_true rfl) (by show _ = _; unfold sp_X11_grants; rw [if_neg c_3]; try rfl)
def sp_X11_judge (g : GG) (x0 : Nat) (b0 : Int32) (b1 : Int32) (b2 : Int32) (xr : Nat) (xt : Nat) (xg : Nat) (xb : Nat) (xp : Nat) (xu : Nat) (xm : Nat) (xd : Nat) (xw : Nat) (xh : Nat) (xa : Nat) (xs : Nat) (xf : Nat) (xma0 : Nat) (xma1 : Nat) (xma2 : Nat) (xma3 : Nat) (xma4 : Nat) (xma5 : Nat) (xma6 : Nat) (xma7 : Nat) (xma8 : Nat) (xma9 : Nat) (xma10 : Nat) (xma11 : Nat) (xma12 : Nat) : Int32 := if b0 < 0 then (-1) else (-1)
set_option maxHeartbeats 4000000 in
set_option maxRecDepth 100000 in
theorem c_X11_judge (l : Launch) (g : GG) (x0 : Nat) (b0 : Int32) (b1 : Int32) (b2 : Int32) (xr : Nat) (xt : Nat) (xg : Nat) (xb : Nat) (xp : Nat) (xu : Nat) (xm : Nat) (xd : Nat) (xw : Nat) (xh : Nat) (xa : Nat) (xs : Nat) (xf : Nat) (xma0 : Nat) (xma1 : Nat) (xma2 : Nat) (xma3 : Nat) (xma4 : Nat) (xma5 : Nat) (xma6 : Nat) (xma7 : Nat) (xma8 : Nat) (xma9 : Nat) (xma10 : Nat) (xma11 : Nat) (xma12 : Nat) : MI l g yX11_judge cX11_judge 5 (some .int) 1 21 0 0 [(x0, .inr (11, [.ref xr, .ref xt, .ref xg, .ref xb, .ref xp, .ref xu, .ref xm, .ref xd, .ref xw, .ref xh, .ref xa, .ref xs, .ref xf, .int 0, .int 0, .long 0, .long 0, .int 0])), (xm, .inr (4, [.ref xma0, .ref xma1, .ref xma2, .ref xma3, .ref xma4, .ref xma5, .ref xma6, .ref xma7, .ref xma8, .ref xma9, .ref xma10, .ref xma11, .ref xma12, .int 0]))] [.ref x0, .int b0, .int b1, .int b2] (fun rr_ _ => rr_ = sp_X11_judge g x0 b0 b1 b2 xr xt xg xb xp xu xm xd xw xh xa xs xf xma0 xma1 xma2 xma3 xma4 xma5 xma6 xma7 xma8 xma9 xma10 xma11 xma12) := by
  refine met_of (fun A => va_Qi _ (bW g A) A) (by decide) (Nat.le_of_ble_eq_true rfl) ?_
  intro p e s m below meth c A ls X hK hP hD hA hZ hS hl
  have hx := X.1
  have hb := X.2.1
  have hml := X.2.2.1
  have hown := X.2.2.2.1
  have hts := X.2.2.2.2.1
  have hnm := X.2.2.2.2.2.2.2
  have hl : lv_has ls 5 [(0, .ref x0), (1, .int b0), (2, .int b1), (3, .int b2)] := hl
  refine lv_aload_n hx hb dX11_judge_0 rfl (lv_at hl 0 rfl) ?_
  refine va_get (D := g.1) (ci := 11) (v := .ref xm) (C := RX11) (T := TX11) (N := 18) hx hb hts fw_X11 hown hK hP 0 rfl rfl 6 (by decide) (hts _ q_464) (fun _ h9 => h9) rfl dX11_judge_1 ?_
  refine lv_iload_n hx hb dX11_judge_4 rfl (lv_at hl 1 rfl) ?_
  refine kVi (As := [.int b0]) (rest := []) (wr := [(x0, .inr (11, [.ref xr, .ref xt, .ref xg, .ref xb, .ref xp, .ref xu, .ref xm, .ref xd, .ref xw, .ref xh, .ref xa, .ref xs, .ref xf, .int 0, .int 0, .long 0, .long 0, .int 0]))]) X (c_X4_exists l g xm b0 xma0 xma1 xma2 xma3 xma4 xma5 xma6 xma7 xma8 xma9 xma10 xma11 xma12) ok_X4_exists okv_X4_exists q_882 rfl hK hP hD hS hA hZ hl.1 [1] [0] rfl rfl rfl rfl rfl 0 4 rfl rfl rfl (Nat.le_of_ble_eq_true rfl) ⟨Nat.le_of_ble_eq_true rfl, Nat.le_of_ble_eq_true rfl⟩ dX11_judge_5 ⟨Nat.le_of_ble_eq_true rfl, Nat.le_of_ble_eq_true rfl⟩ (fun r_1 w1 H locs hw_2 hP hD hS => ?_)
  rw [sp_X4_exists] at hw_2
  rcases Classical.em (b0 < 0) with c_3 | c_3
  ·
    rw [if_pos c_3] at hw_2
    obtain ⟨e1, e2⟩ := Prod.mk.inj hw_2
    subst e1; subst e2
    have hP : va_P g.1 classes [(x0, .inr (11, [.ref xr, .ref xt, .ref xg, .ref xb, .ref xp, .ref xu, .ref xm, .ref xd, .ref xw, .ref xh, .ref xa, .ref xs, .ref xf, .int 0, .int 0, .long 0, .long 0, .int 0])), (xm, .inr (4, [.ref xma0, .ref xma1, .ref xma2, .ref xma3, .ref xma4, .ref xma5, .ref xma6, .ref xma7, .ref xma8, .ref xma9, .ref xma10, .ref xma11, .ref xma12, .int 0]))] H := hP
    have hD : va_D A [(x0, .inr (11, [.ref xr, .ref xt, .ref xg, .ref xb, .ref xp, .ref xu, .ref xm, .ref xd, .ref xw, .ref xh, .ref xa, .ref xs, .ref xf, .int 0, .int 0, .long 0, .long 0, .int 0])), (xm, .inr (4, [.ref xma0, .ref xma1, .ref xma2, .ref xma3, .ref xma4, .ref xma5, .ref xma6, .ref xma7, .ref xma8, .ref xma9, .ref xma10, .ref xma11, .ref xma12, .int 0]))] := hD
    refine lv_if_eq (tgt := 33) hx hb dX11_judge_8 (by decide) (fun _ => ?_) (fun c_4 => absurd (by decide) c_4)
    refine lv_iconst (v := (-1)) hx hb dX11_judge_33 (by decide) ?_
    exact rI X hK hP hD hS dX11_judge_34 (by rfl) (Nat.le_of_ble_eq_true rfl) (Nat.le_of_ble_eq_true rfl) (by show _ = _; unfold sp_X11_judge; rw [if_pos c_3]; try rfl)
  ·
    rw [if_neg c_3] at hw_2
    obtain ⟨e1, e2⟩ := Prod.mk.inj hw_2
    subst e1; subst e2
    have hP : va_P g.1 classes [(x0, .inr (11, [.ref xr, .ref xt, .ref xg, .ref xb, .ref xp, .ref xu, .ref xm, .ref xd, .ref xw, .ref xh, .ref xa, .ref xs, .ref xf, .int 0, .int 0, .long 0, .long 0, .int 0])), (xm, .inr (4, [.ref xma0, .ref xma1, .ref xma2, .ref xma3, .ref xma4, .ref xma5, .ref xma6, .ref xma7, .ref xma8, .ref xma9, .ref xma10, .ref xma11, .ref xma12, .int 0]))] H := hP
    have hD : va_D A [(x0, .inr (11, [.ref xr, .ref xt, .ref xg, .ref xb, .ref xp, .ref xu, .ref xm, .ref xd, .ref xw, .ref xh, .ref xa, .ref xs, .ref xf, .int 0, .int 0, .long 0, .long 0, .int 0])), (xm, .inr (4, [.ref xma0, .ref xma1, .ref xma2, .ref xma3, .ref xma4, .ref xma5, .ref xma6, .ref xma7, .ref xma8, .ref xma9, .ref xma10, .ref xma11, .ref xma12, .int 0]))] := hD
    refine lv_if_eq (tgt := 33) hx hb dX11_judge_8 (by decide) (fun _ => ?_) (fun c_5 => absurd (by decide) c_5)
    refine lv_iconst (v := (-1)) hx hb dX11_judge_33 (by decide) ?_
    exact rI X hK hP hD hS dX11_judge_34 (by rfl) (Nat.le_of_ble_eq_true rfl) (Nat.le_of_ble_eq_true rfl) (by show _ = _; unfold sp_X11_judge; rw [if_neg c_3]; try rfl)
def sp_X11_person (g : GG) (x0 : Nat) (b0 : Int32) (w0 : Int32) (z0 : Int32) (k0 : Int32) (xr : Nat) (xt : Nat) (xg : Nat) (xb : Nat) (xp : Nat) (xu : Nat) (xm : Nat) (xd : Nat) (xw : Nat) (xh : Nat) (xa : Nat) (xs : Nat) (xf : Nat) (xba0 : Nat) (xba1 : Nat) (xba2 : Nat) (xba3 : Nat) (xba4 : Nat) (xba5 : Nat) (xba6 : Nat) (xba7 : Nat) (xba8 : Nat) (xba9 : Nat) (xba10 : Nat) (xba11 : Nat) (xpa0 : Nat) (xpa1 : Nat) (xpa2 : Nat) (xpa3 : Nat) : Int32 := if b0 = (-9) then (if w0 = (-9) then (if k0 < 0 then (-1) else (if k0 ≤ 9 then 0 else (-1))) else (if w0 < 0 then (-1) else (if 64 ≤ w0 then (-1) else (if k0 < 0 then (-1) else (if k0 ≤ 9 then 0 else (-1)))))) else (if b0 < 0 then (-1) else (-1))
set_option maxHeartbeats 4000000 in
set_option maxRecDepth 100000 in
theorem c_X11_person (l : Launch) (g : GG) (x0 : Nat) (b0 : Int32) (w0 : Int32) (z0 : Int32) (k0 : Int32) (xr : Nat) (xt : Nat) (xg : Nat) (xb : Nat) (xp : Nat) (xu : Nat) (xm : Nat) (xd : Nat) (xw : Nat) (xh : Nat) (xa : Nat) (xs : Nat) (xf : Nat) (xba0 : Nat) (xba1 : Nat) (xba2 : Nat) (xba3 : Nat) (xba4 : Nat) (xba5 : Nat) (xba6 : Nat) (xba7 : Nat) (xba8 : Nat) (xba9 : Nat) (xba10 : Nat) (xba11 : Nat) (xpa0 : Nat) (xpa1 : Nat) (xpa2 : Nat) (xpa3 : Nat) : MI l g yX11_person cX11_person 6 (some .int) 1 24 0 0 [(x0, .inr (11, [.ref xr, .ref xt, .ref xg, .ref xb, .ref xp, .ref xu, .ref xm, .ref xd, .ref xw, .ref xh, .ref xa, .ref xs, .ref xf, .int 0, .int 0, .long 0, .long 0, .int 0])), (xb, .inr (1, [.ref xba0, .ref xba1, .ref xba2, .ref xba3, .ref xba4, .ref xba5, .ref xba6, .ref xba7, .ref xba8, .ref xba9, .ref xba10, .ref xba11, .int 0, .int 0])), (xp, .inr (5, [.ref xpa0, .ref xpa1, .ref xpa2, .ref xpa3, .int 0])), (xpa0, .inl (cI g, 40, .inl (fun _ => 0))), (xpa1, .inl (cI g, 40, .inl (fun _ => 0))), (xpa2, .inl (cZ g, 40, .inl (fun _ => 0))), (xpa3, .inl (cI g, 40, .inl (fun _ => 0)))] [.ref x0, .int b0, .int w0, .int z0, .int k0] (fun rr_ _ => rr_ = sp_X11_person g x0 b0 w0 z0 k0 xr xt xg xb xp xu xm xd xw xh xa xs xf xba0 xba1 xba2 xba3 xba4 xba5 xba6 xba7 xba8 xba9 xba10 xba11 xpa0 xpa1 xpa2 xpa3) := by
  refine met_of (fun A => va_Qi _ (bW g A) A) (by decide) (Nat.le_of_ble_eq_true rfl) ?_
  intro p e s m below meth c A ls X hK hP hD hA hZ hS hl
  have hx := X.1
  have hb := X.2.1
  have hml := X.2.2.1
  have hown := X.2.2.2.1
  have hts := X.2.2.2.2.1
  have hnm := X.2.2.2.2.2.2.2
  have hl : lv_has ls 6 [(0, .ref x0), (1, .int b0), (2, .int w0), (3, .int z0), (4, .int k0)] := hl
  refine lv_iload_n hx hb dX11_person_0 rfl (lv_at hl 1 rfl) ?_
  refine lv_bipush (v := (-9)) hx hb dX11_person_1 (by decide) ?_
  refine lv_icmp_eq (tgt := 19) hx hb dX11_person_3 (by decide) (fun c_1 => ?_) (fun c_1 => ?_)
  ·
    refine lv_iload_n hx hb dX11_person_19 rfl (lv_at hl 2 rfl) ?_
    refine lv_bipush (v := (-9)) hx hb dX11_person_20 (by decide) ?_
    refine lv_icmp_eq (tgt := 34) hx hb dX11_person_22 (by decide) (fun c_2 => ?_) (fun c_2 => ?_)
    ·
      refine lv_iload hx hb dX11_person_34 (lv_at hl 4 rfl) ?_
      refine lv_if_lt (tgt := 46) hx hb dX11_person_36 (by decide) (fun c_3 => ?_) (fun c_3 => ?_)
      ·
        refine lv_iconst (v := (-1)) hx hb dX11_person_46 (by decide) ?_
        exact rI X hK hP hD hS dX11_person_47 (by rfl) (Nat.le_of_ble_eq_true rfl) (Nat.le_of_ble_eq_true rfl) (by show _ = _; unfold sp_X11_person; rw [if_pos c_1, if_pos c_2, if_pos c_3]; try rfl)
      ·
        refine lv_iload hx hb dX11_person_39 (lv_at hl 4 rfl) ?_
        refine lv_bipush (v := 9) hx hb dX11_person_41 (by decide) ?_
        refine lv_icmp_le (tgt := 48) hx hb dX11_person_43 (by decide) (fun c_4 => ?_) (fun c_4 => ?_)
        ·
          refine lv_aload_n hx hb dX11_person_48 rfl (lv_at hl 0 rfl) ?_
          refine va_get (D := g.1) (ci := 11) (v := .ref xp) (C := RX11) (T := TX11) (N := 18) hx hb hts fw_X11 hown hK hP 0 rfl rfl 4 (by decide) (hts _ q_462) (fun _ h9 => h9) rfl dX11_person_49 ?_
          refine kVi (As := []) (rest := []) (wr := [(x0, .inr (11, [.ref xr, .ref xt, .ref xg, .ref xb, .ref xp, .ref xu, .ref xm, .ref xd, .ref xw, .ref xh, .ref xa, .ref xs, .ref xf, .int 0, .int 0, .long 0, .long 0, .int 0])), (xb, .inr (1, [.ref xba0, .ref xba1, .ref xba2, .ref xba3, .ref xba4, .ref xba5, .ref xba6, .ref xba7, .ref xba8, .ref xba9, .ref xba10, .ref xba11, .int 0, .int 0])), (xpa0, .inl (cI g, 40, .inl (fun _ => 0))), (xpa1, .inl (cI g, 40, .inl (fun _ => 0))), (xpa2, .inl (cZ g, 40, .inl (fun _ => 0))), (xpa3, .inl (cI g, 40, .inl (fun _ => 0)))]) X (c_X5_number l g xp xpa0 xpa1 xpa2 xpa3) ok_X5_number okv_X5_number q_703 rfl hK hP hD hS hA hZ hl.1 [2] [0, 1, 3, 4, 5, 6] rfl rfl rfl rfl rfl 0 5 rfl rfl rfl (Nat.le_of_ble_eq_true rfl) ⟨Nat.le_of_ble_eq_true rfl, Nat.le_of_ble_eq_true rfl⟩ dX11_person_52 ⟨Nat.le_of_ble_eq_true rfl, Nat.le_of_ble_eq_true rfl⟩ (fun r_5 w1 H locs hw_6 hP hD hS => ?_)
          rw [sp_X5_number] at hw_6
          obtain ⟨e1, e2⟩ := Prod.mk.inj hw_6
          subst e1; subst e2
          have hP : va_P g.1 classes [(x0, .inr (11, [.ref xr, .ref xt, .ref xg, .ref xb, .ref xp, .ref xu, .ref xm, .ref xd, .ref xw, .ref xh, .ref xa, .ref xs, .ref xf, .int 0, .int 0, .long 0, .long 0, .int 0])), (xb, .inr (1, [.ref xba0, .ref xba1, .ref xba2, .ref xba3, .ref xba4, .ref xba5, .ref xba6, .ref xba7, .ref xba8, .ref xba9, .ref xba10, .ref xba11, .int 0, .int 0])), (xpa0, .inl (cI g, 40, .inl (fun _ => 0))), (xpa1, .inl (cI g, 40, .inl (fun _ => 0))), (xpa2, .inl (cZ g, 40, .inl (fun _ => 0))), (xpa3, .inl (cI g, 40, .inl (fun _ => 0))), (xp, .inr (5, [.ref xpa0, .ref xpa1, .ref xpa2, .ref xpa3, .int 0]))] H := hP
          have hD : va_D A [(x0, .inr (11, [.ref xr, .ref xt, .ref xg, .ref xb, .ref xp, .ref xu, .ref xm, .ref xd, .ref xw, .ref xh, .ref xa, .ref xs, .ref xf, .int 0, .int 0, .long 0, .long 0, .int 0])), (xb, .inr (1, [.ref xba0, .ref xba1, .ref xba2, .ref xba3, .ref xba4, .ref xba5, .ref xba6, .ref xba7, .ref xba8, .ref xba9, .ref xba10, .ref xba11, .int 0, .int 0])), (xpa0, .inl (cI g, 40, .inl (fun _ => 0))), (xpa1, .inl (cI g, 40, .inl (fun _ => 0))), (xpa2, .inl (cZ g, 40, .inl (fun _ => 0))), (xpa3, .inl (cI g, 40, .inl (fun _ => 0))), (xp, .inr (5, [.ref xpa0, .ref xpa1, .ref xpa2, .ref xpa3, .int 0]))] := hD
          refine lv_bipush (v := 40) hx hb dX11_person_55 (by decide) ?_
          refine lv_icmp_lt (tgt := 63) hx hb dX11_person_57 (by decide) (fun _ => ?_) (fun c_7 => absurd (by decide) c_7)
          refine lv_iload_n hx hb dX11_person_63 rfl (lv_at hl 1 rfl) ?_
          refine lv_bipush (v := (-9)) hx hb dX11_person_64 (by decide) ?_
          refine lv_icmp_eq (tgt := 84) hx hb dX11_person_66 (by decide) (fun _ => ?_) (fun c_8 => (by simp only [i32lt, i32le, i32eq, Int32.reduceToInt] at c_1 c_8; omega : False).elim)
          refine lv_aload_n hx hb dX11_person_84 rfl (lv_at hl 0 rfl) ?_
          refine va_get (D := g.1) (ci := 11) (v := .ref xp) (C := RX11) (T := TX11) (N := 18) hx hb hts fw_X11 hown hK hP 0 rfl rfl 4 (by decide) (hts _ q_462) (fun _ h9 => h9) rfl dX11_person_85 ?_
          refine lv_iload_n hx hb dX11_person_88 rfl (lv_at hl 2 rfl) ?_
          refine lv_iload_n hx hb dX11_person_89 rfl (lv_at hl 3 rfl) ?_
          refine lv_iload hx hb dX11_person_90 (lv_at hl 4 rfl) ?_
          refine kVi (As := [.int w0, .int z0, .int k0]) (rest := []) (wr := [(x0, .inr (11, [.ref xr, .ref xt, .ref xg, .ref xb, .ref xp, .ref xu, .ref xm, .ref xd, .ref xw, .ref xh, .ref xa, .ref xs, .ref xf, .int 0, .int 0, .long 0, .long 0, .int 0])), (xb, .inr (1, [.ref xba0, .ref xba1, .ref xba2, .ref xba3, .ref xba4, .ref xba5, .ref xba6, .ref xba7, .ref xba8, .ref xba9, .ref xba10, .ref xba11, .int 0, .int 0]))]) X (c_X5_add l g xp w0 z0 k0 xpa0 xpa1 xpa2 xpa3) ok_X5_add okv_X5_add q_715 rfl hK hP hD hS hA hZ hl.1 [6, 2, 3, 4, 5] [0, 1] rfl rfl rfl rfl rfl 0 5 rfl rfl rfl (Nat.le_of_ble_eq_true rfl) ⟨Nat.le_of_ble_eq_true rfl, Nat.le_of_ble_eq_true rfl⟩ dX11_person_92 ⟨Nat.le_of_ble_eq_true rfl, Nat.le_of_ble_eq_true rfl⟩ (fun r_9 w1 H locs hw_10 hP hD hS => ?_)
          rw [sp_X5_add] at hw_10
          obtain ⟨e1, e2⟩ := Prod.mk.inj hw_10
          subst e1; subst e2
          have hP : va_P g.1 classes [(x0, .inr (11, [.ref xr, .ref xt, .ref xg, .ref xb, .ref xp, .ref xu, .ref xm, .ref xd, .ref xw, .ref xh, .ref xa, .ref xs, .ref xf, .int 0, .int 0, .long 0, .long 0, .int 0])), (xb, .inr (1, [.ref xba0, .ref xba1, .ref xba2, .ref xba3, .ref xba4, .ref xba5, .ref xba6, .ref xba7, .ref xba8, .ref xba9, .ref xba10, .ref xba11, .int 0, .int 0])), (xp, .inr (5, [.ref xpa0, .ref xpa1, .ref xpa2, .ref xpa3, .int 1])), (xpa0, .inl (cI g, 40, .inl (upd (fun _ => 0) 0 (-9)))), (xpa1, .inl (cI g, 40, .inl (upd (fun _ => 0) 0 w0))), (xpa2, .inl (cZ g, 40, .inl (upd (fun _ => 0) 0 (vp_nar .boolean z0)))), (xpa3, .inl (cI g, 40, .inl (upd (fun _ => 0) 0 k0)))] H := hP
          have hD : va_D A [(x0, .inr (11, [.ref xr, .ref xt, .ref xg, .ref xb, .ref xp, .ref xu, .ref xm, .ref xd, .ref xw, .ref xh, .ref xa, .ref xs, .ref xf, .int 0, .int 0, .long 0, .long 0, .int 0])), (xb, .inr (1, [.ref xba0, .ref xba1, .ref xba2, .ref xba3, .ref xba4, .ref xba5, .ref xba6, .ref xba7, .ref xba8, .ref xba9, .ref xba10, .ref xba11, .int 0, .int 0])), (xp, .inr (5, [.ref xpa0, .ref xpa1, .ref xpa2, .ref xpa3, .int 1])), (xpa0, .inl (cI g, 40, .inl (upd (fun _ => 0) 0 (-9)))), (xpa1, .inl (cI g, 40, .inl (upd (fun _ => 0) 0 w0))), (xpa2, .inl (cZ g, 40, .inl (upd (fun _ => 0) 0 (vp_nar .boolean z0)))), (xpa3, .inl (cI g, 40, .inl (upd (fun _ => 0) 0 k0)))] := hD
          refine lv_istore (lv' := [(5, .int 0), (0, .ref x0), (1, .int b0), (2, .int w0), (3, .int z0), (4, .int k0)]) hx hb dX11_person_95 hl (by decide) rfl (fun ls hl => ?_)
          refine lv_iload_n hx hb dX11_person_97 rfl (lv_at hl 2 rfl) ?_
          refine lv_bipush (v := (-9)) hx hb dX11_person_98 (by decide) ?_
          refine lv_icmp_eq (tgt := 110) hx hb dX11_person_100 (by decide) (fun _ => ?_) (fun c_11 => (by simp only [i32lt, i32le, i32eq, Int32.reduceToInt] at c_1 c_11; omega : False).elim)
          refine lv_iload hx hb dX11_person_110 (lv_at hl 0 rfl) ?_
          exact rI X hK hP hD hS dX11_person_112 (by rfl) (Nat.le_of_ble_eq_true rfl) (Nat.le_of_ble_eq_true rfl) (by show _ = _; unfold sp_X11_person; rw [if_pos c_1, if_pos c_2, if_neg c_3, if_pos c_4]; try rfl)
        ·
          refine lv_iconst (v := (-1)) hx hb dX11_person_46 (by decide) ?_
          exact rI X hK hP hD hS dX11_person_47 (by rfl) (Nat.le_of_ble_eq_true rfl) (Nat.le_of_ble_eq_true rfl) (by show _ = _; unfold sp_X11_person; rw [if_pos c_1, if_pos c_2, if_neg c_3, if_neg c_4]; try rfl)
    ·
      refine lv_iload_n hx hb dX11_person_25 rfl (lv_at hl 2 rfl) ?_
      refine kSi (As := [.int w0]) (rest := []) (wr := [(x0, .inr (11, [.ref xr, .ref xt, .ref xg, .ref xb, .ref xp, .ref xu, .ref xm, .ref xd, .ref xw, .ref xh, .ref xa, .ref xs, .ref xf, .int 0, .int 0, .long 0, .long 0, .int 0])), (xb, .inr (1, [.ref xba0, .ref xba1, .ref xba2, .ref xba3, .ref xba4, .ref xba5, .ref xba6, .ref xba7, .ref xba8, .ref xba9, .ref xba10, .ref xba11, .int 0, .int 0])), (xp, .inr (5, [.ref xpa0, .ref xpa1, .ref xpa2, .ref xpa3, .int 0])), (xpa0, .inl (cI g, 40, .inl (fun _ => 0))), (xpa1, .inl (cI g, 40, .inl (fun _ => 0))), (xpa2, .inl (cZ g, 40, .inl (fun _ => 0))), (xpa3, .inl (cI g, 40, .inl (fun _ => 0)))]) X (c_X3_isCell l g w0) ok_X3_isCell q_622 q_621 rfl hK hP hD hS hA hZ hl.1 [] [0, 1, 2, 3, 4, 5, 6] rfl rfl rfl rfl rfl rfl (Nat.le_of_ble_eq_true rfl) ⟨Nat.le_of_ble_eq_true rfl, Nat.le_of_ble_eq_true rfl⟩ dX11_person_26 ⟨Nat.le_of_ble_eq_true rfl, Nat.le_of_ble_eq_true rfl⟩ (fun r_12 w1 H locs hw_13 hP hD hS => ?_)
      rw [sp_X3_isCell] at hw_13
      rcases Classical.em (w0 < 0) with c_14 | c_14
      ·
        rw [if_pos c_14] at hw_13
        obtain ⟨e1, e2⟩ := Prod.mk.inj hw_13
        subst e1; subst e2
        have hP : va_P g.1 classes [(x0, .inr (11, [.ref xr, .ref xt, .ref xg, .ref xb, .ref xp, .ref xu, .ref xm, .ref xd, .ref xw, .ref xh, .ref xa, .ref xs, .ref xf, .int 0, .int 0, .long 0, .long 0, .int 0])), (xb, .inr (1, [.ref xba0, .ref xba1, .ref xba2, .ref xba3, .ref xba4, .ref xba5, .ref xba6, .ref xba7, .ref xba8, .ref xba9, .ref xba10, .ref xba11, .int 0, .int 0])), (xp, .inr (5, [.ref xpa0, .ref xpa1, .ref xpa2, .ref xpa3, .int 0])), (xpa0, .inl (cI g, 40, .inl (fun _ => 0))), (xpa1, .inl (cI g, 40, .inl (fun _ => 0))), (xpa2, .inl (cZ g, 40, .inl (fun _ => 0))), (xpa3, .inl (cI g, 40, .inl (fun _ => 0)))] H := hP
        have hD : va_D A [(x0, .inr (11, [.ref xr, .ref xt, .ref xg, .ref xb, .ref xp, .ref xu, .ref xm, .ref xd, .ref xw, .ref xh, .ref xa, .ref xs, .ref xf, .int 0, .int 0, .long 0, .long 0, .int 0])), (xb, .inr (1, [.ref xba0, .ref xba1, .ref xba2, .ref xba3, .ref xba4, .ref xba5, .ref xba6, .ref xba7, .ref xba8, .ref xba9, .ref xba10, .ref xba11, .int 0, .int 0])), (xp, .inr (5, [.ref xpa0, .ref xpa1, .ref xpa2, .ref xpa3, .int 0])), (xpa0, .inl (cI g, 40, .inl (fun _ => 0))), (xpa1, .inl (cI g, 40, .inl (fun _ => 0))), (xpa2, .inl (cZ g, 40, .inl (fun _ => 0))), (xpa3, .inl (cI g, 40, .inl (fun _ => 0)))] := hD
        refine lv_if_ne (tgt := 34) hx hb dX11_person_29 (by decide) (fun c_15 => absurd (by decide) c_15) (fun _ => ?_)
        refine lv_iconst (v := (-1)) hx hb dX11_person_32 (by decide) ?_
        exact rI X hK hP hD hS dX11_person_33 (by rfl) (Nat.le_of_ble_eq_true rfl) (Nat.le_of_ble_eq_true rfl) (by show _ = _; unfold sp_X11_person; rw [if_pos c_1, if_neg c_2, if_pos c_14]; try rfl)
      ·
        rw [if_neg c_14] at hw_13
        rcases Classical.em (64 ≤ w0) with c_16 | c_16
        ·
          rw [if_pos c_16] at hw_13
          obtain ⟨e1, e2⟩ := Prod.mk.inj hw_13
          subst e1; subst e2
          have hP : va_P g.1 classes [(x0, .inr (11, [.ref xr, .ref xt, .ref xg, .ref xb, .ref xp, .ref xu, .ref xm, .ref xd, .ref xw, .ref xh, .ref xa, .ref xs, .ref xf, .int 0, .int 0, .long 0, .long 0, .int 0])), (xb, .inr (1, [.ref xba0, .ref xba1, .ref xba2, .ref xba3, .ref xba4, .ref xba5, .ref xba6, .ref xba7, .ref xba8, .ref xba9, .ref xba10, .ref xba11, .int 0, .int 0])), (xp, .inr (5, [.ref xpa0, .ref xpa1, .ref xpa2, .ref xpa3, .int 0])), (xpa0, .inl (cI g, 40, .inl (fun _ => 0))), (xpa1, .inl (cI g, 40, .inl (fun _ => 0))), (xpa2, .inl (cZ g, 40, .inl (fun _ => 0))), (xpa3, .inl (cI g, 40, .inl (fun _ => 0)))] H := hP
          have hD : va_D A [(x0, .inr (11, [.ref xr, .ref xt, .ref xg, .ref xb, .ref xp, .ref xu, .ref xm, .ref xd, .ref xw, .ref xh, .ref xa, .ref xs, .ref xf, .int 0, .int 0, .long 0, .long 0, .int 0])), (xb, .inr (1, [.ref xba0, .ref xba1, .ref xba2, .ref xba3, .ref xba4, .ref xba5, .ref xba6, .ref xba7, .ref xba8, .ref xba9, .ref xba10, .ref xba11, .int 0, .int 0])), (xp, .inr (5, [.ref xpa0, .ref xpa1, .ref xpa2, .ref xpa3, .int 0])), (xpa0, .inl (cI g, 40, .inl (fun _ => 0))), (xpa1, .inl (cI g, 40, .inl (fun _ => 0))), (xpa2, .inl (cZ g, 40, .inl (fun _ => 0))), (xpa3, .inl (cI g, 40, .inl (fun _ => 0)))] := hD
          refine lv_if_ne (tgt := 34) hx hb dX11_person_29 (by decide) (fun c_17 => absurd (by decide) c_17) (fun _ => ?_)
          refine lv_iconst (v := (-1)) hx hb dX11_person_32 (by decide) ?_
          exact rI X hK hP hD hS dX11_person_33 (by rfl) (Nat.le_of_ble_eq_true rfl) (Nat.le_of_ble_eq_true rfl) (by show _ = _; unfold sp_X11_person; rw [if_pos c_1, if_neg c_2, if_neg c_14, if_pos c_16]; try rfl)
        ·
          rw [if_neg c_16] at hw_13
          obtain ⟨e1, e2⟩ := Prod.mk.inj hw_13
          subst e1; subst e2
          have hP : va_P g.1 classes [(x0, .inr (11, [.ref xr, .ref xt, .ref xg, .ref xb, .ref xp, .ref xu, .ref xm, .ref xd, .ref xw, .ref xh, .ref xa, .ref xs, .ref xf, .int 0, .int 0, .long 0, .long 0, .int 0])), (xb, .inr (1, [.ref xba0, .ref xba1, .ref xba2, .ref xba3, .ref xba4, .ref xba5, .ref xba6, .ref xba7, .ref xba8, .ref xba9, .ref xba10, .ref xba11, .int 0, .int 0])), (xp, .inr (5, [.ref xpa0, .ref xpa1, .ref xpa2, .ref xpa3, .int 0])), (xpa0, .inl (cI g, 40, .inl (fun _ => 0))), (xpa1, .inl (cI g, 40, .inl (fun _ => 0))), (xpa2, .inl (cZ g, 40, .inl (fun _ => 0))), (xpa3, .inl (cI g, 40, .inl (fun _ => 0)))] H := hP
          have hD : va_D A [(x0, .inr (11, [.ref xr, .ref xt, .ref xg, .ref xb, .ref xp, .ref xu, .ref xm, .ref xd, .ref xw, .ref xh, .ref xa, .ref xs, .ref xf, .int 0, .int 0, .long 0, .long 0, .int 0])), (xb, .inr (1, [.ref xba0, .ref xba1, .ref xba2, .ref xba3, .ref xba4, .ref xba5, .ref xba6, .ref xba7, .ref xba8, .ref xba9, .ref xba10, .ref xba11, .int 0, .int 0])), (xp, .inr (5, [.ref xpa0, .ref xpa1, .ref xpa2, .ref xpa3, .int 0])), (xpa0, .inl (cI g, 40, .inl (fun _ => 0))), (xpa1, .inl (cI g, 40, .inl (fun _ => 0))), (xpa2, .inl (cZ g, 40, .inl (fun _ => 0))), (xpa3, .inl (cI g, 40, .inl (fun _ => 0)))] := hD
          refine lv_if_ne (tgt := 34) hx hb dX11_person_29 (by decide) (fun _ => ?_) (fun c_18 => absurd c_18 (by decide))
          refine lv_iload hx hb dX11_person_34 (lv_at hl 4 rfl) ?_
          refine lv_if_lt (tgt := 46) hx hb dX11_person_36 (by decide) (fun c_19 => ?_) (fun c_19 => ?_)
          ·
            refine lv_iconst (v := (-1)) hx hb dX11_person_46 (by decide) ?_
            exact rI X hK hP hD hS dX11_person_47 (by rfl) (Nat.le_of_ble_eq_true rfl) (Nat.le_of_ble_eq_true rfl) (by show _ = _; unfold sp_X11_person; rw [if_pos c_1, if_neg c_2, if_neg c_14, if_neg c_16, if_pos c_19]; try rfl)
          ·
            refine lv_iload hx hb dX11_person_39 (lv_at hl 4 rfl) ?_
            refine lv_bipush (v := 9) hx hb dX11_person_41 (by decide) ?_
            refine lv_icmp_le (tgt := 48) hx hb dX11_person_43 (by decide) (fun c_20 => ?_) (fun c_20 => ?_)
            ·
              refine lv_aload_n hx hb dX11_person_48 rfl (lv_at hl 0 rfl) ?_
              refine va_get (D := g.1) (ci := 11) (v := .ref xp) (C := RX11) (T := TX11) (N := 18) hx hb hts fw_X11 hown hK hP 0 rfl rfl 4 (by decide) (hts _ q_462) (fun _ h9 => h9) rfl dX11_person_49 ?_
              refine kVi (As := []) (rest := []) (wr := [(x0, .inr (11, [.ref xr, .ref xt, .ref xg, .ref xb, .ref xp, .ref xu, .ref xm, .ref xd, .ref xw, .ref xh, .ref xa, .ref xs, .ref xf, .int 0, .int 0, .long 0, .long 0, .int 0])), (xb, .inr (1, [.ref xba0, .ref xba1, .ref xba2, .ref xba3, .ref xba4, .ref xba5, .ref xba6, .ref xba7, .ref xba8, .ref xba9, .ref xba10, .ref xba11, .int 0, .int 0])), (xpa0, .inl (cI g, 40, .inl (fun _ => 0))), (xpa1, .inl (cI g, 40, .inl (fun _ => 0))), (xpa2, .inl (cZ g, 40, .inl (fun _ => 0))), (xpa3, .inl (cI g, 40, .inl (fun _ => 0)))]) X (c_X5_number l g xp xpa0 xpa1 xpa2 xpa3) ok_X5_number okv_X5_number q_703 rfl hK hP hD hS hA hZ hl.1 [2] [0, 1, 3, 4, 5, 6] rfl rfl rfl rfl rfl 0 5 rfl rfl rfl (Nat.le_of_ble_eq_true rfl) ⟨Nat.le_of_ble_eq_true rfl, Nat.le_of_ble_eq_true rfl⟩ dX11_person_52 ⟨Nat.le_of_ble_eq_true rfl, Nat.le_of_ble_eq_true rfl⟩ (fun r_21 w1 H locs hw_22 hP hD hS => ?_)
              rw [sp_X5_number] at hw_22
              obtain ⟨e1, e2⟩ := Prod.mk.inj hw_22
              subst e1; subst e2
              have hP : va_P g.1 classes [(x0, .inr (11, [.ref xr, .ref xt, .ref xg, .ref xb, .ref xp, .ref xu, .ref xm, .ref xd, .ref xw, .ref xh, .ref xa, .ref xs, .ref xf, .int 0, .int 0, .long 0, .long 0, .int 0])), (xb, .inr (1, [.ref xba0, .ref xba1, .ref xba2, .ref xba3, .ref xba4, .ref xba5, .ref xba6, .ref xba7, .ref xba8, .ref xba9, .ref xba10, .ref xba11, .int 0, .int 0])), (xpa0, .inl (cI g, 40, .inl (fun _ => 0))), (xpa1, .inl (cI g, 40, .inl (fun _ => 0))), (xpa2, .inl (cZ g, 40, .inl (fun _ => 0))), (xpa3, .inl (cI g, 40, .inl (fun _ => 0))), (xp, .inr (5, [.ref xpa0, .ref xpa1, .ref xpa2, .ref xpa3, .int 0]))] H := hP
              have hD : va_D A [(x0, .inr (11, [.ref xr, .ref xt, .ref xg, .ref xb, .ref xp, .ref xu, .ref xm, .ref xd, .ref xw, .ref xh, .ref xa, .ref xs, .ref xf, .int 0, .int 0, .long 0, .long 0, .int 0])), (xb, .inr (1, [.ref xba0, .ref xba1, .ref xba2, .ref xba3, .ref xba4, .ref xba5, .ref xba6, .ref xba7, .ref xba8, .ref xba9, .ref xba10, .ref xba11, .int 0, .int 0])), (xpa0, .inl (cI g, 40, .inl (fun _ => 0))), (xpa1, .inl (cI g, 40, .inl (fun _ => 0))), (xpa2, .inl (cZ g, 40, .inl (fun _ => 0))), (xpa3, .inl (cI g, 40, .inl (fun _ => 0))), (xp, .inr (5, [.ref xpa0, .ref xpa1, .ref xpa2, .ref xpa3, .int 0]))] := hD
              refine lv_bipush (v := 40) hx hb dX11_person_55 (by decide) ?_
              refine lv_icmp_lt (tgt := 63) hx hb dX11_person_57 (by decide) (fun _ => ?_) (fun c_23 => absurd (by decide) c_23)
              refine lv_iload_n hx hb dX11_person_63 rfl (lv_at hl 1 rfl) ?_
              refine lv_bipush (v := (-9)) hx hb dX11_person_64 (by decide) ?_
              refine lv_icmp_eq (tgt := 84) hx hb dX11_person_66 (by decide) (fun _ => ?_) (fun c_24 => (by simp only [i32lt, i32le, i32eq, Int32.reduceToInt] at c_1 c_24; omega : False).elim)
              refine lv_aload_n hx hb dX11_person_84 rfl (lv_at hl 0 rfl) ?_
              refine va_get (D := g.1) (ci := 11) (v := .ref xp) (C := RX11) (T := TX11) (N := 18) hx hb hts fw_X11 hown hK hP 0 rfl rfl 4 (by decide) (hts _ q_462) (fun _ h9 => h9) rfl dX11_person_85 ?_
              refine lv_iload_n hx hb dX11_person_88 rfl (lv_at hl 2 rfl) ?_
              refine lv_iload_n hx hb dX11_person_89 rfl (lv_at hl 3 rfl) ?_
              refine lv_iload hx hb dX11_person_90 (lv_at hl 4 rfl) ?_
              refine kVi (As := [.int w0, .int z0, .int k0]) (rest := []) (wr := [(x0, .inr (11, [.ref xr, .ref xt, .ref xg, .ref xb, .ref xp, .ref xu, .ref xm, .ref xd, .ref xw, .ref xh, .ref xa, .ref xs, .ref xf, .int 0, .int 0, .long 0, .long 0, .int 0])), (xb, .inr (1, [.ref xba0, .ref xba1, .ref xba2, .ref xba3, .ref xba4, .ref xba5, .ref xba6, .ref xba7, .ref xba8, .ref xba9, .ref xba10, .ref xba11, .int 0, .int 0]))]) X (c_X5_add l g xp w0 z0 k0 xpa0 xpa1 xpa2 xpa3) ok_X5_add okv_X5_add q_715 rfl hK hP hD hS hA hZ hl.1 [6, 2, 3, 4, 5] [0, 1] rfl rfl rfl rfl rfl 0 5 rfl rfl rfl (Nat.le_of_ble_eq_true rfl) ⟨Nat.le_of_ble_eq_true rfl, Nat.le_of_ble_eq_true rfl⟩ dX11_person_92 ⟨Nat.le_of_ble_eq_true rfl, Nat.le_of_ble_eq_true rfl⟩ (fun r_25 w1 H locs hw_26 hP hD hS => ?_)
              rw [sp_X5_add] at hw_26
              obtain ⟨e1, e2⟩ := Prod.mk.inj hw_26
              subst e1; subst e2
              have hP : va_P g.1 classes [(x0, .inr (11, [.ref xr, .ref xt, .ref xg, .ref xb, .ref xp, .ref xu, .ref xm, .ref xd, .ref xw, .ref xh, .ref xa, .ref xs, .ref xf, .int 0, .int 0, .long 0, .long 0, .int 0])), (xb, .inr (1, [.ref xba0, .ref xba1, .ref xba2, .ref xba3, .ref xba4, .ref xba5, .ref xba6, .ref xba7, .ref xba8, .ref xba9, .ref xba10, .ref xba11, .int 0, .int 0])), (xp, .inr (5, [.ref xpa0, .ref xpa1, .ref xpa2, .ref xpa3, .int 1])), (xpa0, .inl (cI g, 40, .inl (upd (fun _ => 0) 0 (-9)))), (xpa1, .inl (cI g, 40, .inl (upd (fun _ => 0) 0 w0))), (xpa2, .inl (cZ g, 40, .inl (upd (fun _ => 0) 0 (vp_nar .boolean z0)))), (xpa3, .inl (cI g, 40, .inl (upd (fun _ => 0) 0 k0)))] H := hP
              have hD : va_D A [(x0, .inr (11, [.ref xr, .ref xt, .ref xg, .ref xb, .ref xp, .ref xu, .ref xm, .ref xd, .ref xw, .ref xh, .ref xa, .ref xs, .ref xf, .int 0, .int 0, .long 0, .long 0, .int 0])), (xb, .inr (1, [.ref xba0, .ref xba1, .ref xba2, .ref xba3, .ref xba4, .ref xba5, .ref xba6, .ref xba7, .ref xba8, .ref xba9, .ref xba10, .ref xba11, .int 0, .int 0])), (xp, .inr (5, [.ref xpa0, .ref xpa1, .ref xpa2, .ref xpa3, .int 1])), (xpa0, .inl (cI g, 40, .inl (upd (fun _ => 0) 0 (-9)))), (xpa1, .inl (cI g, 40, .inl (upd (fun _ => 0) 0 w0))), (xpa2, .inl (cZ g, 40, .inl (upd (fun _ => 0) 0 (vp_nar .boolean z0)))), (xpa3, .inl (cI g, 40, .inl (upd (fun _ => 0) 0 k0)))] := hD
              refine lv_istore (lv' := [(5, .int 0), (0, .ref x0), (1, .int b0), (2, .int w0), (3, .int z0), (4, .int k0)]) hx hb dX11_person_95 hl (by decide) rfl (fun ls hl => ?_)
              refine lv_iload_n hx hb dX11_person_97 rfl (lv_at hl 2 rfl) ?_
              refine lv_bipush (v := (-9)) hx hb dX11_person_98 (by decide) ?_
              refine lv_icmp_eq (tgt := 110) hx hb dX11_person_100 (by decide) (fun _ => ?_) (fun c_27 => (by simp only [i32lt, i32le, i32eq, Int32.reduceToInt] at c_1 c_27; omega : False).elim)
              refine lv_iload hx hb dX11_person_110 (lv_at hl 0 rfl) ?_
              exact rI X hK hP hD hS dX11_person_112 (by rfl) (Nat.le_of_ble_eq_true rfl) (Nat.le_of_ble_eq_true rfl) (by show _ = _; unfold sp_X11_person; rw [if_pos c_1, if_neg c_2, if_neg c_14, if_neg c_16, if_neg c_19, if_pos c_20]; try rfl)
            ·
              refine lv_iconst (v := (-1)) hx hb dX11_person_46 (by decide) ?_
              exact rI X hK hP hD hS dX11_person_47 (by rfl) (Nat.le_of_ble_eq_true rfl) (Nat.le_of_ble_eq_true rfl) (by show _ = _; unfold sp_X11_person; rw [if_pos c_1, if_neg c_2, if_neg c_14, if_neg c_16, if_neg c_19, if_neg c_20]; try rfl)
  ·
    refine lv_aload_n hx hb dX11_person_6 rfl (lv_at hl 0 rfl) ?_
    refine va_get (D := g.1) (ci := 11) (v := .ref xb) (C := RX11) (T := TX11) (N := 18) hx hb hts fw_X11 hown hK hP 0 rfl rfl 3 (by decide) (hts _ q_461) (fun _ h9 => h9) rfl dX11_person_7 ?_
    refine lv_iload_n hx hb dX11_person_10 rfl (lv_at hl 1 rfl) ?_
    refine kVi (As := [.int b0]) (rest := []) (wr := [(x0, .inr (11, [.ref xr, .ref xt, .ref xg, .ref xb, .ref xp, .ref xu, .ref xm, .ref xd, .ref xw, .ref xh, .ref xa, .ref xs, .ref xf, .int 0, .int 0, .long 0, .long 0, .int 0])), (xp, .inr (5, [.ref xpa0, .ref xpa1, .ref xpa2, .ref xpa3, .int 0])), (xpa0, .inl (cI g, 40, .inl (fun _ => 0))), (xpa1, .inl (cI g, 40, .inl (fun _ => 0))), (xpa2, .inl (cZ g, 40, .inl (fun _ => 0))), (xpa3, .inl (cI g, 40, .inl (fun _ => 0)))]) X (c_X1_exists l g xb b0 xba0 xba1 xba2 xba3 xba4 xba5 xba6 xba7 xba8 xba9 xba10 xba11) ok_X1_exists okv_X1_exists q_667 rfl hK hP hD hS hA hZ hl.1 [1] [0, 2, 3, 4, 5, 6] rfl rfl rfl rfl rfl 0 1 rfl rfl rfl (Nat.le_of_ble_eq_true rfl) ⟨Nat.le_of_ble_eq_true rfl, Nat.le_of_ble_eq_true rfl⟩ dX11_person_11 ⟨Nat.le_of_ble_eq_true rfl, Nat.le_of_ble_eq_true rfl⟩ (fun r_28 w1 H locs hw_29 hP hD hS => ?_)
    rw [sp_X1_exists] at hw_29
    rcases Classical.em (b0 < 0) with c_30 | c_30
    ·
      rw [if_pos c_30] at hw_29
      obtain ⟨e1, e2⟩ := Prod.mk.inj hw_29
      subst e1; subst e2
      have hP : va_P g.1 classes [(x0, .inr (11, [.ref xr, .ref xt, .ref xg, .ref xb, .ref xp, .ref xu, .ref xm, .ref xd, .ref xw, .ref xh, .ref xa, .ref xs, .ref xf, .int 0, .int 0, .long 0, .long 0, .int 0])), (xp, .inr (5, [.ref xpa0, .ref xpa1, .ref xpa2, .ref xpa3, .int 0])), (xpa0, .inl (cI g, 40, .inl (fun _ => 0))), (xpa1, .inl (cI g, 40, .inl (fun _ => 0))), (xpa2, .inl (cZ g, 40, .inl (fun _ => 0))), (xpa3, .inl (cI g, 40, .inl (fun _ => 0))), (xb, .inr (1, [.ref xba0, .ref xba1, .ref xba2, .ref xba3, .ref xba4, .ref xba5, .ref xba6, .ref xba7, .ref xba8, .ref xba9, .ref xba10, .ref xba11, .int 0, .int 0]))] H := hP
      have hD : va_D A [(x0, .inr (11, [.ref xr, .ref xt, .ref xg, .ref xb, .ref xp, .ref xu, .ref xm, .ref xd, .ref xw, .ref xh, .ref xa, .ref xs, .ref xf, .int 0, .int 0, .long 0, .long 0, .int 0])), (xp, .inr (5, [.ref xpa0, .ref xpa1, .ref xpa2, .ref xpa3, .int 0])), (xpa0, .inl (cI g, 40, .inl (fun _ => 0))), (xpa1, .inl (cI g, 40, .inl (fun _ => 0))), (xpa2, .inl (cZ g, 40, .inl (fun _ => 0))), (xpa3, .inl (cI g, 40, .inl (fun _ => 0))), (xb, .inr (1, [.ref xba0, .ref xba1, .ref xba2, .ref xba3, .ref xba4, .ref xba5, .ref xba6, .ref xba7, .ref xba8, .ref xba9, .ref xba10, .ref xba11, .int 0, .int 0]))] := hD
      refine lv_if_ne (tgt := 19) hx hb dX11_person_14 (by decide) (fun c_31 => absurd (by decide) c_31) (fun _ => ?_)
      refine lv_iconst (v := (-1)) hx hb dX11_person_17 (by decide) ?_
      exact rI X hK hP hD hS dX11_person_18 (by rfl) (Nat.le_of_ble_eq_true rfl) (Nat.le_of_ble_eq_true rfl) (by show _ = _; unfold sp_X11_person; rw [if_neg c_1, if_pos c_30]; try rfl)
    ·
      rw [if_neg c_30] at hw_29
      obtain ⟨e1, e2⟩ := Prod.mk.inj hw_29
      subst e1; subst e2
      have hP : va_P g.1 classes [(x0, .inr (11, [.ref xr, .ref xt, .ref xg, .ref xb, .ref xp, .ref xu, .ref xm, .ref xd, .ref xw, .ref xh, .ref xa, .ref xs, .ref xf, .int 0, .int 0, .long 0, .long 0, .int 0])), (xp, .inr (5, [.ref xpa0, .ref xpa1, .ref xpa2, .ref xpa3, .int 0])), (xpa0, .inl (cI g, 40, .inl (fun _ => 0))), (xpa1, .inl (cI g, 40, .inl (fun _ => 0))), (xpa2, .inl (cZ g, 40, .inl (fun _ => 0))), (xpa3, .inl (cI g, 40, .inl (fun _ => 0))), (xb, .inr (1, [.ref xba0, .ref xba1, .ref xba2, .ref xba3, .ref xba4, .ref xba5, .ref xba6, .ref xba7, .ref xba8, .ref xba9, .ref xba10, .ref xba11, .int 0, .int 0]))] H := hP
      have hD : va_D A [(x0, .inr (11, [.ref xr, .ref xt, .ref xg, .ref xb, .ref xp, .ref xu, .ref xm, .ref xd, .ref xw, .ref xh, .ref xa, .ref xs, .ref xf, .int 0, .int 0, .long 0, .long 0, .int 0])), (xp, .inr (5, [.ref xpa0, .ref xpa1, .ref xpa2, .ref xpa3, .int 0])), (xpa0, .inl (cI g, 40, .inl (fun _ => 0))), (xpa1, .inl (cI g, 40, .inl (fun _ => 0))), (xpa2, .inl (cZ g, 40, .inl (fun _ => 0))), (xpa3, .inl (cI g, 40, .inl (fun _ => 0))), (xb, .inr (1, [.ref xba0, .ref xba1, .ref xba2, .ref xba3, .ref xba4, .ref xba5, .ref xba6, .ref xba7, .ref xba8, .ref xba9, .ref xba10, .ref xba11, .int 0, .int 0]))] := hD
      refine lv_if_ne (tgt := 19) hx hb dX11_person_14 (by decide) (fun c_32 => absurd (by decide) c_32) (fun _ => ?_)
      refine lv_iconst (v := (-1)) hx hb dX11_person_17 (by decide) ?_
      exact rI X hK hP hD hS dX11_person_18 (by rfl) (Nat.le_of_ble_eq_true rfl) (Nat.le_of_ble_eq_true rfl) (by show _ = _; unfold sp_X11_person; rw [if_neg c_1, if_neg c_30]; try rfl)
def sp_X11_mean (g : GG) (x0 : Nat) (u0 : Int32) (xr : Nat) (xt : Nat) (xg : Nat) (xb : Nat) (xp : Nat) (xu : Nat) (xm : Nat) (xd : Nat) (xw : Nat) (xh : Nat) (xa : Nat) (xs : Nat) (xf : Nat) (xba0 : Nat) (xba1 : Nat) (xba2 : Nat) (xba3 : Nat) (xba4 : Nat) (xba5 : Nat) (xba6 : Nat) (xba7 : Nat) (xba8 : Nat) (xba9 : Nat) (xba10 : Nat) (xba11 : Nat) : Int32 := if u0 < 0 then (-1) else (if 2 < u0 then (-1) else (-3))
set_option maxHeartbeats 4000000 in
set_option maxRecDepth 100000 in
theorem c_X11_mean (l : Launch) (g : GG) (x0 : Nat) (u0 : Int32) (xr : Nat) (xt : Nat) (xg : Nat) (xb : Nat) (xp : Nat) (xu : Nat) (xm : Nat) (xd : Nat) (xw : Nat) (xh : Nat) (xa : Nat) (xs : Nat) (xf : Nat) (xba0 : Nat) (xba1 : Nat) (xba2 : Nat) (xba3 : Nat) (xba4 : Nat) (xba5 : Nat) (xba6 : Nat) (xba7 : Nat) (xba8 : Nat) (xba9 : Nat) (xba10 : Nat) (xba11 : Nat) : MI l g yX11_mean cX11_mean 5 (some .int) 1 21 0 0 [(x0, .inr (11, [.ref xr, .ref xt, .ref xg, .ref xb, .ref xp, .ref xu, .ref xm, .ref xd, .ref xw, .ref xh, .ref xa, .ref xs, .ref xf, .int 0, .int 0, .long 0, .long 0, .int 0])), (xb, .inr (1, [.ref xba0, .ref xba1, .ref xba2, .ref xba3, .ref xba4, .ref xba5, .ref xba6, .ref xba7, .ref xba8, .ref xba9, .ref xba10, .ref xba11, .int 0, .int 0])), (xf, .inl (cI g, 6, .inl (fun _ => 0)))] [.ref x0, .int u0] (fun rr_ _ => rr_ = sp_X11_mean g x0 u0 xr xt xg xb xp xu xm xd xw xh xa xs xf xba0 xba1 xba2 xba3 xba4 xba5 xba6 xba7 xba8 xba9 xba10 xba11) := by
  refine met_of (fun A => va_Qi _ (bW g A) A) (by decide) (Nat.le_of_ble_eq_true rfl) ?_
  intro p e s m below meth c A ls X hK hP hD hA hZ hS hl
  have hx := X.1
  have hb := X.2.1
  have hml := X.2.2.1
  have hown := X.2.2.2.1
  have hts := X.2.2.2.2.1
  have hnm := X.2.2.2.2.2.2.2
  have hl : lv_has ls 5 [(0, .ref x0), (1, .int u0)] := hl
  refine lv_iload_n hx hb dX11_mean_0 rfl (lv_at hl 1 rfl) ?_
  refine kSi (As := [.int u0]) (rest := []) (wr := [(x0, .inr (11, [.ref xr, .ref xt, .ref xg, .ref xb, .ref xp, .ref xu, .ref xm, .ref xd, .ref xw, .ref xh, .ref xa, .ref xs, .ref xf, .int 0, .int 0, .long 0, .long 0, .int 0])), (xb, .inr (1, [.ref xba0, .ref xba1, .ref xba2, .ref xba3, .ref xba4, .ref xba5, .ref xba6, .ref xba7, .ref xba8, .ref xba9, .ref xba10, .ref xba11, .int 0, .int 0])), (xf, .inl (cI g, 6, .inl (fun _ => 0)))]) X (c_X1_isUse l g u0) ok_X1_isUse q_637 q_636 rfl hK hP hD hS hA hZ hl.1 [] [0, 1, 2] rfl rfl rfl rfl rfl rfl (Nat.le_of_ble_eq_true rfl) ⟨Nat.le_of_ble_eq_true rfl, Nat.le_of_ble_eq_true rfl⟩ dX11_mean_1 ⟨Nat.le_of_ble_eq_true rfl, Nat.le_of_ble_eq_true rfl⟩ (fun r_1 w1 H locs hw_2 hP hD hS => ?_)
  rw [sp_X1_isUse] at hw_2
  rcases Classical.em (u0 < 0) with c_3 | c_3
  ·
    rw [if_pos c_3] at hw_2
    obtain ⟨e1, e2⟩ := Prod.mk.inj hw_2
    subst e1; subst e2
    have hP : va_P g.1 classes [(x0, .inr (11, [.ref xr, .ref xt, .ref xg, .ref xb, .ref xp, .ref xu, .ref xm, .ref xd, .ref xw, .ref xh, .ref xa, .ref xs, .ref xf, .int 0, .int 0, .long 0, .long 0, .int 0])), (xb, .inr (1, [.ref xba0, .ref xba1, .ref xba2, .ref xba3, .ref xba4, .ref xba5, .ref xba6, .ref xba7, .ref xba8, .ref xba9, .ref xba10, .ref xba11, .int 0, .int 0])), (xf, .inl (cI g, 6, .inl (fun _ => 0)))] H := hP
    have hD : va_D A [(x0, .inr (11, [.ref xr, .ref xt, .ref xg, .ref xb, .ref xp, .ref xu, .ref xm, .ref xd, .ref xw, .ref xh, .ref xa, .ref xs, .ref xf, .int 0, .int 0, .long 0, .long 0, .int 0])), (xb, .inr (1, [.ref xba0, .ref xba1, .ref xba2, .ref xba3, .ref xba4, .ref xba5, .ref xba6, .ref xba7, .ref xba8, .ref xba9, .ref xba10, .ref xba11, .int 0, .int 0])), (xf, .inl (cI g, 6, .inl (fun _ => 0)))] := hD
    refine lv_if_ne (tgt := 9) hx hb dX11_mean_4 (by decide) (fun c_4 => absurd (by decide) c_4) (fun _ => ?_)
    refine lv_iconst (v := (-1)) hx hb dX11_mean_7 (by decide) ?_
    exact rI X hK hP hD hS dX11_mean_8 (by rfl) (Nat.le_of_ble_eq_true rfl) (Nat.le_of_ble_eq_true rfl) (by show _ = _; unfold sp_X11_mean; rw [if_pos c_3]; try rfl)
  ·
    rw [if_neg c_3] at hw_2
    rcases Classical.em (2 < u0) with c_5 | c_5
    ·
      rw [if_pos c_5] at hw_2
      obtain ⟨e1, e2⟩ := Prod.mk.inj hw_2
      subst e1; subst e2
      have hP : va_P g.1 classes [(x0, .inr (11, [.ref xr, .ref xt, .ref xg, .ref xb, .ref xp, .ref xu, .ref xm, .ref xd, .ref xw, .ref xh, .ref xa, .ref xs, .ref xf, .int 0, .int 0, .long 0, .long 0, .int 0])), (xb, .inr (1, [.ref xba0, .ref xba1, .ref xba2, .ref xba3, .ref xba4, .ref xba5, .ref xba6, .ref xba7, .ref xba8, .ref xba9, .ref xba10, .ref xba11, .int 0, .int 0])), (xf, .inl (cI g, 6, .inl (fun _ => 0)))] H := hP
      have hD : va_D A [(x0, .inr (11, [.ref xr, .ref xt, .ref xg, .ref xb, .ref xp, .ref xu, .ref xm, .ref xd, .ref xw, .ref xh, .ref xa, .ref xs, .ref xf, .int 0, .int 0, .long 0, .long 0, .int 0])), (xb, .inr (1, [.ref xba0, .ref xba1, .ref xba2, .ref xba3, .ref xba4, .ref xba5, .ref xba6, .ref xba7, .ref xba8, .ref xba9, .ref xba10, .ref xba11, .int 0, .int 0])), (xf, .inl (cI g, 6, .inl (fun _ => 0)))] := hD
      refine lv_if_ne (tgt := 9) hx hb dX11_mean_4 (by decide) (fun c_6 => absurd (by decide) c_6) (fun _ => ?_)
      refine lv_iconst (v := (-1)) hx hb dX11_mean_7 (by decide) ?_
      exact rI X hK hP hD hS dX11_mean_8 (by rfl) (Nat.le_of_ble_eq_true rfl) (Nat.le_of_ble_eq_true rfl) (by show _ = _; unfold sp_X11_mean; rw [if_neg c_3, if_pos c_5]; try rfl)
    ·
      rw [if_neg c_5] at hw_2
      obtain ⟨e1, e2⟩ := Prod.mk.inj hw_2
      subst e1; subst e2
      have hP : va_P g.1 classes [(x0, .inr (11, [.ref xr, .ref xt, .ref xg, .ref xb, .ref xp, .ref xu, .ref xm, .ref xd, .ref xw, .ref xh, .ref xa, .ref xs, .ref xf, .int 0, .int 0, .long 0, .long 0, .int 0])), (xb, .inr (1, [.ref xba0, .ref xba1, .ref xba2, .ref xba3, .ref xba4, .ref xba5, .ref xba6, .ref xba7, .ref xba8, .ref xba9, .ref xba10, .ref xba11, .int 0, .int 0])), (xf, .inl (cI g, 6, .inl (fun _ => 0)))] H := hP
      have hD : va_D A [(x0, .inr (11, [.ref xr, .ref xt, .ref xg, .ref xb, .ref xp, .ref xu, .ref xm, .ref xd, .ref xw, .ref xh, .ref xa, .ref xs, .ref xf, .int 0, .int 0, .long 0, .long 0, .int 0])), (xb, .inr (1, [.ref xba0, .ref xba1, .ref xba2, .ref xba3, .ref xba4, .ref xba5, .ref xba6, .ref xba7, .ref xba8, .ref xba9, .ref xba10, .ref xba11, .int 0, .int 0])), (xf, .inl (cI g, 6, .inl (fun _ => 0)))] := hD
      refine lv_if_ne (tgt := 9) hx hb dX11_mean_4 (by decide) (fun _ => ?_) (fun c_7 => absurd c_7 (by decide))
      refine lv_iconst (v := 0) hx hb dX11_mean_9 (by decide) ?_
      refine lv_istore_n (lv' := [(2, .int 0), (0, .ref x0), (1, .int u0)]) hx hb dX11_mean_10 rfl hl (by decide) rfl (fun ls hl => ?_)
      refine lv_iconst (v := 0) hx hb dX11_mean_11 (by decide) ?_
      refine lv_istore_n (lv' := [(3, .int 0), (2, .int 0), (0, .ref x0), (1, .int u0)]) hx hb dX11_mean_12 rfl hl (by decide) rfl (fun ls hl => ?_)
      refine lv_iconst (v := 0) hx hb dX11_mean_13 (by decide) ?_
      refine lv_istore (lv' := [(4, .int 0), (3, .int 0), (2, .int 0), (0, .ref x0), (1, .int u0)]) hx hb dX11_mean_14 hl (by decide) rfl (fun ls hl => ?_)
      refine lv_iload hx hb dX11_mean_16 (lv_at hl 0 rfl) ?_
      refine lv_aload_n hx hb dX11_mean_18 rfl (lv_at hl 3 rfl) ?_
      refine va_get (D := g.1) (ci := 11) (v := .ref xb) (C := RX11) (T := TX11) (N := 18) hx hb hts fw_X11 hown hK hP 0 rfl rfl 3 (by decide) (hts _ q_461) (fun _ h9 => h9) rfl dX11_mean_19 ?_
      refine kVi (As := []) (rest := [.int 0]) (wr := [(x0, .inr (11, [.ref xr, .ref xt, .ref xg, .ref xb, .ref xp, .ref xu, .ref xm, .ref xd, .ref xw, .ref xh, .ref xa, .ref xs, .ref xf, .int 0, .int 0, .long 0, .long 0, .int 0])), (xf, .inl (cI g, 6, .inl (fun _ => 0)))]) X (c_X1_number l g xb xba0 xba1 xba2 xba3 xba4 xba5 xba6 xba7 xba8 xba9 xba10 xba11) ok_X1_number okv_X1_number q_643 rfl hK hP hD hS hA hZ hl.1 [1] [0, 2] rfl rfl rfl rfl rfl 0 1 rfl rfl rfl (Nat.le_of_ble_eq_true rfl) ⟨Nat.le_of_ble_eq_true rfl, Nat.le_of_ble_eq_true rfl⟩ dX11_mean_22 ⟨Nat.le_of_ble_eq_true rfl, Nat.le_of_ble_eq_true rfl⟩ (fun r_8 w1 H locs hw_9 hP hD hS => ?_)
      rw [sp_X1_number] at hw_9
      obtain ⟨e1, e2⟩ := Prod.mk.inj hw_9
      subst e1; subst e2
      have hP : va_P g.1 classes [(x0, .inr (11, [.ref xr, .ref xt, .ref xg, .ref xb, .ref xp, .ref xu, .ref xm, .ref xd, .ref xw, .ref xh, .ref xa, .ref xs, .ref xf, .int 0, .int 0, .long 0, .long 0, .int 0])), (xf, .inl (cI g, 6, .inl (fun _ => 0))), (xb, .inr (1, [.ref xba0, .ref xba1, .ref xba2, .ref xba3, .ref xba4, .ref xba5, .ref xba6, .ref xba7, .ref xba8, .ref xba9, .ref xba10, .ref xba11, .int 0, .int 0]))] H := hP
      have hD : va_D A [(x0, .inr (11, [.ref xr, .ref xt, .ref xg, .ref xb, .ref xp, .ref xu, .ref xm, .ref xd, .ref xw, .ref xh, .ref xa, .ref xs, .ref xf, .int 0, .int 0, .long 0, .long 0, .int 0])), (xf, .inl (cI g, 6, .inl (fun _ => 0))), (xb, .inr (1, [.ref xba0, .ref xba1, .ref xba2, .ref xba3, .ref xba4, .ref xba5, .ref xba6, .ref xba7, .ref xba8, .ref xba9, .ref xba10, .ref xba11, .int 0, .int 0]))] := hD
      refine lv_icmp_ge (tgt := 65) hx hb dX11_mean_25 (by decide) (fun _ => ?_) (fun c_10 => absurd (by decide) c_10)
      refine lv_iload_n hx hb dX11_mean_65 rfl (lv_at hl 2 rfl) ?_
      refine lv_if_ne (tgt := 75) hx hb dX11_mean_66 (by decide) (fun c_11 => absurd (by decide) c_11) (fun _ => ?_)
      refine lv_aload_n hx hb dX11_mean_69 rfl (lv_at hl 3 rfl) ?_
      refine lv_iconst (v := 4) hx hb dX11_mean_70 (by decide) ?_
      refine kVi (As := [.int 4]) (rest := []) (wr := [(xb, .inr (1, [.ref xba0, .ref xba1, .ref xba2, .ref xba3, .ref xba4, .ref xba5, .ref xba6, .ref xba7, .ref xba8, .ref xba9, .ref xba10, .ref xba11, .int 0, .int 0]))]) X (c_X11_found4 l g x0 xr xt xg xb xp xu xm xd xw xh xa xs xf) ok_X11_found okv_X11_found q_521 rfl hK hP hD hS hA hZ hl.1 [0, 1] [2] rfl rfl rfl rfl rfl 0 11 rfl rfl rfl (Nat.le_of_ble_eq_true rfl) ⟨Nat.le_of_ble_eq_true rfl, Nat.le_of_ble_eq_true rfl⟩ dX11_mean_71 ⟨Nat.le_of_ble_eq_true rfl, Nat.le_of_ble_eq_true rfl⟩ (fun r_12 w1 H locs hw_13 hP hD hS => ?_)
      rw [sp_X11_found4] at hw_13
      obtain ⟨e1, e2⟩ := Prod.mk.inj hw_13
      subst e1; subst e2
      have hP : va_P g.1 classes [(xb, .inr (1, [.ref xba0, .ref xba1, .ref xba2, .ref xba3, .ref xba4, .ref xba5, .ref xba6, .ref xba7, .ref xba8, .ref xba9, .ref xba10, .ref xba11, .int 0, .int 0])), (x0, .inr (11, [.ref xr, .ref xt, .ref xg, .ref xb, .ref xp, .ref xu, .ref xm, .ref xd, .ref xw, .ref xh, .ref xa, .ref xs, .ref xf, .int 0, .int 0, .long 0, .long 0, .int 4])), (xf, .inl (cI g, 6, .inl (upd (fun _ => 0) 4 1)))] H := hP
      have hD : va_D A [(xb, .inr (1, [.ref xba0, .ref xba1, .ref xba2, .ref xba3, .ref xba4, .ref xba5, .ref xba6, .ref xba7, .ref xba8, .ref xba9, .ref xba10, .ref xba11, .int 0, .int 0])), (x0, .inr (11, [.ref xr, .ref xt, .ref xg, .ref xb, .ref xp, .ref xu, .ref xm, .ref xd, .ref xw, .ref xh, .ref xa, .ref xs, .ref xf, .int 0, .int 0, .long 0, .long 0, .int 4])), (xf, .inl (cI g, 6, .inl (upd (fun _ => 0) 4 1)))] := hD
      exact rI X hK hP hD hS dX11_mean_74 (by rfl) (Nat.le_of_ble_eq_true rfl) (Nat.le_of_ble_eq_true rfl) (by show _ = _; unfold sp_X11_mean; rw [if_neg c_3, if_neg c_5]; try rfl)
def sp_X11_rule (g : GG) (x0 : Nat) (r : Int32) (d0 : Int32) (xr : Nat) (xt : Nat) (xg : Nat) (xb : Nat) (xp : Nat) (xu : Nat) (xm : Nat) (xd : Nat) (xw : Nat) (xh : Nat) (xa : Nat) (xs : Nat) (xf : Nat) (xts : Nat) (xtp : Nat) (xua0 : Nat) (xua1 : Nat) (xua2 : Nat) : Int32 := if r < 0 then (-1) else (if 4 ≤ r then (-1) else (if d0 < 0 then (-1) else (if 999 < d0 then (-1) else (-3))))
set_option maxHeartbeats 4000000 in
set_option maxRecDepth 100000 in
theorem c_X11_rule (l : Launch) (g : GG) (x0 : Nat) (r : Int32) (d0 : Int32) (xr : Nat) (xt : Nat) (xg : Nat) (xb : Nat) (xp : Nat) (xu : Nat) (xm : Nat) (xd : Nat) (xw : Nat) (xh : Nat) (xa : Nat) (xs : Nat) (xf : Nat) (xts : Nat) (xtp : Nat) (xua0 : Nat) (xua1 : Nat) (xua2 : Nat) : MI l g yX11_rule cX11_rule 3 (some .int) 1 21 0 0 [(x0, .inr (11, [.ref xr, .ref xt, .ref xg, .ref xb, .ref xp, .ref xu, .ref xm, .ref xd, .ref xw, .ref xh, .ref xa, .ref xs, .ref xf, .int 0, .int 0, .long 0, .long 0, .int 0])), (xt, .inr (8, [.int 4, .int 32, .ref xts, .ref xtp])), (xts, .inl (cI g, 6, .inl (fun _ => (-1)))), (xu, .inr (7, [.ref xua0, .ref xua1, .ref xua2, .int 0])), (xf, .inl (cI g, 6, .inl (fun _ => 0)))] [.ref x0, .int r, .int d0] (fun rr_ _ => rr_ = sp_X11_rule g x0 r d0 xr xt xg xb xp xu xm xd xw xh xa xs xf xts xtp xua0 xua1 xua2) := by
  refine met_of (fun A => va_Qi _ (bW g A) A) (by decide) (Nat.le_of_ble_eq_true rfl) ?_
  intro p e s m below meth c A ls X hK hP hD hA hZ hS hl
  have hx := X.1
  have hb := X.2.1
  have hml := X.2.2.1
  have hown := X.2.2.2.1
  have hts := X.2.2.2.2.1
  have hnm := X.2.2.2.2.2.2.2
  have hl : lv_has ls 3 [(0, .ref x0), (1, .int r), (2, .int d0)] := hl
  refine lv_aload_n hx hb dX11_rule_0 rfl (lv_at hl 0 rfl) ?_
  refine va_get (D := g.1) (ci := 11) (v := .ref xt) (C := RX11) (T := TX11) (N := 18) hx hb hts fw_X11 hown hK hP 0 rfl rfl 1 (by decide) (hts _ q_459) (fun _ h9 => h9) rfl dX11_rule_1 ?_
  refine lv_iload_n hx hb dX11_rule_4 rfl (lv_at hl 1 rfl) ?_
  refine kVi (As := [.int r]) (rest := []) (wr := [(x0, .inr (11, [.ref xr, .ref xt, .ref xg, .ref xb, .ref xp, .ref xu, .ref xm, .ref xd, .ref xw, .ref xh, .ref xa, .ref xs, .ref xf, .int 0, .int 0, .long 0, .long 0, .int 0])), (xts, .inl (cI g, 6, .inl (fun _ => (-1)))), (xu, .inr (7, [.ref xua0, .ref xua1, .ref xua2, .int 0])), (xf, .inl (cI g, 6, .inl (fun _ => 0)))]) X (c_X8_exists l g xt r 4 32 xts xtp) ok_X8_exists okv_X8_exists q_517 rfl hK hP hD hS hA hZ hl.1 [1] [0, 2, 3, 4] rfl rfl rfl rfl rfl 0 8 rfl rfl rfl (Nat.le_of_ble_eq_true rfl) ⟨Nat.le_of_ble_eq_true rfl, Nat.le_of_ble_eq_true rfl⟩ dX11_rule_5 ⟨Nat.le_of_ble_eq_true rfl, Nat.le_of_ble_eq_true rfl⟩ (fun r_1 w1 H locs hw_2 hP hD hS => ?_)
  rw [sp_X8_exists] at hw_2
  rcases Classical.em (r < 0) with c_3 | c_3
  ·
    rw [if_pos c_3] at hw_2
    obtain ⟨e1, e2⟩ := Prod.mk.inj hw_2
    subst e1; subst e2
    have hP : va_P g.1 classes [(x0, .inr (11, [.ref xr, .ref xt, .ref xg, .ref xb, .ref xp, .ref xu, .ref xm, .ref xd, .ref xw, .ref xh, .ref xa, .ref xs, .ref xf, .int 0, .int 0, .long 0, .long 0, .int 0])), (xts, .inl (cI g, 6, .inl (fun _ => (-1)))), (xu, .inr (7, [.ref xua0, .ref xua1, .ref xua2, .int 0])), (xf, .inl (cI g, 6, .inl (fun _ => 0))), (xt, .inr (8, [.int 4, .int 32, .ref xts, .ref xtp]))] H := hP
    have hD : va_D A [(x0, .inr (11, [.ref xr, .ref xt, .ref xg, .ref xb, .ref xp, .ref xu, .ref xm, .ref xd, .ref xw, .ref xh, .ref xa, .ref xs, .ref xf, .int 0, .int 0, .long 0, .long 0, .int 0])), (xts, .inl (cI g, 6, .inl (fun _ => (-1)))), (xu, .inr (7, [.ref xua0, .ref xua1, .ref xua2, .int 0])), (xf, .inl (cI g, 6, .inl (fun _ => 0))), (xt, .inr (8, [.int 4, .int 32, .ref xts, .ref xtp]))] := hD
    refine lv_if_eq (tgt := 18) hx hb dX11_rule_8 (by decide) (fun _ => ?_) (fun c_4 => absurd (by decide) c_4)
    refine lv_iconst (v := (-1)) hx hb dX11_rule_18 (by decide) ?_
    exact rI X hK hP hD hS dX11_rule_19 (by rfl) (Nat.le_of_ble_eq_true rfl) (Nat.le_of_ble_eq_true rfl) (by show _ = _; unfold sp_X11_rule; rw [if_pos c_3]; try rfl)
  ·
    rw [if_neg c_3] at hw_2
    rcases Classical.em (4 ≤ r) with c_5 | c_5
    ·
      rw [if_pos c_5] at hw_2
      obtain ⟨e1, e2⟩ := Prod.mk.inj hw_2
      subst e1; subst e2
      have hP : va_P g.1 classes [(x0, .inr (11, [.ref xr, .ref xt, .ref xg, .ref xb, .ref xp, .ref xu, .ref xm, .ref xd, .ref xw, .ref xh, .ref xa, .ref xs, .ref xf, .int 0, .int 0, .long 0, .long 0, .int 0])), (xts, .inl (cI g, 6, .inl (fun _ => (-1)))), (xu, .inr (7, [.ref xua0, .ref xua1, .ref xua2, .int 0])), (xf, .inl (cI g, 6, .inl (fun _ => 0))), (xt, .inr (8, [.int 4, .int 32, .ref xts, .ref xtp]))] H := hP
      have hD : va_D A [(x0, .inr (11, [.ref xr, .ref xt, .ref xg, .ref xb, .ref xp, .ref xu, .ref xm, .ref xd, .ref xw, .ref xh, .ref xa, .ref xs, .ref xf, .int 0, .int 0, .long 0, .long 0, .int 0])), (xts, .inl (cI g, 6, .inl (fun _ => (-1)))), (xu, .inr (7, [.ref xua0, .ref xua1, .ref xua2, .int 0])), (xf, .inl (cI g, 6, .inl (fun _ => 0))), (xt, .inr (8, [.int 4, .int 32, .ref xts, .ref xtp]))] := hD
      refine lv_if_eq (tgt := 18) hx hb dX11_rule_8 (by decide) (fun _ => ?_) (fun c_6 => absurd (by decide) c_6)
      refine lv_iconst (v := (-1)) hx hb dX11_rule_18 (by decide) ?_
      exact rI X hK hP hD hS dX11_rule_19 (by rfl) (Nat.le_of_ble_eq_true rfl) (Nat.le_of_ble_eq_true rfl) (by show _ = _; unfold sp_X11_rule; rw [if_neg c_3, if_pos c_5]; try rfl)
    ·
      rw [if_neg c_5] at hw_2
      obtain ⟨e1, e2⟩ := Prod.mk.inj hw_2
      subst e1; subst e2
      have hP : va_P g.1 classes [(x0, .inr (11, [.ref xr, .ref xt, .ref xg, .ref xb, .ref xp, .ref xu, .ref xm, .ref xd, .ref xw, .ref xh, .ref xa, .ref xs, .ref xf, .int 0, .int 0, .long 0, .long 0, .int 0])), (xts, .inl (cI g, 6, .inl (fun _ => (-1)))), (xu, .inr (7, [.ref xua0, .ref xua1, .ref xua2, .int 0])), (xf, .inl (cI g, 6, .inl (fun _ => 0))), (xt, .inr (8, [.int 4, .int 32, .ref xts, .ref xtp]))] H := hP
      have hD : va_D A [(x0, .inr (11, [.ref xr, .ref xt, .ref xg, .ref xb, .ref xp, .ref xu, .ref xm, .ref xd, .ref xw, .ref xh, .ref xa, .ref xs, .ref xf, .int 0, .int 0, .long 0, .long 0, .int 0])), (xts, .inl (cI g, 6, .inl (fun _ => (-1)))), (xu, .inr (7, [.ref xua0, .ref xua1, .ref xua2, .int 0])), (xf, .inl (cI g, 6, .inl (fun _ => 0))), (xt, .inr (8, [.int 4, .int 32, .ref xts, .ref xtp]))] := hD
      refine lv_if_eq (tgt := 18) hx hb dX11_rule_8 (by decide) (fun c_7 => absurd c_7 (by decide)) (fun _ => ?_)
      refine lv_iload_n hx hb dX11_rule_11 rfl (lv_at hl 2 rfl) ?_
      refine kSi (As := [.int d0]) (rest := []) (wr := [(x0, .inr (11, [.ref xr, .ref xt, .ref xg, .ref xb, .ref xp, .ref xu, .ref xm, .ref xd, .ref xw, .ref xh, .ref xa, .ref xs, .ref xf, .int 0, .int 0, .long 0, .long 0, .int 0])), (xts, .inl (cI g, 6, .inl (fun _ => (-1)))), (xu, .inr (7, [.ref xua0, .ref xua1, .ref xua2, .int 0])), (xf, .inl (cI g, 6, .inl (fun _ => 0))), (xt, .inr (8, [.int 4, .int 32, .ref xts, .ref xtp]))]) X (c_X11_isDay l g d0) ok_X11_isDay q_685 q_684 rfl hK hP hD hS hA hZ hl.1 [] [0, 1, 2, 3, 4] rfl rfl rfl rfl rfl rfl (Nat.le_of_ble_eq_true rfl) ⟨Nat.le_of_ble_eq_true rfl, Nat.le_of_ble_eq_true rfl⟩ dX11_rule_12 ⟨Nat.le_of_ble_eq_true rfl, Nat.le_of_ble_eq_true rfl⟩ (fun r_8 w1 H locs hw_9 hP hD hS => ?_)
      rw [sp_X11_isDay] at hw_9
      rcases Classical.em (d0 < 0) with c_10 | c_10
      ·
        rw [if_pos c_10] at hw_9
        obtain ⟨e1, e2⟩ := Prod.mk.inj hw_9
        subst e1; subst e2
        have hP : va_P g.1 classes [(x0, .inr (11, [.ref xr, .ref xt, .ref xg, .ref xb, .ref xp, .ref xu, .ref xm, .ref xd, .ref xw, .ref xh, .ref xa, .ref xs, .ref xf, .int 0, .int 0, .long 0, .long 0, .int 0])), (xts, .inl (cI g, 6, .inl (fun _ => (-1)))), (xu, .inr (7, [.ref xua0, .ref xua1, .ref xua2, .int 0])), (xf, .inl (cI g, 6, .inl (fun _ => 0))), (xt, .inr (8, [.int 4, .int 32, .ref xts, .ref xtp]))] H := hP
        have hD : va_D A [(x0, .inr (11, [.ref xr, .ref xt, .ref xg, .ref xb, .ref xp, .ref xu, .ref xm, .ref xd, .ref xw, .ref xh, .ref xa, .ref xs, .ref xf, .int 0, .int 0, .long 0, .long 0, .int 0])), (xts, .inl (cI g, 6, .inl (fun _ => (-1)))), (xu, .inr (7, [.ref xua0, .ref xua1, .ref xua2, .int 0])), (xf, .inl (cI g, 6, .inl (fun _ => 0))), (xt, .inr (8, [.int 4, .int 32, .ref xts, .ref xtp]))] := hD
        refine lv_if_ne (tgt := 20) hx hb dX11_rule_15 (by decide) (fun c_11 => absurd (by decide) c_11) (fun _ => ?_)
        refine lv_iconst (v := (-1)) hx hb dX11_rule_18 (by decide) ?_
        exact rI X hK hP hD hS dX11_rule_19 (by rfl) (Nat.le_of_ble_eq_true rfl) (Nat.le_of_ble_eq_true rfl) (by show _ = _; unfold sp_X11_rule; rw [if_neg c_3, if_neg c_5, if_pos c_10]; try rfl)
      ·
        rw [if_neg c_10] at hw_9
        rcases Classical.em (999 < d0) with c_12 | c_12
        ·
          rw [if_pos c_12] at hw_9
          obtain ⟨e1, e2⟩ := Prod.mk.inj hw_9
          subst e1; subst e2
          have hP : va_P g.1 classes [(x0, .inr (11, [.ref xr, .ref xt, .ref xg, .ref xb, .ref xp, .ref xu, .ref xm, .ref xd, .ref xw, .ref xh, .ref xa, .ref xs, .ref xf, .int 0, .int 0, .long 0, .long 0, .int 0])), (xts, .inl (cI g, 6, .inl (fun _ => (-1)))), (xu, .inr (7, [.ref xua0, .ref xua1, .ref xua2, .int 0])), (xf, .inl (cI g, 6, .inl (fun _ => 0))), (xt, .inr (8, [.int 4, .int 32, .ref xts, .ref xtp]))] H := hP
          have hD : va_D A [(x0, .inr (11, [.ref xr, .ref xt, .ref xg, .ref xb, .ref xp, .ref xu, .ref xm, .ref xd, .ref xw, .ref xh, .ref xa, .ref xs, .ref xf, .int 0, .int 0, .long 0, .long 0, .int 0])), (xts, .inl (cI g, 6, .inl (fun _ => (-1)))), (xu, .inr (7, [.ref xua0, .ref xua1, .ref xua2, .int 0])), (xf, .inl (cI g, 6, .inl (fun _ => 0))), (xt, .inr (8, [.int 4, .int 32, .ref xts, .ref xtp]))] := hD
          refine lv_if_ne (tgt := 20) hx hb dX11_rule_15 (by decide) (fun c_13 => absurd (by decide) c_13) (fun _ => ?_)
          refine lv_iconst (v := (-1)) hx hb dX11_rule_18 (by decide) ?_
          exact rI X hK hP hD hS dX11_rule_19 (by rfl) (Nat.le_of_ble_eq_true rfl) (Nat.le_of_ble_eq_true rfl) (by show _ = _; unfold sp_X11_rule; rw [if_neg c_3, if_neg c_5, if_neg c_10, if_pos c_12]; try rfl)
        ·
          rw [if_neg c_12] at hw_9
          obtain ⟨e1, e2⟩ := Prod.mk.inj hw_9
          subst e1; subst e2
          have hP : va_P g.1 classes [(x0, .inr (11, [.ref xr, .ref xt, .ref xg, .ref xb, .ref xp, .ref xu, .ref xm, .ref xd, .ref xw, .ref xh, .ref xa, .ref xs, .ref xf, .int 0, .int 0, .long 0, .long 0, .int 0])), (xts, .inl (cI g, 6, .inl (fun _ => (-1)))), (xu, .inr (7, [.ref xua0, .ref xua1, .ref xua2, .int 0])), (xf, .inl (cI g, 6, .inl (fun _ => 0))), (xt, .inr (8, [.int 4, .int 32, .ref xts, .ref xtp]))] H := hP
          have hD : va_D A [(x0, .inr (11, [.ref xr, .ref xt, .ref xg, .ref xb, .ref xp, .ref xu, .ref xm, .ref xd, .ref xw, .ref xh, .ref xa, .ref xs, .ref xf, .int 0, .int 0, .long 0, .long 0, .int 0])), (xts, .inl (cI g, 6, .inl (fun _ => (-1)))), (xu, .inr (7, [.ref xua0, .ref xua1, .ref xua2, .int 0])), (xf, .inl (cI g, 6, .inl (fun _ => 0))), (xt, .inr (8, [.int 4, .int 32, .ref xts, .ref xtp]))] := hD
          refine lv_if_ne (tgt := 20) hx hb dX11_rule_15 (by decide) (fun _ => ?_) (fun c_14 => absurd c_14 (by decide))
          refine lv_aload_n hx hb dX11_rule_20 rfl (lv_at hl 0 rfl) ?_
          refine va_get (D := g.1) (ci := 11) (v := .ref xu) (C := RX11) (T := TX11) (N := 18) hx hb hts fw_X11 hown hK hP 0 rfl rfl 5 (by decide) (hts _ q_463) (fun _ h9 => h9) rfl dX11_rule_21 ?_
          refine kVi (As := []) (rest := []) (wr := [(x0, .inr (11, [.ref xr, .ref xt, .ref xg, .ref xb, .ref xp, .ref xu, .ref xm, .ref xd, .ref xw, .ref xh, .ref xa, .ref xs, .ref xf, .int 0, .int 0, .long 0, .long 0, .int 0])), (xts, .inl (cI g, 6, .inl (fun _ => (-1)))), (xf, .inl (cI g, 6, .inl (fun _ => 0))), (xt, .inr (8, [.int 4, .int 32, .ref xts, .ref xtp]))]) X (c_X7_number l g xu xua0 xua1 xua2) ok_X7_number okv_X7_number q_752 rfl hK hP hD hS hA hZ hl.1 [2] [0, 1, 3, 4] rfl rfl rfl rfl rfl 0 7 rfl rfl rfl (Nat.le_of_ble_eq_true rfl) ⟨Nat.le_of_ble_eq_true rfl, Nat.le_of_ble_eq_true rfl⟩ dX11_rule_24 ⟨Nat.le_of_ble_eq_true rfl, Nat.le_of_ble_eq_true rfl⟩ (fun r_15 w1 H locs hw_16 hP hD hS => ?_)
          rw [sp_X7_number] at hw_16
          obtain ⟨e1, e2⟩ := Prod.mk.inj hw_16
          subst e1; subst e2
          have hP : va_P g.1 classes [(x0, .inr (11, [.ref xr, .ref xt, .ref xg, .ref xb, .ref xp, .ref xu, .ref xm, .ref xd, .ref xw, .ref xh, .ref xa, .ref xs, .ref xf, .int 0, .int 0, .long 0, .long 0, .int 0])), (xts, .inl (cI g, 6, .inl (fun _ => (-1)))), (xf, .inl (cI g, 6, .inl (fun _ => 0))), (xt, .inr (8, [.int 4, .int 32, .ref xts, .ref xtp])), (xu, .inr (7, [.ref xua0, .ref xua1, .ref xua2, .int 0]))] H := hP
          have hD : va_D A [(x0, .inr (11, [.ref xr, .ref xt, .ref xg, .ref xb, .ref xp, .ref xu, .ref xm, .ref xd, .ref xw, .ref xh, .ref xa, .ref xs, .ref xf, .int 0, .int 0, .long 0, .long 0, .int 0])), (xts, .inl (cI g, 6, .inl (fun _ => (-1)))), (xf, .inl (cI g, 6, .inl (fun _ => 0))), (xt, .inr (8, [.int 4, .int 32, .ref xts, .ref xtp])), (xu, .inr (7, [.ref xua0, .ref xua1, .ref xua2, .int 0]))] := hD
          refine lv_bipush (v := 16) hx hb dX11_rule_27 (by decide) ?_
          refine lv_icmp_lt (tgt := 35) hx hb dX11_rule_29 (by decide) (fun _ => ?_) (fun c_17 => absurd (by decide) c_17)
          refine lv_aload_n hx hb dX11_rule_35 rfl (lv_at hl 0 rfl) ?_
          refine va_get (D := g.1) (ci := 11) (v := .ref xt) (C := RX11) (T := TX11) (N := 18) hx hb hts fw_X11 hown hK hP 0 rfl rfl 1 (by decide) (hts _ q_459) (fun _ h9 => h9) rfl dX11_rule_36 ?_
          refine lv_iload_n hx hb dX11_rule_39 rfl (lv_at hl 1 rfl) ?_
          refine kVi (As := [.int r]) (rest := []) (wr := [(x0, .inr (11, [.ref xr, .ref xt, .ref xg, .ref xb, .ref xp, .ref xu, .ref xm, .ref xd, .ref xw, .ref xh, .ref xa, .ref xs, .ref xf, .int 0, .int 0, .long 0, .long 0, .int 0])), (xf, .inl (cI g, 6, .inl (fun _ => 0))), (xu, .inr (7, [.ref xua0, .ref xua1, .ref xua2, .int 0]))]) X (c_X8_isThere l g xt r 4 32 xts xtp c_3 (by simp only [i32lt, i32le, i32eq, Int32.reduceToInt] at c_3 c_5 ⊢; omega)) ok_X8_isThere okv_X8_isThere q_539 rfl hK hP hD hS hA hZ hl.1 [3, 1] [0, 2, 4] rfl rfl rfl rfl rfl 0 8 rfl rfl rfl (Nat.le_of_ble_eq_true rfl) ⟨Nat.le_of_ble_eq_true rfl, Nat.le_of_ble_eq_true rfl⟩ dX11_rule_40 ⟨Nat.le_of_ble_eq_true rfl, Nat.le_of_ble_eq_true rfl⟩ (fun r_18 w1 H locs hw_19 hP hD hS => ?_)
          rw [sp_X8_isThere] at hw_19
          obtain ⟨e1, e2⟩ := Prod.mk.inj hw_19
          subst e1; subst e2
          have hP : va_P g.1 classes [(x0, .inr (11, [.ref xr, .ref xt, .ref xg, .ref xb, .ref xp, .ref xu, .ref xm, .ref xd, .ref xw, .ref xh, .ref xa, .ref xs, .ref xf, .int 0, .int 0, .long 0, .long 0, .int 0])), (xf, .inl (cI g, 6, .inl (fun _ => 0))), (xu, .inr (7, [.ref xua0, .ref xua1, .ref xua2, .int 0])), (xt, .inr (8, [.int 4, .int 32, .ref xts, .ref xtp])), (xts, .inl (cI g, 6, .inl (fun _ => (-1))))] H := hP
          have hD : va_D A [(x0, .inr (11, [.ref xr, .ref xt, .ref xg, .ref xb, .ref xp, .ref xu, .ref xm, .ref xd, .ref xw, .ref xh, .ref xa, .ref xs, .ref xf, .int 0, .int 0, .long 0, .long 0, .int 0])), (xf, .inl (cI g, 6, .inl (fun _ => 0))), (xu, .inr (7, [.ref xua0, .ref xua1, .ref xua2, .int 0])), (xt, .inr (8, [.int 4, .int 32, .ref xts, .ref xtp])), (xts, .inl (cI g, 6, .inl (fun _ => (-1))))] := hD
          refine lv_if_ne (tgt := 52) hx hb dX11_rule_43 (by decide) (fun c_20 => absurd (by decide) c_20) (fun _ => ?_)
          refine lv_aload_n hx hb dX11_rule_46 rfl (lv_at hl 0 rfl) ?_
          refine lv_iconst (v := 1) hx hb dX11_rule_47 (by decide) ?_
          refine kVi (As := [.int 1]) (rest := []) (wr := [(xu, .inr (7, [.ref xua0, .ref xua1, .ref xua2, .int 0])), (xt, .inr (8, [.int 4, .int 32, .ref xts, .ref xtp])), (xts, .inl (cI g, 6, .inl (fun _ => (-1))))]) X (c_X11_found1 l g x0 xr xt xg xb xp xu xm xd xw xh xa xs xf) ok_X11_found okv_X11_found q_521 rfl hK hP hD hS hA hZ hl.1 [0, 1] [2, 3, 4] rfl rfl rfl rfl rfl 0 11 rfl rfl rfl (Nat.le_of_ble_eq_true rfl) ⟨Nat.le_of_ble_eq_true rfl, Nat.le_of_ble_eq_true rfl⟩ dX11_rule_48 ⟨Nat.le_of_ble_eq_true rfl, Nat.le_of_ble_eq_true rfl⟩ (fun r_21 w1 H locs hw_22 hP hD hS => ?_)
          rw [sp_X11_found1] at hw_22
          obtain ⟨e1, e2⟩ := Prod.mk.inj hw_22
          subst e1; subst e2
          have hP : va_P g.1 classes [(xu, .inr (7, [.ref xua0, .ref xua1, .ref xua2, .int 0])), (xt, .inr (8, [.int 4, .int 32, .ref xts, .ref xtp])), (xts, .inl (cI g, 6, .inl (fun _ => (-1)))), (x0, .inr (11, [.ref xr, .ref xt, .ref xg, .ref xb, .ref xp, .ref xu, .ref xm, .ref xd, .ref xw, .ref xh, .ref xa, .ref xs, .ref xf, .int 0, .int 0, .long 0, .long 0, .int 1])), (xf, .inl (cI g, 6, .inl (upd (fun _ => 0) 1 1)))] H := hP
          have hD : va_D A [(xu, .inr (7, [.ref xua0, .ref xua1, .ref xua2, .int 0])), (xt, .inr (8, [.int 4, .int 32, .ref xts, .ref xtp])), (xts, .inl (cI g, 6, .inl (fun _ => (-1)))), (x0, .inr (11, [.ref xr, .ref xt, .ref xg, .ref xb, .ref xp, .ref xu, .ref xm, .ref xd, .ref xw, .ref xh, .ref xa, .ref xs, .ref xf, .int 0, .int 0, .long 0, .long 0, .int 1])), (xf, .inl (cI g, 6, .inl (upd (fun _ => 0) 1 1)))] := hD
          exact rI X hK hP hD hS dX11_rule_51 (by rfl) (Nat.le_of_ble_eq_true rfl) (Nat.le_of_ble_eq_true rfl) (by show _ = _; unfold sp_X11_rule; rw [if_neg c_3, if_neg c_5, if_neg c_10, if_neg c_12]; try rfl)
def sp_X11_why (g : GG) (x0 : Nat) (l0 : Int32) (d0 : Int32) (k0 : Int32) (xr : Nat) (xt : Nat) (xg : Nat) (xb : Nat) (xp : Nat) (xu : Nat) (xm : Nat) (xd : Nat) (xw : Nat) (xh : Nat) (xa : Nat) (xs : Nat) (xf : Nat) (xua0 : Nat) (xua1 : Nat) (xua2 : Nat) : Int32 := if l0 < 0 then (-1) else (if 8 ≤ l0 then (-1) else (if d0 < 0 then (-1) else (if 999 < d0 then (-1) else (if k0 < 0 then (-1) else (if 999 < k0 then (-1) else (-9))))))
set_option maxHeartbeats 4000000 in
set_option maxRecDepth 100000 in
theorem c_X11_why (l : Launch) (g : GG) (x0 : Nat) (l0 : Int32) (d0 : Int32) (k0 : Int32) (xr : Nat) (xt : Nat) (xg : Nat) (xb : Nat) (xp : Nat) (xu : Nat) (xm : Nat) (xd : Nat) (xw : Nat) (xh : Nat) (xa : Nat) (xs : Nat) (xf : Nat) (xua0 : Nat) (xua1 : Nat) (xua2 : Nat) : MI l g yX11_why cX11_why 4 (some .int) 1 25 0 0 [(x0, .inr (11, [.ref xr, .ref xt, .ref xg, .ref xb, .ref xp, .ref xu, .ref xm, .ref xd, .ref xw, .ref xh, .ref xa, .ref xs, .ref xf, .int 0, .int 0, .long 0, .long 0, .int 0])), (xu, .inr (7, [.ref xua0, .ref xua1, .ref xua2, .int 0]))] [.ref x0, .int l0, .int d0, .int k0] (fun rr_ _ => rr_ = sp_X11_why g x0 l0 d0 k0 xr xt xg xb xp xu xm xd xw xh xa xs xf xua0 xua1 xua2) := by
  refine met_of (fun A => va_Qi _ (bW g A) A) (by decide) (Nat.le_of_ble_eq_true rfl) ?_
  intro p e s m below meth c A ls X hK hP hD hA hZ hS hl
  have hx := X.1
  have hb := X.2.1
  have hml := X.2.2.1
  have hown := X.2.2.2.1
  have hts := X.2.2.2.2.1
  have hnm := X.2.2.2.2.2.2.2
  have hl : lv_has ls 4 [(0, .ref x0), (1, .int l0), (2, .int d0), (3, .int k0)] := hl
  refine lv_iload_n hx hb dX11_why_0 rfl (lv_at hl 1 rfl) ?_
  refine kSi (As := [.int l0]) (rest := []) (wr := [(x0, .inr (11, [.ref xr, .ref xt, .ref xg, .ref xb, .ref xp, .ref xu, .ref xm, .ref xd, .ref xw, .ref xh, .ref xa, .ref xs, .ref xf, .int 0, .int 0, .long 0, .long 0, .int 0])), (xu, .inr (7, [.ref xua0, .ref xua1, .ref xua2, .int 0]))]) X (c_X7_isLetter l g l0) ok_X7_isLetter q_769 q_768 rfl hK hP hD hS hA hZ hl.1 [] [0, 1] rfl rfl rfl rfl rfl rfl (Nat.le_of_ble_eq_true rfl) ⟨Nat.le_of_ble_eq_true rfl, Nat.le_of_ble_eq_true rfl⟩ dX11_why_1 ⟨Nat.le_of_ble_eq_true rfl, Nat.le_of_ble_eq_true rfl⟩ (fun r_1 w1 H locs hw_2 hP hD hS => ?_)
  rw [sp_X7_isLetter] at hw_2
  rcases Classical.em (l0 < 0) with c_3 | c_3
  ·
    rw [if_pos c_3] at hw_2
    obtain ⟨e1, e2⟩ := Prod.mk.inj hw_2
    subst e1; subst e2
    have hP : va_P g.1 classes [(x0, .inr (11, [.ref xr, .ref xt, .ref xg, .ref xb, .ref xp, .ref xu, .ref xm, .ref xd, .ref xw, .ref xh, .ref xa, .ref xs, .ref xf, .int 0, .int 0, .long 0, .long 0, .int 0])), (xu, .inr (7, [.ref xua0, .ref xua1, .ref xua2, .int 0]))] H := hP
    have hD : va_D A [(x0, .inr (11, [.ref xr, .ref xt, .ref xg, .ref xb, .ref xp, .ref xu, .ref xm, .ref xd, .ref xw, .ref xh, .ref xa, .ref xs, .ref xf, .int 0, .int 0, .long 0, .long 0, .int 0])), (xu, .inr (7, [.ref xua0, .ref xua1, .ref xua2, .int 0]))] := hD
    refine lv_if_eq (tgt := 21) hx hb dX11_why_4 (by decide) (fun _ => ?_) (fun c_4 => absurd (by decide) c_4)
    refine lv_iconst (v := (-1)) hx hb dX11_why_21 (by decide) ?_
    exact rI X hK hP hD hS dX11_why_22 (by rfl) (Nat.le_of_ble_eq_true rfl) (Nat.le_of_ble_eq_true rfl) (by show _ = _; unfold sp_X11_why; rw [if_pos c_3]; try rfl)
  ·
    rw [if_neg c_3] at hw_2
    rcases Classical.em (8 ≤ l0) with c_5 | c_5
    ·
      rw [if_pos c_5] at hw_2
      obtain ⟨e1, e2⟩ := Prod.mk.inj hw_2
      subst e1; subst e2
      have hP : va_P g.1 classes [(x0, .inr (11, [.ref xr, .ref xt, .ref xg, .ref xb, .ref xp, .ref xu, .ref xm, .ref xd, .ref xw, .ref xh, .ref xa, .ref xs, .ref xf, .int 0, .int 0, .long 0, .long 0, .int 0])), (xu, .inr (7, [.ref xua0, .ref xua1, .ref xua2, .int 0]))] H := hP
      have hD : va_D A [(x0, .inr (11, [.ref xr, .ref xt, .ref xg, .ref xb, .ref xp, .ref xu, .ref xm, .ref xd, .ref xw, .ref xh, .ref xa, .ref xs, .ref xf, .int 0, .int 0, .long 0, .long 0, .int 0])), (xu, .inr (7, [.ref xua0, .ref xua1, .ref xua2, .int 0]))] := hD
      refine lv_if_eq (tgt := 21) hx hb dX11_why_4 (by decide) (fun _ => ?_) (fun c_6 => absurd (by decide) c_6)
      refine lv_iconst (v := (-1)) hx hb dX11_why_21 (by decide) ?_
      exact rI X hK hP hD hS dX11_why_22 (by rfl) (Nat.le_of_ble_eq_true rfl) (Nat.le_of_ble_eq_true rfl) (by show _ = _; unfold sp_X11_why; rw [if_neg c_3, if_pos c_5]; try rfl)
    ·
      rw [if_neg c_5] at hw_2
      obtain ⟨e1, e2⟩ := Prod.mk.inj hw_2
      subst e1; subst e2
      have hP : va_P g.1 classes [(x0, .inr (11, [.ref xr, .ref xt, .ref xg, .ref xb, .ref xp, .ref xu, .ref xm, .ref xd, .ref xw, .ref xh, .ref xa, .ref xs, .ref xf, .int 0, .int 0, .long 0, .long 0, .int 0])), (xu, .inr (7, [.ref xua0, .ref xua1, .ref xua2, .int 0]))] H := hP
      have hD : va_D A [(x0, .inr (11, [.ref xr, .ref xt, .ref xg, .ref xb, .ref xp, .ref xu, .ref xm, .ref xd, .ref xw, .ref xh, .ref xa, .ref xs, .ref xf, .int 0, .int 0, .long 0, .long 0, .int 0])), (xu, .inr (7, [.ref xua0, .ref xua1, .ref xua2, .int 0]))] := hD
      refine lv_if_eq (tgt := 21) hx hb dX11_why_4 (by decide) (fun c_7 => absurd c_7 (by decide)) (fun _ => ?_)
      refine lv_iload_n hx hb dX11_why_7 rfl (lv_at hl 2 rfl) ?_
      refine kSi (As := [.int d0]) (rest := []) (wr := [(x0, .inr (11, [.ref xr, .ref xt, .ref xg, .ref xb, .ref xp, .ref xu, .ref xm, .ref xd, .ref xw, .ref xh, .ref xa, .ref xs, .ref xf, .int 0, .int 0, .long 0, .long 0, .int 0])), (xu, .inr (7, [.ref xua0, .ref xua1, .ref xua2, .int 0]))]) X (c_X11_isDay l g d0) ok_X11_isDay q_685 q_684 rfl hK hP hD hS hA hZ hl.1 [] [0, 1] rfl rfl rfl rfl rfl rfl (Nat.le_of_ble_eq_true rfl) ⟨Nat.le_of_ble_eq_true rfl, Nat.le_of_ble_eq_true rfl⟩ dX11_why_8 ⟨Nat.le_of_ble_eq_true rfl, Nat.le_of_ble_eq_true rfl⟩ (fun r_8 w1 H locs hw_9 hP hD hS => ?_)
      rw [sp_X11_isDay] at hw_9
      rcases Classical.em (d0 < 0) with c_10 | c_10
      ·
        rw [if_pos c_10] at hw_9
        obtain ⟨e1, e2⟩ := Prod.mk.inj hw_9
        subst e1; subst e2
        have hP : va_P g.1 classes [(x0, .inr (11, [.ref xr, .ref xt, .ref xg, .ref xb, .ref xp, .ref xu, .ref xm, .ref xd, .ref xw, .ref xh, .ref xa, .ref xs, .ref xf, .int 0, .int 0, .long 0, .long 0, .int 0])), (xu, .inr (7, [.ref xua0, .ref xua1, .ref xua2, .int 0]))] H := hP
        have hD : va_D A [(x0, .inr (11, [.ref xr, .ref xt, .ref xg, .ref xb, .ref xp, .ref xu, .ref xm, .ref xd, .ref xw, .ref xh, .ref xa, .ref xs, .ref xf, .int 0, .int 0, .long 0, .long 0, .int 0])), (xu, .inr (7, [.ref xua0, .ref xua1, .ref xua2, .int 0]))] := hD
        refine lv_if_eq (tgt := 21) hx hb dX11_why_11 (by decide) (fun _ => ?_) (fun c_11 => absurd (by decide) c_11)
        refine lv_iconst (v := (-1)) hx hb dX11_why_21 (by decide) ?_
        exact rI X hK hP hD hS dX11_why_22 (by rfl) (Nat.le_of_ble_eq_true rfl) (Nat.le_of_ble_eq_true rfl) (by show _ = _; unfold sp_X11_why; rw [if_neg c_3, if_neg c_5, if_pos c_10]; try rfl)
      ·
        rw [if_neg c_10] at hw_9
        rcases Classical.em (999 < d0) with c_12 | c_12
        ·
          rw [if_pos c_12] at hw_9
          obtain ⟨e1, e2⟩ := Prod.mk.inj hw_9
          subst e1; subst e2
          have hP : va_P g.1 classes [(x0, .inr (11, [.ref xr, .ref xt, .ref xg, .ref xb, .ref xp, .ref xu, .ref xm, .ref xd, .ref xw, .ref xh, .ref xa, .ref xs, .ref xf, .int 0, .int 0, .long 0, .long 0, .int 0])), (xu, .inr (7, [.ref xua0, .ref xua1, .ref xua2, .int 0]))] H := hP
          have hD : va_D A [(x0, .inr (11, [.ref xr, .ref xt, .ref xg, .ref xb, .ref xp, .ref xu, .ref xm, .ref xd, .ref xw, .ref xh, .ref xa, .ref xs, .ref xf, .int 0, .int 0, .long 0, .long 0, .int 0])), (xu, .inr (7, [.ref xua0, .ref xua1, .ref xua2, .int 0]))] := hD
          refine lv_if_eq (tgt := 21) hx hb dX11_why_11 (by decide) (fun _ => ?_) (fun c_13 => absurd (by decide) c_13)
          refine lv_iconst (v := (-1)) hx hb dX11_why_21 (by decide) ?_
          exact rI X hK hP hD hS dX11_why_22 (by rfl) (Nat.le_of_ble_eq_true rfl) (Nat.le_of_ble_eq_true rfl) (by show _ = _; unfold sp_X11_why; rw [if_neg c_3, if_neg c_5, if_neg c_10, if_pos c_12]; try rfl)
        ·
          rw [if_neg c_12] at hw_9
          obtain ⟨e1, e2⟩ := Prod.mk.inj hw_9
          subst e1; subst e2
          have hP : va_P g.1 classes [(x0, .inr (11, [.ref xr, .ref xt, .ref xg, .ref xb, .ref xp, .ref xu, .ref xm, .ref xd, .ref xw, .ref xh, .ref xa, .ref xs, .ref xf, .int 0, .int 0, .long 0, .long 0, .int 0])), (xu, .inr (7, [.ref xua0, .ref xua1, .ref xua2, .int 0]))] H := hP
          have hD : va_D A [(x0, .inr (11, [.ref xr, .ref xt, .ref xg, .ref xb, .ref xp, .ref xu, .ref xm, .ref xd, .ref xw, .ref xh, .ref xa, .ref xs, .ref xf, .int 0, .int 0, .long 0, .long 0, .int 0])), (xu, .inr (7, [.ref xua0, .ref xua1, .ref xua2, .int 0]))] := hD
          refine lv_if_eq (tgt := 21) hx hb dX11_why_11 (by decide) (fun c_14 => absurd c_14 (by decide)) (fun _ => ?_)
          refine lv_iload_n hx hb dX11_why_14 rfl (lv_at hl 3 rfl) ?_
          refine kSi (As := [.int k0]) (rest := []) (wr := [(x0, .inr (11, [.ref xr, .ref xt, .ref xg, .ref xb, .ref xp, .ref xu, .ref xm, .ref xd, .ref xw, .ref xh, .ref xa, .ref xs, .ref xf, .int 0, .int 0, .long 0, .long 0, .int 0])), (xu, .inr (7, [.ref xua0, .ref xua1, .ref xua2, .int 0]))]) X (c_X11_isDay l g k0) ok_X11_isDay q_685 q_684 rfl hK hP hD hS hA hZ hl.1 [] [0, 1] rfl rfl rfl rfl rfl rfl (Nat.le_of_ble_eq_true rfl) ⟨Nat.le_of_ble_eq_true rfl, Nat.le_of_ble_eq_true rfl⟩ dX11_why_15 ⟨Nat.le_of_ble_eq_true rfl, Nat.le_of_ble_eq_true rfl⟩ (fun r_15 w1 H locs hw_16 hP hD hS => ?_)
          rw [sp_X11_isDay] at hw_16
          rcases Classical.em (k0 < 0) with c_17 | c_17
          ·
            rw [if_pos c_17] at hw_16
            obtain ⟨e1, e2⟩ := Prod.mk.inj hw_16
            subst e1; subst e2
            have hP : va_P g.1 classes [(x0, .inr (11, [.ref xr, .ref xt, .ref xg, .ref xb, .ref xp, .ref xu, .ref xm, .ref xd, .ref xw, .ref xh, .ref xa, .ref xs, .ref xf, .int 0, .int 0, .long 0, .long 0, .int 0])), (xu, .inr (7, [.ref xua0, .ref xua1, .ref xua2, .int 0]))] H := hP
            have hD : va_D A [(x0, .inr (11, [.ref xr, .ref xt, .ref xg, .ref xb, .ref xp, .ref xu, .ref xm, .ref xd, .ref xw, .ref xh, .ref xa, .ref xs, .ref xf, .int 0, .int 0, .long 0, .long 0, .int 0])), (xu, .inr (7, [.ref xua0, .ref xua1, .ref xua2, .int 0]))] := hD
            refine lv_if_ne (tgt := 23) hx hb dX11_why_18 (by decide) (fun c_18 => absurd (by decide) c_18) (fun _ => ?_)
            refine lv_iconst (v := (-1)) hx hb dX11_why_21 (by decide) ?_
            exact rI X hK hP hD hS dX11_why_22 (by rfl) (Nat.le_of_ble_eq_true rfl) (Nat.le_of_ble_eq_true rfl) (by show _ = _; unfold sp_X11_why; rw [if_neg c_3, if_neg c_5, if_neg c_10, if_neg c_12, if_pos c_17]; try rfl)
          ·
            rw [if_neg c_17] at hw_16
            rcases Classical.em (999 < k0) with c_19 | c_19
            ·
              rw [if_pos c_19] at hw_16
              obtain ⟨e1, e2⟩ := Prod.mk.inj hw_16
              subst e1; subst e2
              have hP : va_P g.1 classes [(x0, .inr (11, [.ref xr, .ref xt, .ref xg, .ref xb, .ref xp, .ref xu, .ref xm, .ref xd, .ref xw, .ref xh, .ref xa, .ref xs, .ref xf, .int 0, .int 0, .long 0, .long 0, .int 0])), (xu, .inr (7, [.ref xua0, .ref xua1, .ref xua2, .int 0]))] H := hP
              have hD : va_D A [(x0, .inr (11, [.ref xr, .ref xt, .ref xg, .ref xb, .ref xp, .ref xu, .ref xm, .ref xd, .ref xw, .ref xh, .ref xa, .ref xs, .ref xf, .int 0, .int 0, .long 0, .long 0, .int 0])), (xu, .inr (7, [.ref xua0, .ref xua1, .ref xua2, .int 0]))] := hD
              refine lv_if_ne (tgt := 23) hx hb dX11_why_18 (by decide) (fun c_20 => absurd (by decide) c_20) (fun _ => ?_)
              refine lv_iconst (v := (-1)) hx hb dX11_why_21 (by decide) ?_
              exact rI X hK hP hD hS dX11_why_22 (by rfl) (Nat.le_of_ble_eq_true rfl) (Nat.le_of_ble_eq_true rfl) (by show _ = _; unfold sp_X11_why; rw [if_neg c_3, if_neg c_5, if_neg c_10, if_neg c_12, if_neg c_17, if_pos c_19]; try rfl)
            ·
              rw [if_neg c_19] at hw_16
              obtain ⟨e1, e2⟩ := Prod.mk.inj hw_16
              subst e1; subst e2
              have hP : va_P g.1 classes [(x0, .inr (11, [.ref xr, .ref xt, .ref xg, .ref xb, .ref xp, .ref xu, .ref xm, .ref xd, .ref xw, .ref xh, .ref xa, .ref xs, .ref xf, .int 0, .int 0, .long 0, .long 0, .int 0])), (xu, .inr (7, [.ref xua0, .ref xua1, .ref xua2, .int 0]))] H := hP
              have hD : va_D A [(x0, .inr (11, [.ref xr, .ref xt, .ref xg, .ref xb, .ref xp, .ref xu, .ref xm, .ref xd, .ref xw, .ref xh, .ref xa, .ref xs, .ref xf, .int 0, .int 0, .long 0, .long 0, .int 0])), (xu, .inr (7, [.ref xua0, .ref xua1, .ref xua2, .int 0]))] := hD
              refine lv_if_ne (tgt := 23) hx hb dX11_why_18 (by decide) (fun _ => ?_) (fun c_21 => absurd c_21 (by decide))
              refine lv_aload_n hx hb dX11_why_23 rfl (lv_at hl 0 rfl) ?_
              refine va_get (D := g.1) (ci := 11) (v := .ref xu) (C := RX11) (T := TX11) (N := 18) hx hb hts fw_X11 hown hK hP 0 rfl rfl 5 (by decide) (hts _ q_463) (fun _ h9 => h9) rfl dX11_why_24 ?_
              refine lv_iload_n hx hb dX11_why_27 rfl (lv_at hl 1 rfl) ?_
              refine lv_iload_n hx hb dX11_why_28 rfl (lv_at hl 2 rfl) ?_
              refine lv_iload_n hx hb dX11_why_29 rfl (lv_at hl 3 rfl) ?_
              refine kVi (As := [.int l0, .int d0, .int k0]) (rest := []) (wr := [(x0, .inr (11, [.ref xr, .ref xt, .ref xg, .ref xb, .ref xp, .ref xu, .ref xm, .ref xd, .ref xw, .ref xh, .ref xa, .ref xs, .ref xf, .int 0, .int 0, .long 0, .long 0, .int 0]))]) X (c_X7_deciding l g xu l0 d0 k0 xua0 xua1 xua2) ok_X7_deciding okv_X7_deciding q_785 rfl hK hP hD hS hA hZ hl.1 [1] [0] rfl rfl rfl rfl rfl 0 7 rfl rfl rfl (Nat.le_of_ble_eq_true rfl) ⟨Nat.le_of_ble_eq_true rfl, Nat.le_of_ble_eq_true rfl⟩ dX11_why_30 ⟨Nat.le_of_ble_eq_true rfl, Nat.le_of_ble_eq_true rfl⟩ (fun r_22 w1 H locs hw_23 hP hD hS => ?_)
              rw [sp_X7_deciding] at hw_23
              obtain ⟨e1, e2⟩ := Prod.mk.inj hw_23
              subst e1; subst e2
              have hP : va_P g.1 classes [(x0, .inr (11, [.ref xr, .ref xt, .ref xg, .ref xb, .ref xp, .ref xu, .ref xm, .ref xd, .ref xw, .ref xh, .ref xa, .ref xs, .ref xf, .int 0, .int 0, .long 0, .long 0, .int 0])), (xu, .inr (7, [.ref xua0, .ref xua1, .ref xua2, .int 0]))] H := hP
              have hD : va_D A [(x0, .inr (11, [.ref xr, .ref xt, .ref xg, .ref xb, .ref xp, .ref xu, .ref xm, .ref xd, .ref xw, .ref xh, .ref xa, .ref xs, .ref xf, .int 0, .int 0, .long 0, .long 0, .int 0])), (xu, .inr (7, [.ref xua0, .ref xua1, .ref xua2, .int 0]))] := hD
              exact rI X hK hP hD hS dX11_why_33 (by rfl) (Nat.le_of_ble_eq_true rfl) (Nat.le_of_ble_eq_true rfl) (by show _ = _; unfold sp_X11_why; rw [if_neg c_3, if_neg c_5, if_neg c_10, if_neg c_12, if_neg c_17, if_neg c_19]; try rfl)
def sp_X11_line (g : GG) (x0 : Nat) (a : Int32) (b : Int32) (r : Int32) (xr : Nat) (xt : Nat) (xg : Nat) (xb : Nat) (xp : Nat) (xu : Nat) (xm : Nat) (xd : Nat) (xw : Nat) (xh : Nat) (xa : Nat) (xs : Nat) (xf : Nat) (xrs : Nat) (xrp : Nat) (xma0 : Nat) (xma1 : Nat) (xma2 : Nat) (xma3 : Nat) (xma4 : Nat) (xma5 : Nat) (xma6 : Nat) (xma7 : Nat) (xma8 : Nat) (xma9 : Nat) (xma10 : Nat) (xma11 : Nat) (xma12 : Nat) : Int32 := if a < 0 then (-1) else (if 64 ≤ a then (-1) else (if b < 0 then (-1) else (if 64 ≤ b then (-1) else (if a = b then (-1) else (if r < 0 then (-1) else (if 6 ≤ r then (-1) else (-3)))))))
set_option maxHeartbeats 4000000 in
set_option maxRecDepth 100000 in
theorem c_X11_line (l : Launch) (g : GG) (x0 : Nat) (a : Int32) (b : Int32) (r : Int32) (xr : Nat) (xt : Nat) (xg : Nat) (xb : Nat) (xp : Nat) (xu : Nat) (xm : Nat) (xd : Nat) (xw : Nat) (xh : Nat) (xa : Nat) (xs : Nat) (xf : Nat) (xrs : Nat) (xrp : Nat) (xma0 : Nat) (xma1 : Nat) (xma2 : Nat) (xma3 : Nat) (xma4 : Nat) (xma5 : Nat) (xma6 : Nat) (xma7 : Nat) (xma8 : Nat) (xma9 : Nat) (xma10 : Nat) (xma11 : Nat) (xma12 : Nat) : MI l g yX11_line cX11_line 5 (some .int) 1 21 0 0 [(x0, .inr (11, [.ref xr, .ref xt, .ref xg, .ref xb, .ref xp, .ref xu, .ref xm, .ref xd, .ref xw, .ref xh, .ref xa, .ref xs, .ref xf, .int 0, .int 0, .long 0, .long 0, .int 0])), (xr, .inr (8, [.int 6, .int 0, .ref xrs, .ref xrp])), (xrs, .inl (cI g, 6, .inl (fun _ => (-1)))), (xm, .inr (4, [.ref xma0, .ref xma1, .ref xma2, .ref xma3, .ref xma4, .ref xma5, .ref xma6, .ref xma7, .ref xma8, .ref xma9, .ref xma10, .ref xma11, .ref xma12, .int 0])), (xf, .inl (cI g, 6, .inl (fun _ => 0)))] [.ref x0, .int a, .int b, .int r] (fun rr_ _ => rr_ = sp_X11_line g x0 a b r xr xt xg xb xp xu xm xd xw xh xa xs xf xrs xrp xma0 xma1 xma2 xma3 xma4 xma5 xma6 xma7 xma8 xma9 xma10 xma11 xma12) := by
  refine met_of (fun A => va_Qi _ (bW g A) A) (by decide) (Nat.le_of_ble_eq_true rfl) ?_
  intro p e s m below meth c A ls X hK hP hD hA hZ hS hl
  have hx := X.1
  have hb := X.2.1
  have hml := X.2.2.1
  have hown := X.2.2.2.1
  have hts := X.2.2.2.2.1
  have hnm := X.2.2.2.2.2.2.2
  have hl : lv_has ls 5 [(0, .ref x0), (1, .int a), (2, .int b), (3, .int r)] := hl
  refine lv_iload_n hx hb dX11_line_0 rfl (lv_at hl 1 rfl) ?_
  refine kSi (As := [.int a]) (rest := []) (wr := [(x0, .inr (11, [.ref xr, .ref xt, .ref xg, .ref xb, .ref xp, .ref xu, .ref xm, .ref xd, .ref xw, .ref xh, .ref xa, .ref xs, .ref xf, .int 0, .int 0, .long 0, .long 0, .int 0])), (xr, .inr (8, [.int 6, .int 0, .ref xrs, .ref xrp])), (xrs, .inl (cI g, 6, .inl (fun _ => (-1)))), (xm, .inr (4, [.ref xma0, .ref xma1, .ref xma2, .ref xma3, .ref xma4, .ref xma5, .ref xma6, .ref xma7, .ref xma8, .ref xma9, .ref xma10, .ref xma11, .ref xma12, .int 0])), (xf, .inl (cI g, 6, .inl (fun _ => 0)))]) X (c_X3_isCell l g a) ok_X3_isCell q_622 q_621 rfl hK hP hD hS hA hZ hl.1 [] [0, 1, 2, 3, 4] rfl rfl rfl rfl rfl rfl (Nat.le_of_ble_eq_true rfl) ⟨Nat.le_of_ble_eq_true rfl, Nat.le_of_ble_eq_true rfl⟩ dX11_line_1 ⟨Nat.le_of_ble_eq_true rfl, Nat.le_of_ble_eq_true rfl⟩ (fun r_1 w1 H locs hw_2 hP hD hS => ?_)
  rw [sp_X3_isCell] at hw_2
  rcases Classical.em (a < 0) with c_3 | c_3
  ·
    rw [if_pos c_3] at hw_2
    obtain ⟨e1, e2⟩ := Prod.mk.inj hw_2
    subst e1; subst e2
    have hP : va_P g.1 classes [(x0, .inr (11, [.ref xr, .ref xt, .ref xg, .ref xb, .ref xp, .ref xu, .ref xm, .ref xd, .ref xw, .ref xh, .ref xa, .ref xs, .ref xf, .int 0, .int 0, .long 0, .long 0, .int 0])), (xr, .inr (8, [.int 6, .int 0, .ref xrs, .ref xrp])), (xrs, .inl (cI g, 6, .inl (fun _ => (-1)))), (xm, .inr (4, [.ref xma0, .ref xma1, .ref xma2, .ref xma3, .ref xma4, .ref xma5, .ref xma6, .ref xma7, .ref xma8, .ref xma9, .ref xma10, .ref xma11, .ref xma12, .int 0])), (xf, .inl (cI g, 6, .inl (fun _ => 0)))] H := hP
    have hD : va_D A [(x0, .inr (11, [.ref xr, .ref xt, .ref xg, .ref xb, .ref xp, .ref xu, .ref xm, .ref xd, .ref xw, .ref xh, .ref xa, .ref xs, .ref xf, .int 0, .int 0, .long 0, .long 0, .int 0])), (xr, .inr (8, [.int 6, .int 0, .ref xrs, .ref xrp])), (xrs, .inl (cI g, 6, .inl (fun _ => (-1)))), (xm, .inr (4, [.ref xma0, .ref xma1, .ref xma2, .ref xma3, .ref xma4, .ref xma5, .ref xma6, .ref xma7, .ref xma8, .ref xma9, .ref xma10, .ref xma11, .ref xma12, .int 0])), (xf, .inl (cI g, 6, .inl (fun _ => 0)))] := hD
    refine lv_if_eq (tgt := 30) hx hb dX11_line_4 (by decide) (fun _ => ?_) (fun c_4 => absurd (by decide) c_4)
    refine lv_iconst (v := (-1)) hx hb dX11_line_30 (by decide) ?_
    exact rI X hK hP hD hS dX11_line_31 (by rfl) (Nat.le_of_ble_eq_true rfl) (Nat.le_of_ble_eq_true rfl) (by show _ = _; unfold sp_X11_line; rw [if_pos c_3]; try rfl)
  ·
    rw [if_neg c_3] at hw_2
    rcases Classical.em (64 ≤ a) with c_5 | c_5
    ·
      rw [if_pos c_5] at hw_2
      obtain ⟨e1, e2⟩ := Prod.mk.inj hw_2
      subst e1; subst e2
      have hP : va_P g.1 classes [(x0, .inr (11, [.ref xr, .ref xt, .ref xg, .ref xb, .ref xp, .ref xu, .ref xm, .ref xd, .ref xw, .ref xh, .ref xa, .ref xs, .ref xf, .int 0, .int 0, .long 0, .long 0, .int 0])), (xr, .inr (8, [.int 6, .int 0, .ref xrs, .ref xrp])), (xrs, .inl (cI g, 6, .inl (fun _ => (-1)))), (xm, .inr (4, [.ref xma0, .ref xma1, .ref xma2, .ref xma3, .ref xma4, .ref xma5, .ref xma6, .ref xma7, .ref xma8, .ref xma9, .ref xma10, .ref xma11, .ref xma12, .int 0])), (xf, .inl (cI g, 6, .inl (fun _ => 0)))] H := hP
      have hD : va_D A [(x0, .inr (11, [.ref xr, .ref xt, .ref xg, .ref xb, .ref xp, .ref xu, .ref xm, .ref xd, .ref xw, .ref xh, .ref xa, .ref xs, .ref xf, .int 0, .int 0, .long 0, .long 0, .int 0])), (xr, .inr (8, [.int 6, .int 0, .ref xrs, .ref xrp])), (xrs, .inl (cI g, 6, .inl (fun _ => (-1)))), (xm, .inr (4, [.ref xma0, .ref xma1, .ref xma2, .ref xma3, .ref xma4, .ref xma5, .ref xma6, .ref xma7, .ref xma8, .ref xma9, .ref xma10, .ref xma11, .ref xma12, .int 0])), (xf, .inl (cI g, 6, .inl (fun _ => 0)))] := hD
      refine lv_if_eq (tgt := 30) hx hb dX11_line_4 (by decide) (fun _ => ?_) (fun c_6 => absurd (by decide) c_6)
      refine lv_iconst (v := (-1)) hx hb dX11_line_30 (by decide) ?_
      exact rI X hK hP hD hS dX11_line_31 (by rfl) (Nat.le_of_ble_eq_true rfl) (Nat.le_of_ble_eq_true rfl) (by show _ = _; unfold sp_X11_line; rw [if_neg c_3, if_pos c_5]; try rfl)
    ·
      rw [if_neg c_5] at hw_2
      obtain ⟨e1, e2⟩ := Prod.mk.inj hw_2
      subst e1; subst e2
      have hP : va_P g.1 classes [(x0, .inr (11, [.ref xr, .ref xt, .ref xg, .ref xb, .ref xp, .ref xu, .ref xm, .ref xd, .ref xw, .ref xh, .ref xa, .ref xs, .ref xf, .int 0, .int 0, .long 0, .long 0, .int 0])), (xr, .inr (8, [.int 6, .int 0, .ref xrs, .ref xrp])), (xrs, .inl (cI g, 6, .inl (fun _ => (-1)))), (xm, .inr (4, [.ref xma0, .ref xma1, .ref xma2, .ref xma3, .ref xma4, .ref xma5, .ref xma6, .ref xma7, .ref xma8, .ref xma9, .ref xma10, .ref xma11, .ref xma12, .int 0])), (xf, .inl (cI g, 6, .inl (fun _ => 0)))] H := hP
      have hD : va_D A [(x0, .inr (11, [.ref xr, .ref xt, .ref xg, .ref xb, .ref xp, .ref xu, .ref xm, .ref xd, .ref xw, .ref xh, .ref xa, .ref xs, .ref xf, .int 0, .int 0, .long 0, .long 0, .int 0])), (xr, .inr (8, [.int 6, .int 0, .ref xrs, .ref xrp])), (xrs, .inl (cI g, 6, .inl (fun _ => (-1)))), (xm, .inr (4, [.ref xma0, .ref xma1, .ref xma2, .ref xma3, .ref xma4, .ref xma5, .ref xma6, .ref xma7, .ref xma8, .ref xma9, .ref xma10, .ref xma11, .ref xma12, .int 0])), (xf, .inl (cI g, 6, .inl (fun _ => 0)))] := hD
      refine lv_if_eq (tgt := 30) hx hb dX11_line_4 (by decide) (fun c_7 => absurd c_7 (by decide)) (fun _ => ?_)
      refine lv_iload_n hx hb dX11_line_7 rfl (lv_at hl 2 rfl) ?_
      refine kSi (As := [.int b]) (rest := []) (wr := [(x0, .inr (11, [.ref xr, .ref xt, .ref xg, .ref xb, .ref xp, .ref xu, .ref xm, .ref xd, .ref xw, .ref xh, .ref xa, .ref xs, .ref xf, .int 0, .int 0, .long 0, .long 0, .int 0])), (xr, .inr (8, [.int 6, .int 0, .ref xrs, .ref xrp])), (xrs, .inl (cI g, 6, .inl (fun _ => (-1)))), (xm, .inr (4, [.ref xma0, .ref xma1, .ref xma2, .ref xma3, .ref xma4, .ref xma5, .ref xma6, .ref xma7, .ref xma8, .ref xma9, .ref xma10, .ref xma11, .ref xma12, .int 0])), (xf, .inl (cI g, 6, .inl (fun _ => 0)))]) X (c_X3_isCell l g b) ok_X3_isCell q_622 q_621 rfl hK hP hD hS hA hZ hl.1 [] [0, 1, 2, 3, 4] rfl rfl rfl rfl rfl rfl (Nat.le_of_ble_eq_true rfl) ⟨Nat.le_of_ble_eq_true rfl, Nat.le_of_ble_eq_true rfl⟩ dX11_line_8 ⟨Nat.le_of_ble_eq_true rfl, Nat.le_of_ble_eq_true rfl⟩ (fun r_8 w1 H locs hw_9 hP hD hS => ?_)
      rw [sp_X3_isCell] at hw_9
      rcases Classical.em (b < 0) with c_10 | c_10
      ·
        rw [if_pos c_10] at hw_9
        obtain ⟨e1, e2⟩ := Prod.mk.inj hw_9
        subst e1; subst e2
        have hP : va_P g.1 classes [(x0, .inr (11, [.ref xr, .ref xt, .ref xg, .ref xb, .ref xp, .ref xu, .ref xm, .ref xd, .ref xw, .ref xh, .ref xa, .ref xs, .ref xf, .int 0, .int 0, .long 0, .long 0, .int 0])), (xr, .inr (8, [.int 6, .int 0, .ref xrs, .ref xrp])), (xrs, .inl (cI g, 6, .inl (fun _ => (-1)))), (xm, .inr (4, [.ref xma0, .ref xma1, .ref xma2, .ref xma3, .ref xma4, .ref xma5, .ref xma6, .ref xma7, .ref xma8, .ref xma9, .ref xma10, .ref xma11, .ref xma12, .int 0])), (xf, .inl (cI g, 6, .inl (fun _ => 0)))] H := hP
        have hD : va_D A [(x0, .inr (11, [.ref xr, .ref xt, .ref xg, .ref xb, .ref xp, .ref xu, .ref xm, .ref xd, .ref xw, .ref xh, .ref xa, .ref xs, .ref xf, .int 0, .int 0, .long 0, .long 0, .int 0])), (xr, .inr (8, [.int 6, .int 0, .ref xrs, .ref xrp])), (xrs, .inl (cI g, 6, .inl (fun _ => (-1)))), (xm, .inr (4, [.ref xma0, .ref xma1, .ref xma2, .ref xma3, .ref xma4, .ref xma5, .ref xma6, .ref xma7, .ref xma8, .ref xma9, .ref xma10, .ref xma11, .ref xma12, .int 0])), (xf, .inl (cI g, 6, .inl (fun _ => 0)))] := hD
        refine lv_if_eq (tgt := 30) hx hb dX11_line_11 (by decide) (fun _ => ?_) (fun c_11 => absurd (by decide) c_11)
        refine lv_iconst (v := (-1)) hx hb dX11_line_30 (by decide) ?_
        exact rI X hK hP hD hS dX11_line_31 (by rfl) (Nat.le_of_ble_eq_true rfl) (Nat.le_of_ble_eq_true rfl) (by show _ = _; unfold sp_X11_line; rw [if_neg c_3, if_neg c_5, if_pos c_10]; try rfl)
      ·
        rw [if_neg c_10] at hw_9
        rcases Classical.em (64 ≤ b) with c_12 | c_12
        ·
          rw [if_pos c_12] at hw_9
          obtain ⟨e1, e2⟩ := Prod.mk.inj hw_9
          subst e1; subst e2
          have hP : va_P g.1 classes [(x0, .inr (11, [.ref xr, .ref xt, .ref xg, .ref xb, .ref xp, .ref xu, .ref xm, .ref xd, .ref xw, .ref xh, .ref xa, .ref xs, .ref xf, .int 0, .int 0, .long 0, .long 0, .int 0])), (xr, .inr (8, [.int 6, .int 0, .ref xrs, .ref xrp])), (xrs, .inl (cI g, 6, .inl (fun _ => (-1)))), (xm, .inr (4, [.ref xma0, .ref xma1, .ref xma2, .ref xma3, .ref xma4, .ref xma5, .ref xma6, .ref xma7, .ref xma8, .ref xma9, .ref xma10, .ref xma11, .ref xma12, .int 0])), (xf, .inl (cI g, 6, .inl (fun _ => 0)))] H := hP
          have hD : va_D A [(x0, .inr (11, [.ref xr, .ref xt, .ref xg, .ref xb, .ref xp, .ref xu, .ref xm, .ref xd, .ref xw, .ref xh, .ref xa, .ref xs, .ref xf, .int 0, .int 0, .long 0, .long 0, .int 0])), (xr, .inr (8, [.int 6, .int 0, .ref xrs, .ref xrp])), (xrs, .inl (cI g, 6, .inl (fun _ => (-1)))), (xm, .inr (4, [.ref xma0, .ref xma1, .ref xma2, .ref xma3, .ref xma4, .ref xma5, .ref xma6, .ref xma7, .ref xma8, .ref xma9, .ref xma10, .ref xma11, .ref xma12, .int 0])), (xf, .inl (cI g, 6, .inl (fun _ => 0)))] := hD
          refine lv_if_eq (tgt := 30) hx hb dX11_line_11 (by decide) (fun _ => ?_) (fun c_13 => absurd (by decide) c_13)
          refine lv_iconst (v := (-1)) hx hb dX11_line_30 (by decide) ?_
          exact rI X hK hP hD hS dX11_line_31 (by rfl) (Nat.le_of_ble_eq_true rfl) (Nat.le_of_ble_eq_true rfl) (by show _ = _; unfold sp_X11_line; rw [if_neg c_3, if_neg c_5, if_neg c_10, if_pos c_12]; try rfl)
        ·
          rw [if_neg c_12] at hw_9
          obtain ⟨e1, e2⟩ := Prod.mk.inj hw_9
          subst e1; subst e2
          have hP : va_P g.1 classes [(x0, .inr (11, [.ref xr, .ref xt, .ref xg, .ref xb, .ref xp, .ref xu, .ref xm, .ref xd, .ref xw, .ref xh, .ref xa, .ref xs, .ref xf, .int 0, .int 0, .long 0, .long 0, .int 0])), (xr, .inr (8, [.int 6, .int 0, .ref xrs, .ref xrp])), (xrs, .inl (cI g, 6, .inl (fun _ => (-1)))), (xm, .inr (4, [.ref xma0, .ref xma1, .ref xma2, .ref xma3, .ref xma4, .ref xma5, .ref xma6, .ref xma7, .ref xma8, .ref xma9, .ref xma10, .ref xma11, .ref xma12, .int 0])), (xf, .inl (cI g, 6, .inl (fun _ => 0)))] H := hP
          have hD : va_D A [(x0, .inr (11, [.ref xr, .ref xt, .ref xg, .ref xb, .ref xp, .ref xu, .ref xm, .ref xd, .ref xw, .ref xh, .ref xa, .ref xs, .ref xf, .int 0, .int 0, .long 0, .long 0, .int 0])), (xr, .inr (8, [.int 6, .int 0, .ref xrs, .ref xrp])), (xrs, .inl (cI g, 6, .inl (fun _ => (-1)))), (xm, .inr (4, [.ref xma0, .ref xma1, .ref xma2, .ref xma3, .ref xma4, .ref xma5, .ref xma6, .ref xma7, .ref xma8, .ref xma9, .ref xma10, .ref xma11, .ref xma12, .int 0])), (xf, .inl (cI g, 6, .inl (fun _ => 0)))] := hD
          refine lv_if_eq (tgt := 30) hx hb dX11_line_11 (by decide) (fun c_14 => absurd c_14 (by decide)) (fun _ => ?_)
          refine lv_iload_n hx hb dX11_line_14 rfl (lv_at hl 1 rfl) ?_
          refine lv_iload_n hx hb dX11_line_15 rfl (lv_at hl 2 rfl) ?_
          refine lv_icmp_eq (tgt := 30) hx hb dX11_line_16 (by decide) (fun c_15 => ?_) (fun c_15 => ?_)
          ·
            refine lv_iconst (v := (-1)) hx hb dX11_line_30 (by decide) ?_
            exact rI X hK hP hD hS dX11_line_31 (by rfl) (Nat.le_of_ble_eq_true rfl) (Nat.le_of_ble_eq_true rfl) (by show _ = _; unfold sp_X11_line; rw [if_neg c_3, if_neg c_5, if_neg c_10, if_neg c_12, if_pos c_15]; try rfl)
          ·
            refine lv_aload_n hx hb dX11_line_19 rfl (lv_at hl 0 rfl) ?_
            refine va_get (D := g.1) (ci := 11) (v := .ref xr) (C := RX11) (T := TX11) (N := 18) hx hb hts fw_X11 hown hK hP 0 rfl rfl 0 (by decide) (hts _ q_458) (fun _ h9 => h9) rfl dX11_line_20 ?_
            refine lv_iload_n hx hb dX11_line_23 rfl (lv_at hl 3 rfl) ?_
            refine kVi (As := [.int r]) (rest := []) (wr := [(x0, .inr (11, [.ref xr, .ref xt, .ref xg, .ref xb, .ref xp, .ref xu, .ref xm, .ref xd, .ref xw, .ref xh, .ref xa, .ref xs, .ref xf, .int 0, .int 0, .long 0, .long 0, .int 0])), (xrs, .inl (cI g, 6, .inl (fun _ => (-1)))), (xm, .inr (4, [.ref xma0, .ref xma1, .ref xma2, .ref xma3, .ref xma4, .ref xma5, .ref xma6, .ref xma7, .ref xma8, .ref xma9, .ref xma10, .ref xma11, .ref xma12, .int 0])), (xf, .inl (cI g, 6, .inl (fun _ => 0)))]) X (c_X8_exists l g xr r 6 0 xrs xrp) ok_X8_exists okv_X8_exists q_517 rfl hK hP hD hS hA hZ hl.1 [1] [0, 2, 3, 4] rfl rfl rfl rfl rfl 0 8 rfl rfl rfl (Nat.le_of_ble_eq_true rfl) ⟨Nat.le_of_ble_eq_true rfl, Nat.le_of_ble_eq_true rfl⟩ dX11_line_24 ⟨Nat.le_of_ble_eq_true rfl, Nat.le_of_ble_eq_true rfl⟩ (fun r_16 w1 H locs hw_17 hP hD hS => ?_)
            rw [sp_X8_exists] at hw_17
            rcases Classical.em (r < 0) with c_18 | c_18
            ·
              rw [if_pos c_18] at hw_17
              obtain ⟨e1, e2⟩ := Prod.mk.inj hw_17
              subst e1; subst e2
              have hP : va_P g.1 classes [(x0, .inr (11, [.ref xr, .ref xt, .ref xg, .ref xb, .ref xp, .ref xu, .ref xm, .ref xd, .ref xw, .ref xh, .ref xa, .ref xs, .ref xf, .int 0, .int 0, .long 0, .long 0, .int 0])), (xrs, .inl (cI g, 6, .inl (fun _ => (-1)))), (xm, .inr (4, [.ref xma0, .ref xma1, .ref xma2, .ref xma3, .ref xma4, .ref xma5, .ref xma6, .ref xma7, .ref xma8, .ref xma9, .ref xma10, .ref xma11, .ref xma12, .int 0])), (xf, .inl (cI g, 6, .inl (fun _ => 0))), (xr, .inr (8, [.int 6, .int 0, .ref xrs, .ref xrp]))] H := hP
              have hD : va_D A [(x0, .inr (11, [.ref xr, .ref xt, .ref xg, .ref xb, .ref xp, .ref xu, .ref xm, .ref xd, .ref xw, .ref xh, .ref xa, .ref xs, .ref xf, .int 0, .int 0, .long 0, .long 0, .int 0])), (xrs, .inl (cI g, 6, .inl (fun _ => (-1)))), (xm, .inr (4, [.ref xma0, .ref xma1, .ref xma2, .ref xma3, .ref xma4, .ref xma5, .ref xma6, .ref xma7, .ref xma8, .ref xma9, .ref xma10, .ref xma11, .ref xma12, .int 0])), (xf, .inl (cI g, 6, .inl (fun _ => 0))), (xr, .inr (8, [.int 6, .int 0, .ref xrs, .ref xrp]))] := hD
              refine lv_if_ne (tgt := 32) hx hb dX11_line_27 (by decide) (fun c_19 => absurd (by decide) c_19) (fun _ => ?_)
              refine lv_iconst (v := (-1)) hx hb dX11_line_30 (by decide) ?_
              exact rI X hK hP hD hS dX11_line_31 (by rfl) (Nat.le_of_ble_eq_true rfl) (Nat.le_of_ble_eq_true rfl) (by show _ = _; unfold sp_X11_line; rw [if_neg c_3, if_neg c_5, if_neg c_10, if_neg c_12, if_neg c_15, if_pos c_18]; try rfl)
            ·
              rw [if_neg c_18] at hw_17
              rcases Classical.em (6 ≤ r) with c_20 | c_20
              ·
                rw [if_pos c_20] at hw_17
                obtain ⟨e1, e2⟩ := Prod.mk.inj hw_17
                subst e1; subst e2
                have hP : va_P g.1 classes [(x0, .inr (11, [.ref xr, .ref xt, .ref xg, .ref xb, .ref xp, .ref xu, .ref xm, .ref xd, .ref xw, .ref xh, .ref xa, .ref xs, .ref xf, .int 0, .int 0, .long 0, .long 0, .int 0])), (xrs, .inl (cI g, 6, .inl (fun _ => (-1)))), (xm, .inr (4, [.ref xma0, .ref xma1, .ref xma2, .ref xma3, .ref xma4, .ref xma5, .ref xma6, .ref xma7, .ref xma8, .ref xma9, .ref xma10, .ref xma11, .ref xma12, .int 0])), (xf, .inl (cI g, 6, .inl (fun _ => 0))), (xr, .inr (8, [.int 6, .int 0, .ref xrs, .ref xrp]))] H := hP
                have hD : va_D A [(x0, .inr (11, [.ref xr, .ref xt, .ref xg, .ref xb, .ref xp, .ref xu, .ref xm, .ref xd, .ref xw, .ref xh, .ref xa, .ref xs, .ref xf, .int 0, .int 0, .long 0, .long 0, .int 0])), (xrs, .inl (cI g, 6, .inl (fun _ => (-1)))), (xm, .inr (4, [.ref xma0, .ref xma1, .ref xma2, .ref xma3, .ref xma4, .ref xma5, .ref xma6, .ref xma7, .ref xma8, .ref xma9, .ref xma10, .ref xma11, .ref xma12, .int 0])), (xf, .inl (cI g, 6, .inl (fun _ => 0))), (xr, .inr (8, [.int 6, .int 0, .ref xrs, .ref xrp]))] := hD
                refine lv_if_ne (tgt := 32) hx hb dX11_line_27 (by decide) (fun c_21 => absurd (by decide) c_21) (fun _ => ?_)
                refine lv_iconst (v := (-1)) hx hb dX11_line_30 (by decide) ?_
                exact rI X hK hP hD hS dX11_line_31 (by rfl) (Nat.le_of_ble_eq_true rfl) (Nat.le_of_ble_eq_true rfl) (by show _ = _; unfold sp_X11_line; rw [if_neg c_3, if_neg c_5, if_neg c_10, if_neg c_12, if_neg c_15, if_neg c_18, if_pos c_20]; try rfl)
              ·
                rw [if_neg c_20] at hw_17
                obtain ⟨e1, e2⟩ := Prod.mk.inj hw_17
                subst e1; subst e2
                have hP : va_P g.1 classes [(x0, .inr (11, [.ref xr, .ref xt, .ref xg, .ref xb, .ref xp, .ref xu, .ref xm, .ref xd, .ref xw, .ref xh, .ref xa, .ref xs, .ref xf, .int 0, .int 0, .long 0, .long 0, .int 0])), (xrs, .inl (cI g, 6, .inl (fun _ => (-1)))), (xm, .inr (4, [.ref xma0, .ref xma1, .ref xma2, .ref xma3, .ref xma4, .ref xma5, .ref xma6, .ref xma7, .ref xma8, .ref xma9, .ref xma10, .ref xma11, .ref xma12, .int 0])), (xf, .inl (cI g, 6, .inl (fun _ => 0))), (xr, .inr (8, [.int 6, .int 0, .ref xrs, .ref xrp]))] H := hP
                have hD : va_D A [(x0, .inr (11, [.ref xr, .ref xt, .ref xg, .ref xb, .ref xp, .ref xu, .ref xm, .ref xd, .ref xw, .ref xh, .ref xa, .ref xs, .ref xf, .int 0, .int 0, .long 0, .long 0, .int 0])), (xrs, .inl (cI g, 6, .inl (fun _ => (-1)))), (xm, .inr (4, [.ref xma0, .ref xma1, .ref xma2, .ref xma3, .ref xma4, .ref xma5, .ref xma6, .ref xma7, .ref xma8, .ref xma9, .ref xma10, .ref xma11, .ref xma12, .int 0])), (xf, .inl (cI g, 6, .inl (fun _ => 0))), (xr, .inr (8, [.int 6, .int 0, .ref xrs, .ref xrp]))] := hD
                refine lv_if_ne (tgt := 32) hx hb dX11_line_27 (by decide) (fun _ => ?_) (fun c_22 => absurd c_22 (by decide))
                refine lv_aload_n hx hb dX11_line_32 rfl (lv_at hl 0 rfl) ?_
                refine va_get (D := g.1) (ci := 11) (v := .ref xm) (C := RX11) (T := TX11) (N := 18) hx hb hts fw_X11 hown hK hP 0 rfl rfl 6 (by decide) (hts _ q_464) (fun _ h9 => h9) rfl dX11_line_33 ?_
                refine kVi (As := []) (rest := []) (wr := [(x0, .inr (11, [.ref xr, .ref xt, .ref xg, .ref xb, .ref xp, .ref xu, .ref xm, .ref xd, .ref xw, .ref xh, .ref xa, .ref xs, .ref xf, .int 0, .int 0, .long 0, .long 0, .int 0])), (xrs, .inl (cI g, 6, .inl (fun _ => (-1)))), (xf, .inl (cI g, 6, .inl (fun _ => 0))), (xr, .inr (8, [.int 6, .int 0, .ref xrs, .ref xrp]))]) X (c_X4_number l g xm xma0 xma1 xma2 xma3 xma4 xma5 xma6 xma7 xma8 xma9 xma10 xma11 xma12) ok_X4_number okv_X4_number q_790 rfl hK hP hD hS hA hZ hl.1 [2] [0, 1, 3, 4] rfl rfl rfl rfl rfl 0 4 rfl rfl rfl (Nat.le_of_ble_eq_true rfl) ⟨Nat.le_of_ble_eq_true rfl, Nat.le_of_ble_eq_true rfl⟩ dX11_line_36 ⟨Nat.le_of_ble_eq_true rfl, Nat.le_of_ble_eq_true rfl⟩ (fun r_23 w1 H locs hw_24 hP hD hS => ?_)
                rw [sp_X4_number] at hw_24
                obtain ⟨e1, e2⟩ := Prod.mk.inj hw_24
                subst e1; subst e2
                have hP : va_P g.1 classes [(x0, .inr (11, [.ref xr, .ref xt, .ref xg, .ref xb, .ref xp, .ref xu, .ref xm, .ref xd, .ref xw, .ref xh, .ref xa, .ref xs, .ref xf, .int 0, .int 0, .long 0, .long 0, .int 0])), (xrs, .inl (cI g, 6, .inl (fun _ => (-1)))), (xf, .inl (cI g, 6, .inl (fun _ => 0))), (xr, .inr (8, [.int 6, .int 0, .ref xrs, .ref xrp])), (xm, .inr (4, [.ref xma0, .ref xma1, .ref xma2, .ref xma3, .ref xma4, .ref xma5, .ref xma6, .ref xma7, .ref xma8, .ref xma9, .ref xma10, .ref xma11, .ref xma12, .int 0]))] H := hP
                have hD : va_D A [(x0, .inr (11, [.ref xr, .ref xt, .ref xg, .ref xb, .ref xp, .ref xu, .ref xm, .ref xd, .ref xw, .ref xh, .ref xa, .ref xs, .ref xf, .int 0, .int 0, .long 0, .long 0, .int 0])), (xrs, .inl (cI g, 6, .inl (fun _ => (-1)))), (xf, .inl (cI g, 6, .inl (fun _ => 0))), (xr, .inr (8, [.int 6, .int 0, .ref xrs, .ref xrp])), (xm, .inr (4, [.ref xma0, .ref xma1, .ref xma2, .ref xma3, .ref xma4, .ref xma5, .ref xma6, .ref xma7, .ref xma8, .ref xma9, .ref xma10, .ref xma11, .ref xma12, .int 0]))] := hD
                refine lv_bipush (v := 24) hx hb dX11_line_39 (by decide) ?_
                refine lv_icmp_lt (tgt := 47) hx hb dX11_line_41 (by decide) (fun _ => ?_) (fun c_25 => absurd (by decide) c_25)
                refine lv_aload_n hx hb dX11_line_47 rfl (lv_at hl 0 rfl) ?_
                refine va_get (D := g.1) (ci := 11) (v := .ref xr) (C := RX11) (T := TX11) (N := 18) hx hb hts fw_X11 hown hK hP 0 rfl rfl 0 (by decide) (hts _ q_458) (fun _ h9 => h9) rfl dX11_line_48 ?_
                refine lv_iload_n hx hb dX11_line_51 rfl (lv_at hl 3 rfl) ?_
                refine kVi (As := [.int r]) (rest := []) (wr := [(x0, .inr (11, [.ref xr, .ref xt, .ref xg, .ref xb, .ref xp, .ref xu, .ref xm, .ref xd, .ref xw, .ref xh, .ref xa, .ref xs, .ref xf, .int 0, .int 0, .long 0, .long 0, .int 0])), (xf, .inl (cI g, 6, .inl (fun _ => 0))), (xm, .inr (4, [.ref xma0, .ref xma1, .ref xma2, .ref xma3, .ref xma4, .ref xma5, .ref xma6, .ref xma7, .ref xma8, .ref xma9, .ref xma10, .ref xma11, .ref xma12, .int 0]))]) X (c_X8_isThere l g xr r 6 0 xrs xrp c_18 c_20) ok_X8_isThere okv_X8_isThere q_539 rfl hK hP hD hS hA hZ hl.1 [3, 1] [0, 2, 4] rfl rfl rfl rfl rfl 0 8 rfl rfl rfl (Nat.le_of_ble_eq_true rfl) ⟨Nat.le_of_ble_eq_true rfl, Nat.le_of_ble_eq_true rfl⟩ dX11_line_52 ⟨Nat.le_of_ble_eq_true rfl, Nat.le_of_ble_eq_true rfl⟩ (fun r_26 w1 H locs hw_27 hP hD hS => ?_)
                rw [sp_X8_isThere] at hw_27
                obtain ⟨e1, e2⟩ := Prod.mk.inj hw_27
                subst e1; subst e2
                have hP : va_P g.1 classes [(x0, .inr (11, [.ref xr, .ref xt, .ref xg, .ref xb, .ref xp, .ref xu, .ref xm, .ref xd, .ref xw, .ref xh, .ref xa, .ref xs, .ref xf, .int 0, .int 0, .long 0, .long 0, .int 0])), (xf, .inl (cI g, 6, .inl (fun _ => 0))), (xm, .inr (4, [.ref xma0, .ref xma1, .ref xma2, .ref xma3, .ref xma4, .ref xma5, .ref xma6, .ref xma7, .ref xma8, .ref xma9, .ref xma10, .ref xma11, .ref xma12, .int 0])), (xr, .inr (8, [.int 6, .int 0, .ref xrs, .ref xrp])), (xrs, .inl (cI g, 6, .inl (fun _ => (-1))))] H := hP
                have hD : va_D A [(x0, .inr (11, [.ref xr, .ref xt, .ref xg, .ref xb, .ref xp, .ref xu, .ref xm, .ref xd, .ref xw, .ref xh, .ref xa, .ref xs, .ref xf, .int 0, .int 0, .long 0, .long 0, .int 0])), (xf, .inl (cI g, 6, .inl (fun _ => 0))), (xm, .inr (4, [.ref xma0, .ref xma1, .ref xma2, .ref xma3, .ref xma4, .ref xma5, .ref xma6, .ref xma7, .ref xma8, .ref xma9, .ref xma10, .ref xma11, .ref xma12, .int 0])), (xr, .inr (8, [.int 6, .int 0, .ref xrs, .ref xrp])), (xrs, .inl (cI g, 6, .inl (fun _ => (-1))))] := hD
                refine lv_if_ne (tgt := 64) hx hb dX11_line_55 (by decide) (fun c_28 => absurd (by decide) c_28) (fun _ => ?_)
                refine lv_aload_n hx hb dX11_line_58 rfl (lv_at hl 0 rfl) ?_
                refine lv_iconst (v := 1) hx hb dX11_line_59 (by decide) ?_
                refine kVi (As := [.int 1]) (rest := []) (wr := [(xm, .inr (4, [.ref xma0, .ref xma1, .ref xma2, .ref xma3, .ref xma4, .ref xma5, .ref xma6, .ref xma7, .ref xma8, .ref xma9, .ref xma10, .ref xma11, .ref xma12, .int 0])), (xr, .inr (8, [.int 6, .int 0, .ref xrs, .ref xrp])), (xrs, .inl (cI g, 6, .inl (fun _ => (-1))))]) X (c_X11_found1 l g x0 xr xt xg xb xp xu xm xd xw xh xa xs xf) ok_X11_found okv_X11_found q_521 rfl hK hP hD hS hA hZ hl.1 [0, 1] [2, 3, 4] rfl rfl rfl rfl rfl 0 11 rfl rfl rfl (Nat.le_of_ble_eq_true rfl) ⟨Nat.le_of_ble_eq_true rfl, Nat.le_of_ble_eq_true rfl⟩ dX11_line_60 ⟨Nat.le_of_ble_eq_true rfl, Nat.le_of_ble_eq_true rfl⟩ (fun r_29 w1 H locs hw_30 hP hD hS => ?_)
                rw [sp_X11_found1] at hw_30
                obtain ⟨e1, e2⟩ := Prod.mk.inj hw_30
                subst e1; subst e2
                have hP : va_P g.1 classes [(xm, .inr (4, [.ref xma0, .ref xma1, .ref xma2, .ref xma3, .ref xma4, .ref xma5, .ref xma6, .ref xma7, .ref xma8, .ref xma9, .ref xma10, .ref xma11, .ref xma12, .int 0])), (xr, .inr (8, [.int 6, .int 0, .ref xrs, .ref xrp])), (xrs, .inl (cI g, 6, .inl (fun _ => (-1)))), (x0, .inr (11, [.ref xr, .ref xt, .ref xg, .ref xb, .ref xp, .ref xu, .ref xm, .ref xd, .ref xw, .ref xh, .ref xa, .ref xs, .ref xf, .int 0, .int 0, .long 0, .long 0, .int 1])), (xf, .inl (cI g, 6, .inl (upd (fun _ => 0) 1 1)))] H := hP
                have hD : va_D A [(xm, .inr (4, [.ref xma0, .ref xma1, .ref xma2, .ref xma3, .ref xma4, .ref xma5, .ref xma6, .ref xma7, .ref xma8, .ref xma9, .ref xma10, .ref xma11, .ref xma12, .int 0])), (xr, .inr (8, [.int 6, .int 0, .ref xrs, .ref xrp])), (xrs, .inl (cI g, 6, .inl (fun _ => (-1)))), (x0, .inr (11, [.ref xr, .ref xt, .ref xg, .ref xb, .ref xp, .ref xu, .ref xm, .ref xd, .ref xw, .ref xh, .ref xa, .ref xs, .ref xf, .int 0, .int 0, .long 0, .long 0, .int 1])), (xf, .inl (cI g, 6, .inl (upd (fun _ => 0) 1 1)))] := hD
                exact rI X hK hP hD hS dX11_line_63 (by rfl) (Nat.le_of_ble_eq_true rfl) (Nat.le_of_ble_eq_true rfl) (by show _ = _; unfold sp_X11_line; rw [if_neg c_3, if_neg c_5, if_neg c_10, if_neg c_12, if_neg c_15, if_neg c_18, if_neg c_20]; try rfl)
def sp_X11_grant (g : GG) (x0 : Nat) (n : Int32) (d0 : Int32) (xr : Nat) (xt : Nat) (xg : Nat) (xb : Nat) (xp : Nat) (xu : Nat) (xm : Nat) (xd : Nat) (xw : Nat) (xh : Nat) (xa : Nat) (xs : Nat) (xf : Nat) (xma0 : Nat) (xma1 : Nat) (xma2 : Nat) (xma3 : Nat) (xma4 : Nat) (xma5 : Nat) (xma6 : Nat) (xma7 : Nat) (xma8 : Nat) (xma9 : Nat) (xma10 : Nat) (xma11 : Nat) (xma12 : Nat) : Int32 := if n < 1 then (-1) else (if 10 < n then (-1) else (if d0 < 0 then (-1) else (if 999 < d0 then (-1) else 0)))
set_option maxHeartbeats 4000000 in
set_option maxRecDepth 100000 in
theorem c_X11_grant (l : Launch) (g : GG) (x0 : Nat) (n : Int32) (d0 : Int32) (xr : Nat) (xt : Nat) (xg : Nat) (xb : Nat) (xp : Nat) (xu : Nat) (xm : Nat) (xd : Nat) (xw : Nat) (xh : Nat) (xa : Nat) (xs : Nat) (xf : Nat) (xma0 : Nat) (xma1 : Nat) (xma2 : Nat) (xma3 : Nat) (xma4 : Nat) (xma5 : Nat) (xma6 : Nat) (xma7 : Nat) (xma8 : Nat) (xma9 : Nat) (xma10 : Nat) (xma11 : Nat) (xma12 : Nat) : MI l g yX11_grant cX11_grant 4 (some .int) 1 24 0 0 [(x0, .inr (11, [.ref xr, .ref xt, .ref xg, .ref xb, .ref xp, .ref xu, .ref xm, .ref xd, .ref xw, .ref xh, .ref xa, .ref xs, .ref xf, .int 0, .int 0, .long 0, .long 0, .int 0])), (xm, .inr (4, [.ref xma0, .ref xma1, .ref xma2, .ref xma3, .ref xma4, .ref xma5, .ref xma6, .ref xma7, .ref xma8, .ref xma9, .ref xma10, .ref xma11, .ref xma12, .int 0])), (xma0, .inl (cI g, 24, .inl (fun _ => 0))), (xma1, .inl (cI g, 24, .inl (fun _ => 0))), (xma2, .inl (cI g, 24, .inl (fun _ => 0))), (xma7, .inl (cI g, 24, .inl (fun _ => 0))), (xma8, .inl (cI g, 24, .inl (fun _ => 0))), (xma10, .inl (cI g, 24, .inl (fun _ => 0)))] [.ref x0, .int n, .int d0] (fun rr_ _ => rr_ = sp_X11_grant g x0 n d0 xr xt xg xb xp xu xm xd xw xh xa xs xf xma0 xma1 xma2 xma3 xma4 xma5 xma6 xma7 xma8 xma9 xma10 xma11 xma12) := by
  refine met_of (fun A => va_Qi _ (bW g A) A) (by decide) (Nat.le_of_ble_eq_true rfl) ?_
  intro p e s m below meth c A ls X hK hP hD hA hZ hS hl
  have hx := X.1
  have hb := X.2.1
  have hml := X.2.2.1
  have hown := X.2.2.2.1
  have hts := X.2.2.2.2.1
  have hnm := X.2.2.2.2.2.2.2
  have hl : lv_has ls 4 [(0, .ref x0), (1, .int n), (2, .int d0)] := hl
  refine lv_iload_n hx hb dX11_grant_0 rfl (lv_at hl 1 rfl) ?_
  refine lv_iconst (v := 1) hx hb dX11_grant_1 (by decide) ?_
  refine lv_icmp_lt (tgt := 18) hx hb dX11_grant_2 (by decide) (fun c_1 => ?_) (fun c_1 => ?_)
  ·
    refine lv_iconst (v := (-1)) hx hb dX11_grant_18 (by decide) ?_
    exact rI X hK hP hD hS dX11_grant_19 (by rfl) (Nat.le_of_ble_eq_true rfl) (Nat.le_of_ble_eq_true rfl) (by show _ = _; unfold sp_X11_grant; rw [if_pos c_1]; try rfl)
  ·
    refine lv_iload_n hx hb dX11_grant_5 rfl (lv_at hl 1 rfl) ?_
    refine lv_bipush (v := 10) hx hb dX11_grant_6 (by decide) ?_
    refine lv_icmp_gt (tgt := 18) hx hb dX11_grant_8 (by decide) (fun c_2 => ?_) (fun c_2 => ?_)
    ·
      refine lv_iconst (v := (-1)) hx hb dX11_grant_18 (by decide) ?_
      exact rI X hK hP hD hS dX11_grant_19 (by rfl) (Nat.le_of_ble_eq_true rfl) (Nat.le_of_ble_eq_true rfl) (by show _ = _; unfold sp_X11_grant; rw [if_neg c_1, if_pos c_2]; try rfl)
    ·
      refine lv_iload_n hx hb dX11_grant_11 rfl (lv_at hl 2 rfl) ?_
      refine kSi (As := [.int d0]) (rest := []) (wr := [(x0, .inr (11, [.ref xr, .ref xt, .ref xg, .ref xb, .ref xp, .ref xu, .ref xm, .ref xd, .ref xw, .ref xh, .ref xa, .ref xs, .ref xf, .int 0, .int 0, .long 0, .long 0, .int 0])), (xm, .inr (4, [.ref xma0, .ref xma1, .ref xma2, .ref xma3, .ref xma4, .ref xma5, .ref xma6, .ref xma7, .ref xma8, .ref xma9, .ref xma10, .ref xma11, .ref xma12, .int 0])), (xma0, .inl (cI g, 24, .inl (fun _ => 0))), (xma1, .inl (cI g, 24, .inl (fun _ => 0))), (xma2, .inl (cI g, 24, .inl (fun _ => 0))), (xma7, .inl (cI g, 24, .inl (fun _ => 0))), (xma8, .inl (cI g, 24, .inl (fun _ => 0))), (xma10, .inl (cI g, 24, .inl (fun _ => 0)))]) X (c_X11_isDay l g d0) ok_X11_isDay q_685 q_684 rfl hK hP hD hS hA hZ hl.1 [] [0, 1, 2, 3, 4, 5, 6, 7] rfl rfl rfl rfl rfl rfl (Nat.le_of_ble_eq_true rfl) ⟨Nat.le_of_ble_eq_true rfl, Nat.le_of_ble_eq_true rfl⟩ dX11_grant_12 ⟨Nat.le_of_ble_eq_true rfl, Nat.le_of_ble_eq_true rfl⟩ (fun r_3 w1 H locs hw_4 hP hD hS => ?_)
      rw [sp_X11_isDay] at hw_4
      rcases Classical.em (d0 < 0) with c_5 | c_5
      ·
        rw [if_pos c_5] at hw_4
        obtain ⟨e1, e2⟩ := Prod.mk.inj hw_4
        subst e1; subst e2
        have hP : va_P g.1 classes [(x0, .inr (11, [.ref xr, .ref xt, .ref xg, .ref xb, .ref xp, .ref xu, .ref xm, .ref xd, .ref xw, .ref xh, .ref xa, .ref xs, .ref xf, .int 0, .int 0, .long 0, .long 0, .int 0])), (xm, .inr (4, [.ref xma0, .ref xma1, .ref xma2, .ref xma3, .ref xma4, .ref xma5, .ref xma6, .ref xma7, .ref xma8, .ref xma9, .ref xma10, .ref xma11, .ref xma12, .int 0])), (xma0, .inl (cI g, 24, .inl (fun _ => 0))), (xma1, .inl (cI g, 24, .inl (fun _ => 0))), (xma2, .inl (cI g, 24, .inl (fun _ => 0))), (xma7, .inl (cI g, 24, .inl (fun _ => 0))), (xma8, .inl (cI g, 24, .inl (fun _ => 0))), (xma10, .inl (cI g, 24, .inl (fun _ => 0)))] H := hP
        have hD : va_D A [(x0, .inr (11, [.ref xr, .ref xt, .ref xg, .ref xb, .ref xp, .ref xu, .ref xm, .ref xd, .ref xw, .ref xh, .ref xa, .ref xs, .ref xf, .int 0, .int 0, .long 0, .long 0, .int 0])), (xm, .inr (4, [.ref xma0, .ref xma1, .ref xma2, .ref xma3, .ref xma4, .ref xma5, .ref xma6, .ref xma7, .ref xma8, .ref xma9, .ref xma10, .ref xma11, .ref xma12, .int 0])), (xma0, .inl (cI g, 24, .inl (fun _ => 0))), (xma1, .inl (cI g, 24, .inl (fun _ => 0))), (xma2, .inl (cI g, 24, .inl (fun _ => 0))), (xma7, .inl (cI g, 24, .inl (fun _ => 0))), (xma8, .inl (cI g, 24, .inl (fun _ => 0))), (xma10, .inl (cI g, 24, .inl (fun _ => 0)))] := hD
        refine lv_if_ne (tgt := 20) hx hb dX11_grant_15 (by decide) (fun c_6 => absurd (by decide) c_6) (fun _ => ?_)
        refine lv_iconst (v := (-1)) hx hb dX11_grant_18 (by decide) ?_
        exact rI X hK hP hD hS dX11_grant_19 (by rfl) (Nat.le_of_ble_eq_true rfl) (Nat.le_of_ble_eq_true rfl) (by show _ = _; unfold sp_X11_grant; rw [if_neg c_1, if_neg c_2, if_pos c_5]; try rfl)
      ·
        rw [if_neg c_5] at hw_4
        rcases Classical.em (999 < d0) with c_7 | c_7
        ·
          rw [if_pos c_7] at hw_4
          obtain ⟨e1, e2⟩ := Prod.mk.inj hw_4
          subst e1; subst e2
          have hP : va_P g.1 classes [(x0, .inr (11, [.ref xr, .ref xt, .ref xg, .ref xb, .ref xp, .ref xu, .ref xm, .ref xd, .ref xw, .ref xh, .ref xa, .ref xs, .ref xf, .int 0, .int 0, .long 0, .long 0, .int 0])), (xm, .inr (4, [.ref xma0, .ref xma1, .ref xma2, .ref xma3, .ref xma4, .ref xma5, .ref xma6, .ref xma7, .ref xma8, .ref xma9, .ref xma10, .ref xma11, .ref xma12, .int 0])), (xma0, .inl (cI g, 24, .inl (fun _ => 0))), (xma1, .inl (cI g, 24, .inl (fun _ => 0))), (xma2, .inl (cI g, 24, .inl (fun _ => 0))), (xma7, .inl (cI g, 24, .inl (fun _ => 0))), (xma8, .inl (cI g, 24, .inl (fun _ => 0))), (xma10, .inl (cI g, 24, .inl (fun _ => 0)))] H := hP
          have hD : va_D A [(x0, .inr (11, [.ref xr, .ref xt, .ref xg, .ref xb, .ref xp, .ref xu, .ref xm, .ref xd, .ref xw, .ref xh, .ref xa, .ref xs, .ref xf, .int 0, .int 0, .long 0, .long 0, .int 0])), (xm, .inr (4, [.ref xma0, .ref xma1, .ref xma2, .ref xma3, .ref xma4, .ref xma5, .ref xma6, .ref xma7, .ref xma8, .ref xma9, .ref xma10, .ref xma11, .ref xma12, .int 0])), (xma0, .inl (cI g, 24, .inl (fun _ => 0))), (xma1, .inl (cI g, 24, .inl (fun _ => 0))), (xma2, .inl (cI g, 24, .inl (fun _ => 0))), (xma7, .inl (cI g, 24, .inl (fun _ => 0))), (xma8, .inl (cI g, 24, .inl (fun _ => 0))), (xma10, .inl (cI g, 24, .inl (fun _ => 0)))] := hD
          refine lv_if_ne (tgt := 20) hx hb dX11_grant_15 (by decide) (fun c_8 => absurd (by decide) c_8) (fun _ => ?_)
          refine lv_iconst (v := (-1)) hx hb dX11_grant_18 (by decide) ?_
          exact rI X hK hP hD hS dX11_grant_19 (by rfl) (Nat.le_of_ble_eq_true rfl) (Nat.le_of_ble_eq_true rfl) (by show _ = _; unfold sp_X11_grant; rw [if_neg c_1, if_neg c_2, if_neg c_5, if_pos c_7]; try rfl)
        ·
          rw [if_neg c_7] at hw_4
          obtain ⟨e1, e2⟩ := Prod.mk.inj hw_4
          subst e1; subst e2
          have hP : va_P g.1 classes [(x0, .inr (11, [.ref xr, .ref xt, .ref xg, .ref xb, .ref xp, .ref xu, .ref xm, .ref xd, .ref xw, .ref xh, .ref xa, .ref xs, .ref xf, .int 0, .int 0, .long 0, .long 0, .int 0])), (xm, .inr (4, [.ref xma0, .ref xma1, .ref xma2, .ref xma3, .ref xma4, .ref xma5, .ref xma6, .ref xma7, .ref xma8, .ref xma9, .ref xma10, .ref xma11, .ref xma12, .int 0])), (xma0, .inl (cI g, 24, .inl (fun _ => 0))), (xma1, .inl (cI g, 24, .inl (fun _ => 0))), (xma2, .inl (cI g, 24, .inl (fun _ => 0))), (xma7, .inl (cI g, 24, .inl (fun _ => 0))), (xma8, .inl (cI g, 24, .inl (fun _ => 0))), (xma10, .inl (cI g, 24, .inl (fun _ => 0)))] H := hP
          have hD : va_D A [(x0, .inr (11, [.ref xr, .ref xt, .ref xg, .ref xb, .ref xp, .ref xu, .ref xm, .ref xd, .ref xw, .ref xh, .ref xa, .ref xs, .ref xf, .int 0, .int 0, .long 0, .long 0, .int 0])), (xm, .inr (4, [.ref xma0, .ref xma1, .ref xma2, .ref xma3, .ref xma4, .ref xma5, .ref xma6, .ref xma7, .ref xma8, .ref xma9, .ref xma10, .ref xma11, .ref xma12, .int 0])), (xma0, .inl (cI g, 24, .inl (fun _ => 0))), (xma1, .inl (cI g, 24, .inl (fun _ => 0))), (xma2, .inl (cI g, 24, .inl (fun _ => 0))), (xma7, .inl (cI g, 24, .inl (fun _ => 0))), (xma8, .inl (cI g, 24, .inl (fun _ => 0))), (xma10, .inl (cI g, 24, .inl (fun _ => 0)))] := hD
          refine lv_if_ne (tgt := 20) hx hb dX11_grant_15 (by decide) (fun _ => ?_) (fun c_9 => absurd c_9 (by decide))
          refine lv_aload_n hx hb dX11_grant_20 rfl (lv_at hl 0 rfl) ?_
          refine va_get (D := g.1) (ci := 11) (v := .ref xm) (C := RX11) (T := TX11) (N := 18) hx hb hts fw_X11 hown hK hP 0 rfl rfl 6 (by decide) (hts _ q_464) (fun _ h9 => h9) rfl dX11_grant_21 ?_
          refine kVi (As := []) (rest := []) (wr := [(x0, .inr (11, [.ref xr, .ref xt, .ref xg, .ref xb, .ref xp, .ref xu, .ref xm, .ref xd, .ref xw, .ref xh, .ref xa, .ref xs, .ref xf, .int 0, .int 0, .long 0, .long 0, .int 0])), (xma0, .inl (cI g, 24, .inl (fun _ => 0))), (xma1, .inl (cI g, 24, .inl (fun _ => 0))), (xma2, .inl (cI g, 24, .inl (fun _ => 0))), (xma7, .inl (cI g, 24, .inl (fun _ => 0))), (xma8, .inl (cI g, 24, .inl (fun _ => 0))), (xma10, .inl (cI g, 24, .inl (fun _ => 0)))]) X (c_X4_number l g xm xma0 xma1 xma2 xma3 xma4 xma5 xma6 xma7 xma8 xma9 xma10 xma11 xma12) ok_X4_number okv_X4_number q_790 rfl hK hP hD hS hA hZ hl.1 [1] [0, 2, 3, 4, 5, 6, 7] rfl rfl rfl rfl rfl 0 4 rfl rfl rfl (Nat.le_of_ble_eq_true rfl) ⟨Nat.le_of_ble_eq_true rfl, Nat.le_of_ble_eq_true rfl⟩ dX11_grant_24 ⟨Nat.le_of_ble_eq_true rfl, Nat.le_of_ble_eq_true rfl⟩ (fun r_10 w1 H locs hw_11 hP hD hS => ?_)
          rw [sp_X4_number] at hw_11
          obtain ⟨e1, e2⟩ := Prod.mk.inj hw_11
          subst e1; subst e2
          have hP : va_P g.1 classes [(x0, .inr (11, [.ref xr, .ref xt, .ref xg, .ref xb, .ref xp, .ref xu, .ref xm, .ref xd, .ref xw, .ref xh, .ref xa, .ref xs, .ref xf, .int 0, .int 0, .long 0, .long 0, .int 0])), (xma0, .inl (cI g, 24, .inl (fun _ => 0))), (xma1, .inl (cI g, 24, .inl (fun _ => 0))), (xma2, .inl (cI g, 24, .inl (fun _ => 0))), (xma7, .inl (cI g, 24, .inl (fun _ => 0))), (xma8, .inl (cI g, 24, .inl (fun _ => 0))), (xma10, .inl (cI g, 24, .inl (fun _ => 0))), (xm, .inr (4, [.ref xma0, .ref xma1, .ref xma2, .ref xma3, .ref xma4, .ref xma5, .ref xma6, .ref xma7, .ref xma8, .ref xma9, .ref xma10, .ref xma11, .ref xma12, .int 0]))] H := hP
          have hD : va_D A [(x0, .inr (11, [.ref xr, .ref xt, .ref xg, .ref xb, .ref xp, .ref xu, .ref xm, .ref xd, .ref xw, .ref xh, .ref xa, .ref xs, .ref xf, .int 0, .int 0, .long 0, .long 0, .int 0])), (xma0, .inl (cI g, 24, .inl (fun _ => 0))), (xma1, .inl (cI g, 24, .inl (fun _ => 0))), (xma2, .inl (cI g, 24, .inl (fun _ => 0))), (xma7, .inl (cI g, 24, .inl (fun _ => 0))), (xma8, .inl (cI g, 24, .inl (fun _ => 0))), (xma10, .inl (cI g, 24, .inl (fun _ => 0))), (xm, .inr (4, [.ref xma0, .ref xma1, .ref xma2, .ref xma3, .ref xma4, .ref xma5, .ref xma6, .ref xma7, .ref xma8, .ref xma9, .ref xma10, .ref xma11, .ref xma12, .int 0]))] := hD
          refine lv_bipush (v := 24) hx hb dX11_grant_27 (by decide) ?_
          refine lv_icmp_lt (tgt := 35) hx hb dX11_grant_29 (by decide) (fun _ => ?_) (fun c_12 => absurd (by decide) c_12)
          refine lv_aload_n hx hb dX11_grant_35 rfl (lv_at hl 0 rfl) ?_
          refine va_get (D := g.1) (ci := 11) (v := .ref xm) (C := RX11) (T := TX11) (N := 18) hx hb hts fw_X11 hown hK hP 0 rfl rfl 6 (by decide) (hts _ q_464) (fun _ h9 => h9) rfl dX11_grant_36 ?_
          refine lv_iconst (v := 5) hx hb dX11_grant_39 (by decide) ?_
          refine lv_aload_n hx hb dX11_grant_40 rfl (lv_at hl 0 rfl) ?_
          refine va_get (D := g.1) (ci := 11) (v := .int 0) (C := RX11) (T := TX11) (N := 18) hx hb hts fw_X11 hown hK hP 0 rfl rfl 13 (by decide) (hts _ q_471) (fun _ h9 => h9) rfl dX11_grant_41 ?_
          refine lv_bipush (v := (-9)) hx hb dX11_grant_44 (by decide) ?_
          refine kVi (As := [.int 5, .int 0, .int (-9)]) (rest := []) (wr := [(x0, .inr (11, [.ref xr, .ref xt, .ref xg, .ref xb, .ref xp, .ref xu, .ref xm, .ref xd, .ref xw, .ref xh, .ref xa, .ref xs, .ref xf, .int 0, .int 0, .long 0, .long 0, .int 0])), (xma8, .inl (cI g, 24, .inl (fun _ => 0))), (xma10, .inl (cI g, 24, .inl (fun _ => 0)))]) X (c_X4_add l g xm 5 0 (-9) xma0 xma1 xma2 xma3 xma4 xma5 xma6 xma7 xma8 xma9 xma10 xma11 xma12) ok_X4_add okv_X4_add q_869 rfl hK hP hD hS hA hZ hl.1 [7, 1, 2, 3, 4] [0, 5, 6] rfl rfl rfl rfl rfl 0 4 rfl rfl rfl (Nat.le_of_ble_eq_true rfl) ⟨Nat.le_of_ble_eq_true rfl, Nat.le_of_ble_eq_true rfl⟩ dX11_grant_46 ⟨Nat.le_of_ble_eq_true rfl, Nat.le_of_ble_eq_true rfl⟩ (fun r_13 w1 H locs hw_14 hP hD hS => ?_)
          rw [sp_X4_add] at hw_14
          obtain ⟨e1, e2⟩ := Prod.mk.inj hw_14
          subst e1; subst e2
          have hP : va_P g.1 classes [(x0, .inr (11, [.ref xr, .ref xt, .ref xg, .ref xb, .ref xp, .ref xu, .ref xm, .ref xd, .ref xw, .ref xh, .ref xa, .ref xs, .ref xf, .int 0, .int 0, .long 0, .long 0, .int 0])), (xma8, .inl (cI g, 24, .inl (fun _ => 0))), (xma10, .inl (cI g, 24, .inl (fun _ => 0))), (xm, .inr (4, [.ref xma0, .ref xma1, .ref xma2, .ref xma3, .ref xma4, .ref xma5, .ref xma6, .ref xma7, .ref xma8, .ref xma9, .ref xma10, .ref xma11, .ref xma12, .int 1])), (xma0, .inl (cI g, 24, .inl (upd (fun _ => 0) 0 5))), (xma1, .inl (cI g, 24, .inl (upd (fun _ => 0) 0 0))), (xma2, .inl (cI g, 24, .inl (upd (fun _ => 0) 0 (-9)))), (xma7, .inl (cI g, 24, .inl (upd (fun _ => 0) 0 (-9))))] H := hP
          have hD : va_D A [(x0, .inr (11, [.ref xr, .ref xt, .ref xg, .ref xb, .ref xp, .ref xu, .ref xm, .ref xd, .ref xw, .ref xh, .ref xa, .ref xs, .ref xf, .int 0, .int 0, .long 0, .long 0, .int 0])), (xma8, .inl (cI g, 24, .inl (fun _ => 0))), (xma10, .inl (cI g, 24, .inl (fun _ => 0))), (xm, .inr (4, [.ref xma0, .ref xma1, .ref xma2, .ref xma3, .ref xma4, .ref xma5, .ref xma6, .ref xma7, .ref xma8, .ref xma9, .ref xma10, .ref xma11, .ref xma12, .int 1])), (xma0, .inl (cI g, 24, .inl (upd (fun _ => 0) 0 5))), (xma1, .inl (cI g, 24, .inl (upd (fun _ => 0) 0 0))), (xma2, .inl (cI g, 24, .inl (upd (fun _ => 0) 0 (-9)))), (xma7, .inl (cI g, 24, .inl (upd (fun _ => 0) 0 (-9))))] := hD
          refine lv_istore_n (lv' := [(3, .int 0), (0, .ref x0), (1, .int n), (2, .int d0)]) hx hb dX11_grant_49 rfl hl (by decide) rfl (fun ls hl => ?_)
          refine lv_aload_n hx hb dX11_grant_50 rfl (lv_at hl 1 rfl) ?_
          refine va_get (D := g.1) (ci := 11) (v := .ref xm) (C := RX11) (T := TX11) (N := 18) hx hb hts fw_X11 hown hK hP 0 rfl rfl 6 (by decide) (hts _ q_464) (fun _ h9 => h9) rfl dX11_grant_51 ?_
          refine lv_iload_n hx hb dX11_grant_54 rfl (lv_at hl 0 rfl) ?_
          refine lv_iload_n hx hb dX11_grant_55 rfl (lv_at hl 2 rfl) ?_
          refine lv_iload_n hx hb dX11_grant_56 rfl (lv_at hl 3 rfl) ?_
          refine kVv (As := [.int 0, .int n, .int d0]) (rest := []) (wr := [(x0, .inr (11, [.ref xr, .ref xt, .ref xg, .ref xb, .ref xp, .ref xu, .ref xm, .ref xd, .ref xw, .ref xh, .ref xa, .ref xs, .ref xf, .int 0, .int 0, .long 0, .long 0, .int 0])), (xma0, .inl (cI g, 24, .inl (upd (fun _ => 0) 0 5))), (xma1, .inl (cI g, 24, .inl (upd (fun _ => 0) 0 0))), (xma2, .inl (cI g, 24, .inl (upd (fun _ => 0) 0 (-9)))), (xma7, .inl (cI g, 24, .inl (upd (fun _ => 0) 0 (-9))))]) X (c_X4_setGrant l g xm n d0 xma0 xma1 xma2 xma3 xma4 xma5 xma6 xma7 xma8 xma9 xma10 xma11 xma12 (fun _ => 0) (fun _ => 0)) ok_X4_setGrant okv_X4_setGrant q_999 rfl hK hP hD hS hA hZ hl.1 [3, 1, 2] [0, 4, 5, 6, 7] rfl rfl rfl rfl rfl 0 4 rfl rfl rfl (Nat.le_of_ble_eq_true rfl) ⟨Nat.le_of_ble_eq_true rfl, Nat.le_of_ble_eq_true rfl⟩ dX11_grant_57 ⟨Nat.le_of_ble_eq_true rfl, Nat.le_of_ble_eq_true rfl⟩ (fun w1 H locs hw_16 hP hD hS => ?_)
          rw [sp_X4_setGrant] at hw_16
          subst hw_16
          have hP : va_P g.1 classes [(x0, .inr (11, [.ref xr, .ref xt, .ref xg, .ref xb, .ref xp, .ref xu, .ref xm, .ref xd, .ref xw, .ref xh, .ref xa, .ref xs, .ref xf, .int 0, .int 0, .long 0, .long 0, .int 0])), (xma0, .inl (cI g, 24, .inl (upd (fun _ => 0) 0 5))), (xma1, .inl (cI g, 24, .inl (upd (fun _ => 0) 0 0))), (xma2, .inl (cI g, 24, .inl (upd (fun _ => 0) 0 (-9)))), (xma7, .inl (cI g, 24, .inl (upd (fun _ => 0) 0 (-9)))), (xm, .inr (4, [.ref xma0, .ref xma1, .ref xma2, .ref xma3, .ref xma4, .ref xma5, .ref xma6, .ref xma7, .ref xma8, .ref xma9, .ref xma10, .ref xma11, .ref xma12, .int 1])), (xma8, .inl (cI g, 24, .inl (upd (fun _ => 0) 0 n))), (xma10, .inl (cI g, 24, .inl (upd (fun _ => 0) 0 d0)))] H := hP
          have hD : va_D A [(x0, .inr (11, [.ref xr, .ref xt, .ref xg, .ref xb, .ref xp, .ref xu, .ref xm, .ref xd, .ref xw, .ref xh, .ref xa, .ref xs, .ref xf, .int 0, .int 0, .long 0, .long 0, .int 0])), (xma0, .inl (cI g, 24, .inl (upd (fun _ => 0) 0 5))), (xma1, .inl (cI g, 24, .inl (upd (fun _ => 0) 0 0))), (xma2, .inl (cI g, 24, .inl (upd (fun _ => 0) 0 (-9)))), (xma7, .inl (cI g, 24, .inl (upd (fun _ => 0) 0 (-9)))), (xm, .inr (4, [.ref xma0, .ref xma1, .ref xma2, .ref xma3, .ref xma4, .ref xma5, .ref xma6, .ref xma7, .ref xma8, .ref xma9, .ref xma10, .ref xma11, .ref xma12, .int 1])), (xma8, .inl (cI g, 24, .inl (upd (fun _ => 0) 0 n))), (xma10, .inl (cI g, 24, .inl (upd (fun _ => 0) 0 d0)))] := hD
          refine lv_iload_n hx hb dX11_grant_60 rfl (lv_at hl 0 rfl) ?_
          exact rI X hK hP hD hS dX11_grant_61 (by rfl) (Nat.le_of_ble_eq_true rfl) (Nat.le_of_ble_eq_true rfl) (by show _ = _; unfold sp_X11_grant; rw [if_neg c_1, if_neg c_2, if_neg c_5, if_neg c_7]; try rfl)
def sp_X11_owed (g : GG) (x0 : Nat) (xr : Nat) (xt : Nat) (xg : Nat) (xb : Nat) (xp : Nat) (xu : Nat) (xm : Nat) (xd : Nat) (xw : Nat) (xh : Nat) (xa : Nat) (xs : Nat) (xf : Nat) (xma0 : Nat) (xma1 : Nat) (xma2 : Nat) (xma3 : Nat) (xma4 : Nat) (xma5 : Nat) (xma6 : Nat) (xma7 : Nat) (xma8 : Nat) (xma9 : Nat) (xma10 : Nat) (xma11 : Nat) (xma12 : Nat) : Int32 := 0
set_option maxHeartbeats 4000000 in
set_option maxRecDepth 100000 in
theorem c_X11_owed (l : Launch) (g : GG) (x0 : Nat) (xr : Nat) (xt : Nat) (xg : Nat) (xb : Nat) (xp : Nat) (xu : Nat) (xm : Nat) (xd : Nat) (xw : Nat) (xh : Nat) (xa : Nat) (xs : Nat) (xf : Nat) (xma0 : Nat) (xma1 : Nat) (xma2 : Nat) (xma3 : Nat) (xma4 : Nat) (xma5 : Nat) (xma6 : Nat) (xma7 : Nat) (xma8 : Nat) (xma9 : Nat) (xma10 : Nat) (xma11 : Nat) (xma12 : Nat) : MI l g yX11_owed cX11_owed 5 (some .int) 1 20 0 0 [(x0, .inr (11, [.ref xr, .ref xt, .ref xg, .ref xb, .ref xp, .ref xu, .ref xm, .ref xd, .ref xw, .ref xh, .ref xa, .ref xs, .ref xf, .int 0, .int 0, .long 0, .long 0, .int 0])), (xm, .inr (4, [.ref xma0, .ref xma1, .ref xma2, .ref xma3, .ref xma4, .ref xma5, .ref xma6, .ref xma7, .ref xma8, .ref xma9, .ref xma10, .ref xma11, .ref xma12, .int 0]))] [.ref x0] (fun rr_ _ => rr_ = sp_X11_owed g x0 xr xt xg xb xp xu xm xd xw xh xa xs xf xma0 xma1 xma2 xma3 xma4 xma5 xma6 xma7 xma8 xma9 xma10 xma11 xma12) := by
  refine met_of (fun A => va_Qi _ (bW g A) A) (by decide) (Nat.le_of_ble_eq_true rfl) ?_
  intro p e s m below meth c A ls X hK hP hD hA hZ hS hl
  have hx := X.1
  have hb := X.2.1
  have hml := X.2.2.1
  have hown := X.2.2.2.1
  have hts := X.2.2.2.2.1
  have hnm := X.2.2.2.2.2.2.2
  have hl : lv_has ls 5 [(0, .ref x0)] := hl
  refine lv_lconst (v := 0) hx hb dX11_owed_0 (by decide) ?_
  refine lv_lstore_n (lv' := [(1, .long 0), (0, .ref x0)]) hx hb dX11_owed_1 rfl hl (by decide) rfl (fun ls hl => ?_)
  refine lv_iconst (v := 0) hx hb dX11_owed_2 (by decide) ?_
  refine lv_istore_n (lv' := [(3, .int 0), (1, .long 0), (0, .ref x0)]) hx hb dX11_owed_3 rfl hl (by decide) rfl (fun ls hl => ?_)
  refine lv_iconst (v := 0) hx hb dX11_owed_4 (by decide) ?_
  refine lv_istore (lv' := [(4, .int 0), (3, .int 0), (1, .long 0), (0, .ref x0)]) hx hb dX11_owed_5 hl (by decide) rfl (fun ls hl => ?_)
  refine lv_iload hx hb dX11_owed_7 (lv_at hl 0 rfl) ?_
  refine lv_aload_n hx hb dX11_owed_9 rfl (lv_at hl 3 rfl) ?_
  refine va_get (D := g.1) (ci := 11) (v := .ref xm) (C := RX11) (T := TX11) (N := 18) hx hb hts fw_X11 hown hK hP 0 rfl rfl 6 (by decide) (hts _ q_464) (fun _ h9 => h9) rfl dX11_owed_10 ?_
  refine kVi (As := []) (rest := [.int 0]) (wr := [(x0, .inr (11, [.ref xr, .ref xt, .ref xg, .ref xb, .ref xp, .ref xu, .ref xm, .ref xd, .ref xw, .ref xh, .ref xa, .ref xs, .ref xf, .int 0, .int 0, .long 0, .long 0, .int 0]))]) X (c_X4_number l g xm xma0 xma1 xma2 xma3 xma4 xma5 xma6 xma7 xma8 xma9 xma10 xma11 xma12) ok_X4_number okv_X4_number q_790 rfl hK hP hD hS hA hZ hl.1 [1] [0] rfl rfl rfl rfl rfl 0 4 rfl rfl rfl (Nat.le_of_ble_eq_true rfl) ⟨Nat.le_of_ble_eq_true rfl, Nat.le_of_ble_eq_true rfl⟩ dX11_owed_13 ⟨Nat.le_of_ble_eq_true rfl, Nat.le_of_ble_eq_true rfl⟩ (fun r_1 w1 H locs hw_2 hP hD hS => ?_)
  rw [sp_X4_number] at hw_2
  obtain ⟨e1, e2⟩ := Prod.mk.inj hw_2
  subst e1; subst e2
  have hP : va_P g.1 classes [(x0, .inr (11, [.ref xr, .ref xt, .ref xg, .ref xb, .ref xp, .ref xu, .ref xm, .ref xd, .ref xw, .ref xh, .ref xa, .ref xs, .ref xf, .int 0, .int 0, .long 0, .long 0, .int 0])), (xm, .inr (4, [.ref xma0, .ref xma1, .ref xma2, .ref xma3, .ref xma4, .ref xma5, .ref xma6, .ref xma7, .ref xma8, .ref xma9, .ref xma10, .ref xma11, .ref xma12, .int 0]))] H := hP
  have hD : va_D A [(x0, .inr (11, [.ref xr, .ref xt, .ref xg, .ref xb, .ref xp, .ref xu, .ref xm, .ref xd, .ref xw, .ref xh, .ref xa, .ref xs, .ref xf, .int 0, .int 0, .long 0, .long 0, .int 0])), (xm, .inr (4, [.ref xma0, .ref xma1, .ref xma2, .ref xma3, .ref xma4, .ref xma5, .ref xma6, .ref xma7, .ref xma8, .ref xma9, .ref xma10, .ref xma11, .ref xma12, .int 0]))] := hD
  refine lv_icmp_ge (tgt := 79) hx hb dX11_owed_16 (by decide) (fun _ => ?_) (fun c_3 => absurd (by decide) c_3)
  refine lv_aload_n hx hb dX11_owed_79 rfl (lv_at hl 3 rfl) ?_
  refine lv_lload_n hx hb dX11_owed_80 rfl (lv_at hl 2 rfl) ?_
  refine va_put (D := g.1) (ci := 11) (v := .long 0) (ty := .long) (C := RX11) (T := TX11) (N := 18) hx hb hts fw_X11 tyX11 tyX11_ok nmX11 hown hK hP hD hS 0 rfl rfl 15 (by decide) (hts _ q_473) (fun _ h9 => h9) rfl (by decide +kernel) rfl rfl (Nat.le_of_ble_eq_true rfl) dX11_owed_81 (fun H locs hP hD hS => ?_)
  have hP : va_P g.1 classes [(x0, .inr (11, [.ref xr, .ref xt, .ref xg, .ref xb, .ref xp, .ref xu, .ref xm, .ref xd, .ref xw, .ref xh, .ref xa, .ref xs, .ref xf, .int 0, .int 0, .long 0, .long 0, .int 0])), (xm, .inr (4, [.ref xma0, .ref xma1, .ref xma2, .ref xma3, .ref xma4, .ref xma5, .ref xma6, .ref xma7, .ref xma8, .ref xma9, .ref xma10, .ref xma11, .ref xma12, .int 0]))] H := hP
  have hD : va_D A [(x0, .inr (11, [.ref xr, .ref xt, .ref xg, .ref xb, .ref xp, .ref xu, .ref xm, .ref xd, .ref xw, .ref xh, .ref xa, .ref xs, .ref xf, .int 0, .int 0, .long 0, .long 0, .int 0])), (xm, .inr (4, [.ref xma0, .ref xma1, .ref xma2, .ref xma3, .ref xma4, .ref xma5, .ref xma6, .ref xma7, .ref xma8, .ref xma9, .ref xma10, .ref xma11, .ref xma12, .int 0]))] := hD
  refine lv_iload_n hx hb dX11_owed_84 rfl (lv_at hl 1 rfl) ?_
  exact rI X hK hP hD hS dX11_owed_85 (by rfl) (Nat.le_of_ble_eq_true rfl) (Nat.le_of_ble_eq_true rfl) (by show _ = _; unfold sp_X11_owed; try rfl)
def sp_X11_acts (g : GG) (x0 : Nat) (r : Int32) (xr : Nat) (xt : Nat) (xg : Nat) (xb : Nat) (xp : Nat) (xu : Nat) (xm : Nat) (xd : Nat) (xw : Nat) (xh : Nat) (xa : Nat) (xs : Nat) (xf : Nat) (xrs : Nat) (xrp : Nat) : Int32 := if r < 0 then (-1) else (if 6 ≤ r then (-1) else (-3))
set_option maxHeartbeats 4000000 in
set_option maxRecDepth 100000 in
theorem c_X11_acts (l : Launch) (g : GG) (x0 : Nat) (r : Int32) (xr : Nat) (xt : Nat) (xg : Nat) (xb : Nat) (xp : Nat) (xu : Nat) (xm : Nat) (xd : Nat) (xw : Nat) (xh : Nat) (xa : Nat) (xs : Nat) (xf : Nat) (xrs : Nat) (xrp : Nat) : MI l g yX11_acts cX11_acts 3 (some .int) 1 21 0 0 [(x0, .inr (11, [.ref xr, .ref xt, .ref xg, .ref xb, .ref xp, .ref xu, .ref xm, .ref xd, .ref xw, .ref xh, .ref xa, .ref xs, .ref xf, .int 0, .int 0, .long 0, .long 0, .int 0])), (xr, .inr (8, [.int 6, .int 0, .ref xrs, .ref xrp])), (xrs, .inl (cI g, 6, .inl (fun _ => (-1)))), (xf, .inl (cI g, 6, .inl (fun _ => 0)))] [.ref x0, .int r] (fun rr_ _ => rr_ = sp_X11_acts g x0 r xr xt xg xb xp xu xm xd xw xh xa xs xf xrs xrp) := by
  refine met_of (fun A => va_Qi _ (bW g A) A) (by decide) (Nat.le_of_ble_eq_true rfl) ?_
  intro p e s m below meth c A ls X hK hP hD hA hZ hS hl
  have hx := X.1
  have hb := X.2.1
  have hml := X.2.2.1
  have hown := X.2.2.2.1
  have hts := X.2.2.2.2.1
  have hnm := X.2.2.2.2.2.2.2
  have hl : lv_has ls 3 [(0, .ref x0), (1, .int r)] := hl
  refine lv_aload_n hx hb dX11_acts_0 rfl (lv_at hl 0 rfl) ?_
  refine va_get (D := g.1) (ci := 11) (v := .ref xr) (C := RX11) (T := TX11) (N := 18) hx hb hts fw_X11 hown hK hP 0 rfl rfl 0 (by decide) (hts _ q_458) (fun _ h9 => h9) rfl dX11_acts_1 ?_
  refine lv_iload_n hx hb dX11_acts_4 rfl (lv_at hl 1 rfl) ?_
  refine kVi (As := [.int r]) (rest := []) (wr := [(x0, .inr (11, [.ref xr, .ref xt, .ref xg, .ref xb, .ref xp, .ref xu, .ref xm, .ref xd, .ref xw, .ref xh, .ref xa, .ref xs, .ref xf, .int 0, .int 0, .long 0, .long 0, .int 0])), (xrs, .inl (cI g, 6, .inl (fun _ => (-1)))), (xf, .inl (cI g, 6, .inl (fun _ => 0)))]) X (c_X8_exists l g xr r 6 0 xrs xrp) ok_X8_exists okv_X8_exists q_517 rfl hK hP hD hS hA hZ hl.1 [1] [0, 2, 3] rfl rfl rfl rfl rfl 0 8 rfl rfl rfl (Nat.le_of_ble_eq_true rfl) ⟨Nat.le_of_ble_eq_true rfl, Nat.le_of_ble_eq_true rfl⟩ dX11_acts_5 ⟨Nat.le_of_ble_eq_true rfl, Nat.le_of_ble_eq_true rfl⟩ (fun r_1 w1 H locs hw_2 hP hD hS => ?_)
  rw [sp_X8_exists] at hw_2
  rcases Classical.em (r < 0) with c_3 | c_3
  ·
    rw [if_pos c_3] at hw_2
    obtain ⟨e1, e2⟩ := Prod.mk.inj hw_2
    subst e1; subst e2
    have hP : va_P g.1 classes [(x0, .inr (11, [.ref xr, .ref xt, .ref xg, .ref xb, .ref xp, .ref xu, .ref xm, .ref xd, .ref xw, .ref xh, .ref xa, .ref xs, .ref xf, .int 0, .int 0, .long 0, .long 0, .int 0])), (xrs, .inl (cI g, 6, .inl (fun _ => (-1)))), (xf, .inl (cI g, 6, .inl (fun _ => 0))), (xr, .inr (8, [.int 6, .int 0, .ref xrs, .ref xrp]))] H := hP
    have hD : va_D A [(x0, .inr (11, [.ref xr, .ref xt, .ref xg, .ref xb, .ref xp, .ref xu, .ref xm, .ref xd, .ref xw, .ref xh, .ref xa, .ref xs, .ref xf, .int 0, .int 0, .long 0, .long 0, .int 0])), (xrs, .inl (cI g, 6, .inl (fun _ => (-1)))), (xf, .inl (cI g, 6, .inl (fun _ => 0))), (xr, .inr (8, [.int 6, .int 0, .ref xrs, .ref xrp]))] := hD
    refine lv_if_ne (tgt := 13) hx hb dX11_acts_8 (by decide) (fun c_4 => absurd (by decide) c_4) (fun _ => ?_)
    refine lv_iconst (v := (-1)) hx hb dX11_acts_11 (by decide) ?_
    exact rI X hK hP hD hS dX11_acts_12 (by rfl) (Nat.le_of_ble_eq_true rfl) (Nat.le_of_ble_eq_true rfl) (by show _ = _; unfold sp_X11_acts; rw [if_pos c_3]; try rfl)
  ·
    rw [if_neg c_3] at hw_2
    rcases Classical.em (6 ≤ r) with c_5 | c_5
    ·
      rw [if_pos c_5] at hw_2
      obtain ⟨e1, e2⟩ := Prod.mk.inj hw_2
      subst e1; subst e2
      have hP : va_P g.1 classes [(x0, .inr (11, [.ref xr, .ref xt, .ref xg, .ref xb, .ref xp, .ref xu, .ref xm, .ref xd, .ref xw, .ref xh, .ref xa, .ref xs, .ref xf, .int 0, .int 0, .long 0, .long 0, .int 0])), (xrs, .inl (cI g, 6, .inl (fun _ => (-1)))), (xf, .inl (cI g, 6, .inl (fun _ => 0))), (xr, .inr (8, [.int 6, .int 0, .ref xrs, .ref xrp]))] H := hP
      have hD : va_D A [(x0, .inr (11, [.ref xr, .ref xt, .ref xg, .ref xb, .ref xp, .ref xu, .ref xm, .ref xd, .ref xw, .ref xh, .ref xa, .ref xs, .ref xf, .int 0, .int 0, .long 0, .long 0, .int 0])), (xrs, .inl (cI g, 6, .inl (fun _ => (-1)))), (xf, .inl (cI g, 6, .inl (fun _ => 0))), (xr, .inr (8, [.int 6, .int 0, .ref xrs, .ref xrp]))] := hD
      refine lv_if_ne (tgt := 13) hx hb dX11_acts_8 (by decide) (fun c_6 => absurd (by decide) c_6) (fun _ => ?_)
      refine lv_iconst (v := (-1)) hx hb dX11_acts_11 (by decide) ?_
      exact rI X hK hP hD hS dX11_acts_12 (by rfl) (Nat.le_of_ble_eq_true rfl) (Nat.le_of_ble_eq_true rfl) (by show _ = _; unfold sp_X11_acts; rw [if_neg c_3, if_pos c_5]; try rfl)
    ·
      rw [if_neg c_5] at hw_2
      obtain ⟨e1, e2⟩ := Prod.mk.inj hw_2
      subst e1; subst e2
      have hP : va_P g.1 classes [(x0, .inr (11, [.ref xr, .ref xt, .ref xg, .ref xb, .ref xp, .ref xu, .ref xm, .ref xd, .ref xw, .ref xh, .ref xa, .ref xs, .ref xf, .int 0, .int 0, .long 0, .long 0, .int 0])), (xrs, .inl (cI g, 6, .inl (fun _ => (-1)))), (xf, .inl (cI g, 6, .inl (fun _ => 0))), (xr, .inr (8, [.int 6, .int 0, .ref xrs, .ref xrp]))] H := hP
      have hD : va_D A [(x0, .inr (11, [.ref xr, .ref xt, .ref xg, .ref xb, .ref xp, .ref xu, .ref xm, .ref xd, .ref xw, .ref xh, .ref xa, .ref xs, .ref xf, .int 0, .int 0, .long 0, .long 0, .int 0])), (xrs, .inl (cI g, 6, .inl (fun _ => (-1)))), (xf, .inl (cI g, 6, .inl (fun _ => 0))), (xr, .inr (8, [.int 6, .int 0, .ref xrs, .ref xrp]))] := hD
      refine lv_if_ne (tgt := 13) hx hb dX11_acts_8 (by decide) (fun _ => ?_) (fun c_7 => absurd c_7 (by decide))
      refine lv_aload_n hx hb dX11_acts_13 rfl (lv_at hl 0 rfl) ?_
      refine va_get (D := g.1) (ci := 11) (v := .ref xr) (C := RX11) (T := TX11) (N := 18) hx hb hts fw_X11 hown hK hP 0 rfl rfl 0 (by decide) (hts _ q_458) (fun _ h9 => h9) rfl dX11_acts_14 ?_
      refine lv_iload_n hx hb dX11_acts_17 rfl (lv_at hl 1 rfl) ?_
      refine kVi (As := [.int r]) (rest := []) (wr := [(x0, .inr (11, [.ref xr, .ref xt, .ref xg, .ref xb, .ref xp, .ref xu, .ref xm, .ref xd, .ref xw, .ref xh, .ref xa, .ref xs, .ref xf, .int 0, .int 0, .long 0, .long 0, .int 0])), (xf, .inl (cI g, 6, .inl (fun _ => 0)))]) X (c_X8_isThere l g xr r 6 0 xrs xrp c_3 c_5) ok_X8_isThere okv_X8_isThere q_539 rfl hK hP hD hS hA hZ hl.1 [3, 1] [0, 2] rfl rfl rfl rfl rfl 0 8 rfl rfl rfl (Nat.le_of_ble_eq_true rfl) ⟨Nat.le_of_ble_eq_true rfl, Nat.le_of_ble_eq_true rfl⟩ dX11_acts_18 ⟨Nat.le_of_ble_eq_true rfl, Nat.le_of_ble_eq_true rfl⟩ (fun r_8 w1 H locs hw_9 hP hD hS => ?_)
      rw [sp_X8_isThere] at hw_9
      obtain ⟨e1, e2⟩ := Prod.mk.inj hw_9
      subst e1; subst e2
      have hP : va_P g.1 classes [(x0, .inr (11, [.ref xr, .ref xt, .ref xg, .ref xb, .ref xp, .ref xu, .ref xm, .ref xd, .ref xw, .ref xh, .ref xa, .ref xs, .ref xf, .int 0, .int 0, .long 0, .long 0, .int 0])), (xf, .inl (cI g, 6, .inl (fun _ => 0))), (xr, .inr (8, [.int 6, .int 0, .ref xrs, .ref xrp])), (xrs, .inl (cI g, 6, .inl (fun _ => (-1))))] H := hP
      have hD : va_D A [(x0, .inr (11, [.ref xr, .ref xt, .ref xg, .ref xb, .ref xp, .ref xu, .ref xm, .ref xd, .ref xw, .ref xh, .ref xa, .ref xs, .ref xf, .int 0, .int 0, .long 0, .long 0, .int 0])), (xf, .inl (cI g, 6, .inl (fun _ => 0))), (xr, .inr (8, [.int 6, .int 0, .ref xrs, .ref xrp])), (xrs, .inl (cI g, 6, .inl (fun _ => (-1))))] := hD
      refine lv_if_ne (tgt := 30) hx hb dX11_acts_21 (by decide) (fun c_10 => absurd (by decide) c_10) (fun _ => ?_)
      refine lv_aload_n hx hb dX11_acts_24 rfl (lv_at hl 0 rfl) ?_
      refine lv_iconst (v := 1) hx hb dX11_acts_25 (by decide) ?_
      refine kVi (As := [.int 1]) (rest := []) (wr := [(xr, .inr (8, [.int 6, .int 0, .ref xrs, .ref xrp])), (xrs, .inl (cI g, 6, .inl (fun _ => (-1))))]) X (c_X11_found1 l g x0 xr xt xg xb xp xu xm xd xw xh xa xs xf) ok_X11_found okv_X11_found q_521 rfl hK hP hD hS hA hZ hl.1 [0, 1] [2, 3] rfl rfl rfl rfl rfl 0 11 rfl rfl rfl (Nat.le_of_ble_eq_true rfl) ⟨Nat.le_of_ble_eq_true rfl, Nat.le_of_ble_eq_true rfl⟩ dX11_acts_26 ⟨Nat.le_of_ble_eq_true rfl, Nat.le_of_ble_eq_true rfl⟩ (fun r_11 w1 H locs hw_12 hP hD hS => ?_)
      rw [sp_X11_found1] at hw_12
      obtain ⟨e1, e2⟩ := Prod.mk.inj hw_12
      subst e1; subst e2
      have hP : va_P g.1 classes [(xr, .inr (8, [.int 6, .int 0, .ref xrs, .ref xrp])), (xrs, .inl (cI g, 6, .inl (fun _ => (-1)))), (x0, .inr (11, [.ref xr, .ref xt, .ref xg, .ref xb, .ref xp, .ref xu, .ref xm, .ref xd, .ref xw, .ref xh, .ref xa, .ref xs, .ref xf, .int 0, .int 0, .long 0, .long 0, .int 1])), (xf, .inl (cI g, 6, .inl (upd (fun _ => 0) 1 1)))] H := hP
      have hD : va_D A [(xr, .inr (8, [.int 6, .int 0, .ref xrs, .ref xrp])), (xrs, .inl (cI g, 6, .inl (fun _ => (-1)))), (x0, .inr (11, [.ref xr, .ref xt, .ref xg, .ref xb, .ref xp, .ref xu, .ref xm, .ref xd, .ref xw, .ref xh, .ref xa, .ref xs, .ref xf, .int 0, .int 0, .long 0, .long 0, .int 1])), (xf, .inl (cI g, 6, .inl (upd (fun _ => 0) 1 1)))] := hD
      exact rI X hK hP hD hS dX11_acts_29 (by rfl) (Nat.le_of_ble_eq_true rfl) (Nat.le_of_ble_eq_true rfl) (by show _ = _; unfold sp_X11_acts; rw [if_neg c_3, if_neg c_5]; try rfl)
def sp_X11_best (g : GG) (x0 : Nat) (r : Int32) (r2 : Int32) (xr : Nat) (xt : Nat) (xg : Nat) (xb : Nat) (xp : Nat) (xu : Nat) (xm : Nat) (xd : Nat) (xw : Nat) (xh : Nat) (xa : Nat) (xs : Nat) (xf : Nat) (xrs : Nat) (xrp : Nat) : Int32 := if r < 0 then (-1) else (if 6 ≤ r then (-1) else (if r2 < 0 then (-1) else (if 6 ≤ r2 then (-1) else (-3))))
set_option maxHeartbeats 4000000 in
set_option maxRecDepth 100000 in
theorem c_X11_best (l : Launch) (g : GG) (x0 : Nat) (r : Int32) (r2 : Int32) (xr : Nat) (xt : Nat) (xg : Nat) (xb : Nat) (xp : Nat) (xu : Nat) (xm : Nat) (xd : Nat) (xw : Nat) (xh : Nat) (xa : Nat) (xs : Nat) (xf : Nat) (xrs : Nat) (xrp : Nat) : MI l g yX11_best cX11_best 8 (some .int) 2 43 0 0 [(x0, .inr (11, [.ref xr, .ref xt, .ref xg, .ref xb, .ref xp, .ref xu, .ref xm, .ref xd, .ref xw, .ref xh, .ref xa, .ref xs, .ref xf, .int 0, .int 0, .long 0, .long 0, .int 0])), (xr, .inr (8, [.int 6, .int 0, .ref xrs, .ref xrp])), (xrs, .inl (cI g, 6, .inl (fun _ => (-1)))), (xf, .inl (cI g, 6, .inl (fun _ => 0)))] [.ref x0, .int r, .int r2] (fun rr_ _ => rr_ = sp_X11_best g x0 r r2 xr xt xg xb xp xu xm xd xw xh xa xs xf xrs xrp) := by
  refine met_of (fun A => va_Qi _ (bW g A) A) (by decide) (Nat.le_of_ble_eq_true rfl) ?_
  intro p e s m below meth c A ls X hK hP hD hA hZ hS hl
  have hx := X.1
  have hb := X.2.1
  have hml := X.2.2.1
  have hown := X.2.2.2.1
  have hts := X.2.2.2.2.1
  have hnm := X.2.2.2.2.2.2.2
  have hl : lv_has ls 8 [(0, .ref x0), (1, .int r), (2, .int r2)] := hl
  refine lv_aload_n hx hb dX11_best_0 rfl (lv_at hl 0 rfl) ?_
  refine va_get (D := g.1) (ci := 11) (v := .ref xr) (C := RX11) (T := TX11) (N := 18) hx hb hts fw_X11 hown hK hP 0 rfl rfl 0 (by decide) (hts _ q_458) (fun _ h9 => h9) rfl dX11_best_1 ?_
  refine lv_iload_n hx hb dX11_best_4 rfl (lv_at hl 1 rfl) ?_
  refine kVi (As := [.int r]) (rest := []) (wr := [(x0, .inr (11, [.ref xr, .ref xt, .ref xg, .ref xb, .ref xp, .ref xu, .ref xm, .ref xd, .ref xw, .ref xh, .ref xa, .ref xs, .ref xf, .int 0, .int 0, .long 0, .long 0, .int 0])), (xrs, .inl (cI g, 6, .inl (fun _ => (-1)))), (xf, .inl (cI g, 6, .inl (fun _ => 0)))]) X (c_X8_exists l g xr r 6 0 xrs xrp) ok_X8_exists okv_X8_exists q_517 rfl hK hP hD hS hA hZ hl.1 [1] [0, 2, 3] rfl rfl rfl rfl rfl 0 8 rfl rfl rfl (Nat.le_of_ble_eq_true rfl) ⟨Nat.le_of_ble_eq_true rfl, Nat.le_of_ble_eq_true rfl⟩ dX11_best_5 ⟨Nat.le_of_ble_eq_true rfl, Nat.le_of_ble_eq_true rfl⟩ (fun r_1 w1 H locs hw_2 hP hD hS => ?_)
  rw [sp_X8_exists] at hw_2
  rcases Classical.em (r < 0) with c_3 | c_3
  ·
    rw [if_pos c_3] at hw_2
    obtain ⟨e1, e2⟩ := Prod.mk.inj hw_2
    subst e1; subst e2
    have hP : va_P g.1 classes [(x0, .inr (11, [.ref xr, .ref xt, .ref xg, .ref xb, .ref xp, .ref xu, .ref xm, .ref xd, .ref xw, .ref xh, .ref xa, .ref xs, .ref xf, .int 0, .int 0, .long 0, .long 0, .int 0])), (xrs, .inl (cI g, 6, .inl (fun _ => (-1)))), (xf, .inl (cI g, 6, .inl (fun _ => 0))), (xr, .inr (8, [.int 6, .int 0, .ref xrs, .ref xrp]))] H := hP
    have hD : va_D A [(x0, .inr (11, [.ref xr, .ref xt, .ref xg, .ref xb, .ref xp, .ref xu, .ref xm, .ref xd, .ref xw, .ref xh, .ref xa, .ref xs, .ref xf, .int 0, .int 0, .long 0, .long 0, .int 0])), (xrs, .inl (cI g, 6, .inl (fun _ => (-1)))), (xf, .inl (cI g, 6, .inl (fun _ => 0))), (xr, .inr (8, [.int 6, .int 0, .ref xrs, .ref xrp]))] := hD
    refine lv_if_eq (tgt := 22) hx hb dX11_best_8 (by decide) (fun _ => ?_) (fun c_4 => absurd (by decide) c_4)
    refine lv_iconst (v := (-1)) hx hb dX11_best_22 (by decide) ?_
    exact rI X hK hP hD hS dX11_best_23 (by rfl) (Nat.le_of_ble_eq_true rfl) (Nat.le_of_ble_eq_true rfl) (by show _ = _; unfold sp_X11_best; rw [if_pos c_3]; try rfl)
  ·
    rw [if_neg c_3] at hw_2
    rcases Classical.em (6 ≤ r) with c_5 | c_5
    ·
      rw [if_pos c_5] at hw_2
      obtain ⟨e1, e2⟩ := Prod.mk.inj hw_2
      subst e1; subst e2
      have hP : va_P g.1 classes [(x0, .inr (11, [.ref xr, .ref xt, .ref xg, .ref xb, .ref xp, .ref xu, .ref xm, .ref xd, .ref xw, .ref xh, .ref xa, .ref xs, .ref xf, .int 0, .int 0, .long 0, .long 0, .int 0])), (xrs, .inl (cI g, 6, .inl (fun _ => (-1)))), (xf, .inl (cI g, 6, .inl (fun _ => 0))), (xr, .inr (8, [.int 6, .int 0, .ref xrs, .ref xrp]))] H := hP
      have hD : va_D A [(x0, .inr (11, [.ref xr, .ref xt, .ref xg, .ref xb, .ref xp, .ref xu, .ref xm, .ref xd, .ref xw, .ref xh, .ref xa, .ref xs, .ref xf, .int 0, .int 0, .long 0, .long 0, .int 0])), (xrs, .inl (cI g, 6, .inl (fun _ => (-1)))), (xf, .inl (cI g, 6, .inl (fun _ => 0))), (xr, .inr (8, [.int 6, .int 0, .ref xrs, .ref xrp]))] := hD
      refine lv_if_eq (tgt := 22) hx hb dX11_best_8 (by decide) (fun _ => ?_) (fun c_6 => absurd (by decide) c_6)
      refine lv_iconst (v := (-1)) hx hb dX11_best_22 (by decide) ?_
      exact rI X hK hP hD hS dX11_best_23 (by rfl) (Nat.le_of_ble_eq_true rfl) (Nat.le_of_ble_eq_true rfl) (by show _ = _; unfold sp_X11_best; rw [if_neg c_3, if_pos c_5]; try rfl)
    ·
      rw [if_neg c_5] at hw_2
      obtain ⟨e1, e2⟩ := Prod.mk.inj hw_2
      subst e1; subst e2
      have hP : va_P g.1 classes [(x0, .inr (11, [.ref xr, .ref xt, .ref xg, .ref xb, .ref xp, .ref xu, .ref xm, .ref xd, .ref xw, .ref xh, .ref xa, .ref xs, .ref xf, .int 0, .int 0, .long 0, .long 0, .int 0])), (xrs, .inl (cI g, 6, .inl (fun _ => (-1)))), (xf, .inl (cI g, 6, .inl (fun _ => 0))), (xr, .inr (8, [.int 6, .int 0, .ref xrs, .ref xrp]))] H := hP
      have hD : va_D A [(x0, .inr (11, [.ref xr, .ref xt, .ref xg, .ref xb, .ref xp, .ref xu, .ref xm, .ref xd, .ref xw, .ref xh, .ref xa, .ref xs, .ref xf, .int 0, .int 0, .long 0, .long 0, .int 0])), (xrs, .inl (cI g, 6, .inl (fun _ => (-1)))), (xf, .inl (cI g, 6, .inl (fun _ => 0))), (xr, .inr (8, [.int 6, .int 0, .ref xrs, .ref xrp]))] := hD
      refine lv_if_eq (tgt := 22) hx hb dX11_best_8 (by decide) (fun c_7 => absurd c_7 (by decide)) (fun _ => ?_)
      refine lv_aload_n hx hb dX11_best_11 rfl (lv_at hl 0 rfl) ?_
      refine va_get (D := g.1) (ci := 11) (v := .ref xr) (C := RX11) (T := TX11) (N := 18) hx hb hts fw_X11 hown hK hP 0 rfl rfl 0 (by decide) (hts _ q_458) (fun _ h9 => h9) rfl dX11_best_12 ?_
      refine lv_iload_n hx hb dX11_best_15 rfl (lv_at hl 2 rfl) ?_
      refine kVi (As := [.int r2]) (rest := []) (wr := [(x0, .inr (11, [.ref xr, .ref xt, .ref xg, .ref xb, .ref xp, .ref xu, .ref xm, .ref xd, .ref xw, .ref xh, .ref xa, .ref xs, .ref xf, .int 0, .int 0, .long 0, .long 0, .int 0])), (xrs, .inl (cI g, 6, .inl (fun _ => (-1)))), (xf, .inl (cI g, 6, .inl (fun _ => 0)))]) X (c_X8_exists l g xr r2 6 0 xrs xrp) ok_X8_exists okv_X8_exists q_517 rfl hK hP hD hS hA hZ hl.1 [3] [0, 1, 2] rfl rfl rfl rfl rfl 0 8 rfl rfl rfl (Nat.le_of_ble_eq_true rfl) ⟨Nat.le_of_ble_eq_true rfl, Nat.le_of_ble_eq_true rfl⟩ dX11_best_16 ⟨Nat.le_of_ble_eq_true rfl, Nat.le_of_ble_eq_true rfl⟩ (fun r_8 w1 H locs hw_9 hP hD hS => ?_)
      rw [sp_X8_exists] at hw_9
      rcases Classical.em (r2 < 0) with c_10 | c_10
      ·
        rw [if_pos c_10] at hw_9
        obtain ⟨e1, e2⟩ := Prod.mk.inj hw_9
        subst e1; subst e2
        have hP : va_P g.1 classes [(x0, .inr (11, [.ref xr, .ref xt, .ref xg, .ref xb, .ref xp, .ref xu, .ref xm, .ref xd, .ref xw, .ref xh, .ref xa, .ref xs, .ref xf, .int 0, .int 0, .long 0, .long 0, .int 0])), (xrs, .inl (cI g, 6, .inl (fun _ => (-1)))), (xf, .inl (cI g, 6, .inl (fun _ => 0))), (xr, .inr (8, [.int 6, .int 0, .ref xrs, .ref xrp]))] H := hP
        have hD : va_D A [(x0, .inr (11, [.ref xr, .ref xt, .ref xg, .ref xb, .ref xp, .ref xu, .ref xm, .ref xd, .ref xw, .ref xh, .ref xa, .ref xs, .ref xf, .int 0, .int 0, .long 0, .long 0, .int 0])), (xrs, .inl (cI g, 6, .inl (fun _ => (-1)))), (xf, .inl (cI g, 6, .inl (fun _ => 0))), (xr, .inr (8, [.int 6, .int 0, .ref xrs, .ref xrp]))] := hD
        refine lv_if_ne (tgt := 24) hx hb dX11_best_19 (by decide) (fun c_11 => absurd (by decide) c_11) (fun _ => ?_)
        refine lv_iconst (v := (-1)) hx hb dX11_best_22 (by decide) ?_
        exact rI X hK hP hD hS dX11_best_23 (by rfl) (Nat.le_of_ble_eq_true rfl) (Nat.le_of_ble_eq_true rfl) (by show _ = _; unfold sp_X11_best; rw [if_neg c_3, if_neg c_5, if_pos c_10]; try rfl)
      ·
        rw [if_neg c_10] at hw_9
        rcases Classical.em (6 ≤ r2) with c_12 | c_12
        ·
          rw [if_pos c_12] at hw_9
          obtain ⟨e1, e2⟩ := Prod.mk.inj hw_9
          subst e1; subst e2
          have hP : va_P g.1 classes [(x0, .inr (11, [.ref xr, .ref xt, .ref xg, .ref xb, .ref xp, .ref xu, .ref xm, .ref xd, .ref xw, .ref xh, .ref xa, .ref xs, .ref xf, .int 0, .int 0, .long 0, .long 0, .int 0])), (xrs, .inl (cI g, 6, .inl (fun _ => (-1)))), (xf, .inl (cI g, 6, .inl (fun _ => 0))), (xr, .inr (8, [.int 6, .int 0, .ref xrs, .ref xrp]))] H := hP
          have hD : va_D A [(x0, .inr (11, [.ref xr, .ref xt, .ref xg, .ref xb, .ref xp, .ref xu, .ref xm, .ref xd, .ref xw, .ref xh, .ref xa, .ref xs, .ref xf, .int 0, .int 0, .long 0, .long 0, .int 0])), (xrs, .inl (cI g, 6, .inl (fun _ => (-1)))), (xf, .inl (cI g, 6, .inl (fun _ => 0))), (xr, .inr (8, [.int 6, .int 0, .ref xrs, .ref xrp]))] := hD
          refine lv_if_ne (tgt := 24) hx hb dX11_best_19 (by decide) (fun c_13 => absurd (by decide) c_13) (fun _ => ?_)
          refine lv_iconst (v := (-1)) hx hb dX11_best_22 (by decide) ?_
          exact rI X hK hP hD hS dX11_best_23 (by rfl) (Nat.le_of_ble_eq_true rfl) (Nat.le_of_ble_eq_true rfl) (by show _ = _; unfold sp_X11_best; rw [if_neg c_3, if_neg c_5, if_neg c_10, if_pos c_12]; try rfl)
        ·
          rw [if_neg c_12] at hw_9
          obtain ⟨e1, e2⟩ := Prod.mk.inj hw_9
          subst e1; subst e2
          have hP : va_P g.1 classes [(x0, .inr (11, [.ref xr, .ref xt, .ref xg, .ref xb, .ref xp, .ref xu, .ref xm, .ref xd, .ref xw, .ref xh, .ref xa, .ref xs, .ref xf, .int 0, .int 0, .long 0, .long 0, .int 0])), (xrs, .inl (cI g, 6, .inl (fun _ => (-1)))), (xf, .inl (cI g, 6, .inl (fun _ => 0))), (xr, .inr (8, [.int 6, .int 0, .ref xrs, .ref xrp]))] H := hP
          have hD : va_D A [(x0, .inr (11, [.ref xr, .ref xt, .ref xg, .ref xb, .ref xp, .ref xu, .ref xm, .ref xd, .ref xw, .ref xh, .ref xa, .ref xs, .ref xf, .int 0, .int 0, .long 0, .long 0, .int 0])), (xrs, .inl (cI g, 6, .inl (fun _ => (-1)))), (xf, .inl (cI g, 6, .inl (fun _ => 0))), (xr, .inr (8, [.int 6, .int 0, .ref xrs, .ref xrp]))] := hD
          refine lv_if_ne (tgt := 24) hx hb dX11_best_19 (by decide) (fun _ => ?_) (fun c_14 => absurd c_14 (by decide))
          refine lv_aload_n hx hb dX11_best_24 rfl (lv_at hl 0 rfl) ?_
          refine lv_iload_n hx hb dX11_best_25 rfl (lv_at hl 1 rfl) ?_
          refine lv_iload_n hx hb dX11_best_26 rfl (lv_at hl 2 rfl) ?_
          refine kVi (As := [.int r, .int r2]) (rest := []) (wr := [(xf, .inl (cI g, 6, .inl (fun _ => 0)))]) X (c_X11_weighingFault l g x0 r r2 xr xt xg xb xp xu xm xd xw xh xa xs xf xrs xrp c_3 c_5 c_10 c_12) ok_X11_weighingFault okv_X11_weighingFault q_1373 rfl hK hP hD hS hA hZ hl.1 [0, 3, 1] [2] rfl rfl rfl rfl rfl 0 11 rfl rfl rfl (Nat.le_of_ble_eq_true rfl) ⟨Nat.le_of_ble_eq_true rfl, Nat.le_of_ble_eq_true rfl⟩ dX11_best_27 ⟨Nat.le_of_ble_eq_true rfl, Nat.le_of_ble_eq_true rfl⟩ (fun r_15 w1 H locs hw_16 hP hD hS => ?_)
          rw [sp_X11_weighingFault] at hw_16
          obtain ⟨e1, e2⟩ := Prod.mk.inj hw_16
          subst e1; subst e2
          have hP : va_P g.1 classes [(xf, .inl (cI g, 6, .inl (fun _ => 0))), (x0, .inr (11, [.ref xr, .ref xt, .ref xg, .ref xb, .ref xp, .ref xu, .ref xm, .ref xd, .ref xw, .ref xh, .ref xa, .ref xs, .ref xf, .int 0, .int 0, .long 0, .long 0, .int 0])), (xr, .inr (8, [.int 6, .int 0, .ref xrs, .ref xrp])), (xrs, .inl (cI g, 6, .inl (fun _ => (-1))))] H := hP
          have hD : va_D A [(xf, .inl (cI g, 6, .inl (fun _ => 0))), (x0, .inr (11, [.ref xr, .ref xt, .ref xg, .ref xb, .ref xp, .ref xu, .ref xm, .ref xd, .ref xw, .ref xh, .ref xa, .ref xs, .ref xf, .int 0, .int 0, .long 0, .long 0, .int 0])), (xr, .inr (8, [.int 6, .int 0, .ref xrs, .ref xrp])), (xrs, .inl (cI g, 6, .inl (fun _ => (-1))))] := hD
          refine lv_istore_n (lv' := [(3, .int 1), (0, .ref x0), (1, .int r), (2, .int r2)]) hx hb dX11_best_30 rfl hl (by decide) rfl (fun ls hl => ?_)
          refine lv_iload_n hx hb dX11_best_31 rfl (lv_at hl 0 rfl) ?_
          refine lv_if_eq (tgt := 41) hx hb dX11_best_32 (by decide) (fun c_17 => absurd c_17 (by decide)) (fun _ => ?_)
          refine lv_aload_n hx hb dX11_best_35 rfl (lv_at hl 1 rfl) ?_
          refine lv_iload_n hx hb dX11_best_36 rfl (lv_at hl 0 rfl) ?_
          refine kVi (As := [.int 1]) (rest := []) (wr := [(xr, .inr (8, [.int 6, .int 0, .ref xrs, .ref xrp])), (xrs, .inl (cI g, 6, .inl (fun _ => (-1))))]) X (c_X11_found1 l g x0 xr xt xg xb xp xu xm xd xw xh xa xs xf) ok_X11_found okv_X11_found q_521 rfl hK hP hD hS hA hZ hl.1 [1, 0] [2, 3] rfl rfl rfl rfl rfl 0 11 rfl rfl rfl (Nat.le_of_ble_eq_true rfl) ⟨Nat.le_of_ble_eq_true rfl, Nat.le_of_ble_eq_true rfl⟩ dX11_best_37 ⟨Nat.le_of_ble_eq_true rfl, Nat.le_of_ble_eq_true rfl⟩ (fun r_18 w1 H locs hw_19 hP hD hS => ?_)
          rw [sp_X11_found1] at hw_19
          obtain ⟨e1, e2⟩ := Prod.mk.inj hw_19
          subst e1; subst e2
          have hP : va_P g.1 classes [(xr, .inr (8, [.int 6, .int 0, .ref xrs, .ref xrp])), (xrs, .inl (cI g, 6, .inl (fun _ => (-1)))), (x0, .inr (11, [.ref xr, .ref xt, .ref xg, .ref xb, .ref xp, .ref xu, .ref xm, .ref xd, .ref xw, .ref xh, .ref xa, .ref xs, .ref xf, .int 0, .int 0, .long 0, .long 0, .int 1])), (xf, .inl (cI g, 6, .inl (upd (fun _ => 0) 1 1)))] H := hP
          have hD : va_D A [(xr, .inr (8, [.int 6, .int 0, .ref xrs, .ref xrp])), (xrs, .inl (cI g, 6, .inl (fun _ => (-1)))), (x0, .inr (11, [.ref xr, .ref xt, .ref xg, .ref xb, .ref xp, .ref xu, .ref xm, .ref xd, .ref xw, .ref xh, .ref xa, .ref xs, .ref xf, .int 0, .int 0, .long 0, .long 0, .int 1])), (xf, .inl (cI g, 6, .inl (upd (fun _ => 0) 1 1)))] := hD
          exact rI X hK hP hD hS dX11_best_40 (by rfl) (Nat.le_of_ble_eq_true rfl) (Nat.le_of_ble_eq_true rfl) (by show _ = _; unfold sp_X11_best; rw [if_neg c_3, if_neg c_5, if_neg c_10, if_neg c_12]; try rfl)
def sp_X11_asked (g : GG) (x0 : Nat) (xr : Nat) (xt : Nat) (xg : Nat) (xb : Nat) (xp : Nat) (xu : Nat) (xm : Nat) (xd : Nat) (xw : Nat) (xh : Nat) (xa : Nat) (xs : Nat) (xf : Nat) : Int32 := 0
set_option maxHeartbeats 4000000 in
set_option maxRecDepth 100000 in
theorem c_X11_asked (l : Launch) (g : GG) (x0 : Nat) (xr : Nat) (xt : Nat) (xg : Nat) (xb : Nat) (xp : Nat) (xu : Nat) (xm : Nat) (xd : Nat) (xw : Nat) (xh : Nat) (xa : Nat) (xs : Nat) (xf : Nat) : MI l g yX11_asked cX11_asked 1 (some .int) 0 0 0 0 [(x0, .inr (11, [.ref xr, .ref xt, .ref xg, .ref xb, .ref xp, .ref xu, .ref xm, .ref xd, .ref xw, .ref xh, .ref xa, .ref xs, .ref xf, .int 0, .int 0, .long 0, .long 0, .int 0]))] [.ref x0] (fun rr_ _ => rr_ = sp_X11_asked g x0 xr xt xg xb xp xu xm xd xw xh xa xs xf) := by
  refine met_of (fun A => va_Qi _ (bW g A) A) (by decide) (Nat.le_of_ble_eq_true rfl) ?_
  intro p e s m below meth c A ls X hK hP hD hA hZ hS hl
  have hx := X.1
  have hb := X.2.1
  have hml := X.2.2.1
  have hown := X.2.2.2.1
  have hts := X.2.2.2.2.1
  have hnm := X.2.2.2.2.2.2.2
  have hl : lv_has ls 1 [(0, .ref x0)] := hl
  refine lv_aload_n hx hb dX11_asked_0 rfl (lv_at hl 0 rfl) ?_
  refine va_get (D := g.1) (ci := 11) (v := .int 0) (C := RX11) (T := TX11) (N := 18) hx hb hts fw_X11 hown hK hP 0 rfl rfl 14 (by decide) (hts _ q_472) (fun _ h9 => h9) rfl dX11_asked_1 ?_
  exact rI X hK hP hD hS dX11_asked_4 (by rfl) (Nat.le_of_ble_eq_true rfl) (Nat.le_of_ble_eq_true rfl) (by show _ = _; unfold sp_X11_asked; try rfl)
def sp_X11_finding (g : GG) (x0 : Nat) (xr : Nat) (xt : Nat) (xg : Nat) (xb : Nat) (xp : Nat) (xu : Nat) (xm : Nat) (xd : Nat) (xw : Nat) (xh : Nat) (xa : Nat) (xs : Nat) (xf : Nat) : Int32 := 0
set_option maxHeartbeats 4000000 in
set_option maxRecDepth 100000 in
theorem c_X11_finding (l : Launch) (g : GG) (x0 : Nat) (xr : Nat) (xt : Nat) (xg : Nat) (xb : Nat) (xp : Nat) (xu : Nat) (xm : Nat) (xd : Nat) (xw : Nat) (xh : Nat) (xa : Nat) (xs : Nat) (xf : Nat) : MI l g yX11_finding cX11_finding 1 (some .int) 0 0 0 0 [(x0, .inr (11, [.ref xr, .ref xt, .ref xg, .ref xb, .ref xp, .ref xu, .ref xm, .ref xd, .ref xw, .ref xh, .ref xa, .ref xs, .ref xf, .int 0, .int 0, .long 0, .long 0, .int 0]))] [.ref x0] (fun rr_ _ => rr_ = sp_X11_finding g x0 xr xt xg xb xp xu xm xd xw xh xa xs xf) := by
  refine met_of (fun A => va_Qi _ (bW g A) A) (by decide) (Nat.le_of_ble_eq_true rfl) ?_
  intro p e s m below meth c A ls X hK hP hD hA hZ hS hl
  have hx := X.1
  have hb := X.2.1
  have hml := X.2.2.1
  have hown := X.2.2.2.1
  have hts := X.2.2.2.2.1
  have hnm := X.2.2.2.2.2.2.2
  have hl : lv_has ls 1 [(0, .ref x0)] := hl
  refine lv_aload_n hx hb dX11_finding_0 rfl (lv_at hl 0 rfl) ?_
  refine va_get (D := g.1) (ci := 11) (v := .int 0) (C := RX11) (T := TX11) (N := 18) hx hb hts fw_X11 hown hK hP 0 rfl rfl 17 (by decide) (hts _ q_475) (fun _ h9 => h9) rfl dX11_finding_1 ?_
  exact rI X hK hP hD hS dX11_finding_4 (by rfl) (Nat.le_of_ble_eq_true rfl) (Nat.le_of_ble_eq_true rfl) (by show _ = _; unfold sp_X11_finding; try rfl)
def sp_X11_findings (g : GG) (x0 : Nat) (n : Int32) (xr : Nat) (xt : Nat) (xg : Nat) (xb : Nat) (xp : Nat) (xu : Nat) (xm : Nat) (xd : Nat) (xw : Nat) (xh : Nat) (xa : Nat) (xs : Nat) (xf : Nat) : Int32 := if n < 1 then (-1) else (if n ≤ 5 then 0 else (-1))
set_option maxHeartbeats 4000000 in
set_option maxRecDepth 100000 in
theorem c_X11_findings (l : Launch) (g : GG) (x0 : Nat) (n : Int32) (xr : Nat) (xt : Nat) (xg : Nat) (xb : Nat) (xp : Nat) (xu : Nat) (xm : Nat) (xd : Nat) (xw : Nat) (xh : Nat) (xa : Nat) (xs : Nat) (xf : Nat) : MI l g yX11_findings cX11_findings 2 (some .int) 0 0 0 0 [(x0, .inr (11, [.ref xr, .ref xt, .ref xg, .ref xb, .ref xp, .ref xu, .ref xm, .ref xd, .ref xw, .ref xh, .ref xa, .ref xs, .ref xf, .int 0, .int 0, .long 0, .long 0, .int 0])), (xf, .inl (cI g, 6, .inl (fun _ => 0)))] [.ref x0, .int n] (fun rr_ _ => rr_ = sp_X11_findings g x0 n xr xt xg xb xp xu xm xd xw xh xa xs xf) := by
  refine met_of (fun A => va_Qi _ (bW g A) A) (by decide) (Nat.le_of_ble_eq_true rfl) ?_
  intro p e s m below meth c A ls X hK hP hD hA hZ hS hl
  have hx := X.1
  have hb := X.2.1
  have hml := X.2.2.1
  have hown := X.2.2.2.1
  have hts := X.2.2.2.2.1
  have hnm := X.2.2.2.2.2.2.2
  have hl : lv_has ls 2 [(0, .ref x0), (1, .int n)] := hl
  refine lv_iload_n hx hb dX11_findings_0 rfl (lv_at hl 1 rfl) ?_
  refine lv_iconst (v := 1) hx hb dX11_findings_1 (by decide) ?_
  refine lv_icmp_lt (tgt := 10) hx hb dX11_findings_2 (by decide) (fun c_1 => ?_) (fun c_1 => ?_)
  ·
    refine lv_iconst (v := (-1)) hx hb dX11_findings_10 (by decide) ?_
    exact rI X hK hP hD hS dX11_findings_11 (by rfl) (Nat.le_of_ble_eq_true rfl) (Nat.le_of_ble_eq_true rfl) (by show _ = _; unfold sp_X11_findings; rw [if_pos c_1]; try rfl)
  ·
    refine lv_iload_n hx hb dX11_findings_5 rfl (lv_at hl 1 rfl) ?_
    refine lv_iconst (v := 5) hx hb dX11_findings_6 (by decide) ?_
    refine lv_icmp_le (tgt := 12) hx hb dX11_findings_7 (by decide) (fun c_2 => ?_) (fun c_2 => ?_)
    ·
      refine lv_aload_n hx hb dX11_findings_12 rfl (lv_at hl 0 rfl) ?_
      refine va_get (D := g.1) (ci := 11) (v := .ref xf) (C := RX11) (T := TX11) (N := 18) hx hb hts fw_X11 hown hK hP 0 rfl rfl 12 (by decide) (hts _ q_470) (fun _ h9 => h9) rfl dX11_findings_13 ?_
      refine lv_iload_n hx hb dX11_findings_16 rfl (lv_at hl 1 rfl) ?_
      refine va_iald hx hb hK hP 1 0 rfl rfl (vp_in_iff.mpr (by simp only [i32lt, i32le, i32eq, Int32.reduceToInt] at c_1 c_2; omega)) dX11_findings_17 ?_
      refine lv_topk (v := 0) rfl ?_
      exact rI X hK hP hD hS dX11_findings_18 (by rfl) (Nat.le_of_ble_eq_true rfl) (Nat.le_of_ble_eq_true rfl) (by show _ = _; unfold sp_X11_findings; rw [if_neg c_1, if_pos c_2]; try rfl)
    ·
      refine lv_iconst (v := (-1)) hx hb dX11_findings_10 (by decide) ?_
      exact rI X hK hP hD hS dX11_findings_11 (by rfl) (Nat.le_of_ble_eq_true rfl) (Nat.le_of_ble_eq_true rfl) (by show _ = _; unfold sp_X11_findings; rw [if_neg c_1, if_neg c_2]; try rfl)
def sp_X11_coins (g : GG) (x0 : Nat) (xr : Nat) (xt : Nat) (xg : Nat) (xb : Nat) (xp : Nat) (xu : Nat) (xm : Nat) (xd : Nat) (xw : Nat) (xh : Nat) (xa : Nat) (xs : Nat) (xf : Nat) : Int64 := 0
set_option maxHeartbeats 4000000 in
set_option maxRecDepth 100000 in
theorem c_X11_coins (l : Launch) (g : GG) (x0 : Nat) (xr : Nat) (xt : Nat) (xg : Nat) (xb : Nat) (xp : Nat) (xu : Nat) (xm : Nat) (xd : Nat) (xw : Nat) (xh : Nat) (xa : Nat) (xs : Nat) (xf : Nat) : ML l g yX11_coins cX11_coins 1 (some .long) 0 0 0 0 [(x0, .inr (11, [.ref xr, .ref xt, .ref xg, .ref xb, .ref xp, .ref xu, .ref xm, .ref xd, .ref xw, .ref xh, .ref xa, .ref xs, .ref xf, .int 0, .int 0, .long 0, .long 0, .int 0]))] [.ref x0] (fun rr_ _ => rr_ = sp_X11_coins g x0 xr xt xg xb xp xu xm xd xw xh xa xs xf) := by
  refine met_of (fun A => va_Ql _ (bW g A) A) (by decide) (Nat.le_of_ble_eq_true rfl) ?_
  intro p e s m below meth c A ls X hK hP hD hA hZ hS hl
  have hx := X.1
  have hb := X.2.1
  have hml := X.2.2.1
  have hown := X.2.2.2.1
  have hts := X.2.2.2.2.1
  have hnm := X.2.2.2.2.2.2.2
  have hl : lv_has ls 1 [(0, .ref x0)] := hl
  refine lv_aload_n hx hb dX11_coins_0 rfl (lv_at hl 0 rfl) ?_
  refine va_get (D := g.1) (ci := 11) (v := .long 0) (C := RX11) (T := TX11) (N := 18) hx hb hts fw_X11 hown hK hP 0 rfl rfl 15 (by decide) (hts _ q_473) (fun _ h9 => h9) rfl dX11_coins_1 ?_
  exact rL X hK hP hD hS dX11_coins_4 (Nat.le_of_ble_eq_true rfl) (Nat.le_of_ble_eq_true rfl) (by show _ = _; unfold sp_X11_coins; try rfl)
def sp_X11_set (g : GG) (x0 : Nat) (xr : Nat) (xt : Nat) (xg : Nat) (xb : Nat) (xp : Nat) (xu : Nat) (xm : Nat) (xd : Nat) (xw : Nat) (xh : Nat) (xa : Nat) (xs : Nat) (xf : Nat) : Int64 := 0
set_option maxHeartbeats 4000000 in
set_option maxRecDepth 100000 in
theorem c_X11_set (l : Launch) (g : GG) (x0 : Nat) (xr : Nat) (xt : Nat) (xg : Nat) (xb : Nat) (xp : Nat) (xu : Nat) (xm : Nat) (xd : Nat) (xw : Nat) (xh : Nat) (xa : Nat) (xs : Nat) (xf : Nat) : ML l g yX11_set cX11_set 1 (some .long) 0 0 0 0 [(x0, .inr (11, [.ref xr, .ref xt, .ref xg, .ref xb, .ref xp, .ref xu, .ref xm, .ref xd, .ref xw, .ref xh, .ref xa, .ref xs, .ref xf, .int 0, .int 0, .long 0, .long 0, .int 0]))] [.ref x0] (fun rr_ _ => rr_ = sp_X11_set g x0 xr xt xg xb xp xu xm xd xw xh xa xs xf) := by
  refine met_of (fun A => va_Ql _ (bW g A) A) (by decide) (Nat.le_of_ble_eq_true rfl) ?_
  intro p e s m below meth c A ls X hK hP hD hA hZ hS hl
  have hx := X.1
  have hb := X.2.1
  have hml := X.2.2.1
  have hown := X.2.2.2.1
  have hts := X.2.2.2.2.1
  have hnm := X.2.2.2.2.2.2.2
  have hl : lv_has ls 1 [(0, .ref x0)] := hl
  refine lv_aload_n hx hb dX11_set_0 rfl (lv_at hl 0 rfl) ?_
  refine va_get (D := g.1) (ci := 11) (v := .long 0) (C := RX11) (T := TX11) (N := 18) hx hb hts fw_X11 hown hK hP 0 rfl rfl 16 (by decide) (hts _ q_474) (fun _ h9 => h9) rfl dX11_set_1 ?_
  exact rL X hK hP hD hS dX11_set_4 (Nat.le_of_ble_eq_true rfl) (Nat.le_of_ble_eq_true rfl) (by show _ = _; unfold sp_X11_set; try rfl)
