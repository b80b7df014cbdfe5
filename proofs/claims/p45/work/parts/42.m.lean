set_option maxRecDepth 200000 in
theorem w_173 : Cond.fieldLink "CityRoad$Buildings" 62 "CityRoad$Buildings" "tellings" "I" ∈ tb := tb_mem 173 (by decide +kernel) rfl
set_option maxRecDepth 200000 in
theorem w_167 : Cond.fieldLink "CityRoad$Buildings" 36 "CityRoad$Buildings" "onCells" "[I" ∈ tb := tb_mem 167 (by decide +kernel) rfl
set_option maxRecDepth 200000 in
theorem w_165 : Cond.fieldLink "CityRoad$Buildings" 27 "CityRoad$Buildings" "worths" "[I" ∈ tb := tb_mem 165 (by decide +kernel) rfl
set_option maxRecDepth 200000 in
theorem w_168 : Cond.fieldLink "CityRoad$Buildings" 39 "CityRoad$Buildings" "toldOf" "[I" ∈ tb := tb_mem 168 (by decide +kernel) rfl
set_option maxRecDepth 200000 in
theorem w_169 : Cond.fieldLink "CityRoad$Buildings" 42 "CityRoad$Buildings" "toldDays" "[I" ∈ tb := tb_mem 169 (by decide +kernel) rfl
set_option maxRecDepth 200000 in
theorem w_170 : Cond.fieldLink "CityRoad$Buildings" 45 "CityRoad$Buildings" "toldWorths" "[I" ∈ tb := tb_mem 170 (by decide +kernel) rfl
set_option maxRecDepth 200000 in
theorem w_162 : Cond.fieldLink "CityRoad$Buildings" 18 "CityRoad$Buildings" "rooms" "[I" ∈ tb := tb_mem 162 (by decide +kernel) rfl
set_option maxRecDepth 200000 in
theorem w_164 : Cond.fieldLink "CityRoad$Buildings" 24 "CityRoad$Buildings" "buyers" "[I" ∈ tb := tb_mem 164 (by decide +kernel) rfl
set_option maxRecDepth 200000 in
theorem w_662 : Cond.code yX1_assess cX1_assess 4 none ∈ tb := tb_mem 662 (by rfl) rfl
set_option maxRecDepth 200000 in
theorem w_660 : Cond.instanceMethod yX1_assess ∈ tb := tb_mem 660 (by decide +kernel) rfl
set_option maxRecDepth 200000 in
theorem w_661 : Cond.selects "CityRoad$Buildings" yX1_assess yX1_assess ∈ tb := tb_mem 661 (by decide +kernel) rfl
set_option maxRecDepth 200000 in
theorem w_659 : Cond.methodLink "CityRoad$Buildings" 65 yX1_assess ∈ tb := tb_mem 659 (by decide +kernel) rfl
set_option maxRecDepth 200000 in
theorem w_623 : Cond.code yX3_isCell cX3_isCell 1 (some .boolean) ∈ tb := tb_mem 623 (by rfl) rfl
set_option maxRecDepth 200000 in
theorem w_622 : Cond.static yX3_isCell ∈ tb := tb_mem 622 (by decide +kernel) rfl
set_option maxRecDepth 200000 in
theorem w_621 : Cond.methodLink "CityRoad" 140 yX3_isCell ∈ tb := tb_mem 621 (by decide +kernel) rfl
set_option maxRecDepth 200000 in
theorem w_638 : Cond.code yX1_isUse cX1_isUse 1 (some .boolean) ∈ tb := tb_mem 638 (by rfl) rfl
set_option maxRecDepth 200000 in
theorem w_637 : Cond.static yX1_isUse ∈ tb := tb_mem 637 (by decide +kernel) rfl
set_option maxRecDepth 200000 in
theorem w_636 : Cond.methodLink "CityRoad" 150 yX1_isUse ∈ tb := tb_mem 636 (by decide +kernel) rfl
set_option maxRecDepth 200000 in
theorem w_641 : Cond.code yX1_isWorth cX1_isWorth 1 (some .boolean) ∈ tb := tb_mem 641 (by rfl) rfl
set_option maxRecDepth 200000 in
theorem w_640 : Cond.static yX1_isWorth ∈ tb := tb_mem 640 (by decide +kernel) rfl
set_option maxRecDepth 200000 in
theorem w_639 : Cond.methodLink "CityRoad" 153 yX1_isWorth ∈ tb := tb_mem 639 (by decide +kernel) rfl
set_option maxRecDepth 200000 in
theorem w_646 : Cond.code yX1_number cX1_number 1 (some .int) ∈ tb := tb_mem 646 (by rfl) rfl
set_option maxRecDepth 200000 in
theorem w_644 : Cond.instanceMethod yX1_number ∈ tb := tb_mem 644 (by decide +kernel) rfl
set_option maxRecDepth 200000 in
theorem w_645 : Cond.selects "CityRoad$Buildings" yX1_number yX1_number ∈ tb := tb_mem 645 (by decide +kernel) rfl
set_option maxRecDepth 200000 in
theorem w_643 : Cond.methodLink "CityRoad" 156 yX1_number ∈ tb := tb_mem 643 (by decide +kernel) rfl
set_option maxRecDepth 200000 in
theorem w_650 : Cond.code yX1_tellingsLeft cX1_tellingsLeft 1 (some .int) ∈ tb := tb_mem 650 (by rfl) rfl
set_option maxRecDepth 200000 in
theorem w_648 : Cond.instanceMethod yX1_tellingsLeft ∈ tb := tb_mem 648 (by decide +kernel) rfl
set_option maxRecDepth 200000 in
theorem w_649 : Cond.selects "CityRoad$Buildings" yX1_tellingsLeft yX1_tellingsLeft ∈ tb := tb_mem 649 (by decide +kernel) rfl
set_option maxRecDepth 200000 in
theorem w_647 : Cond.methodLink "CityRoad" 160 yX1_tellingsLeft ∈ tb := tb_mem 647 (by decide +kernel) rfl
set_option maxRecDepth 200000 in
theorem w_654 : Cond.code yX3_isWater cX3_isWater 2 (some .boolean) ∈ tb := tb_mem 654 (by rfl) rfl
set_option maxRecDepth 200000 in
theorem w_652 : Cond.instanceMethod yX3_isWater ∈ tb := tb_mem 652 (by decide +kernel) rfl
set_option maxRecDepth 200000 in
theorem w_653 : Cond.selects "CityRoad$Ground" yX3_isWater yX3_isWater ∈ tb := tb_mem 653 (by decide +kernel) rfl
set_option maxRecDepth 200000 in
theorem w_651 : Cond.methodLink "CityRoad" 163 yX3_isWater ∈ tb := tb_mem 651 (by decide +kernel) rfl
set_option maxRecDepth 200000 in
theorem w_627 : Cond.code yX1_standingOn cX1_standingOn 2 (some .int) ∈ tb := tb_mem 627 (by rfl) rfl
set_option maxRecDepth 200000 in
theorem w_625 : Cond.instanceMethod yX1_standingOn ∈ tb := tb_mem 625 (by decide +kernel) rfl
set_option maxRecDepth 200000 in
theorem w_626 : Cond.selects "CityRoad$Buildings" yX1_standingOn yX1_standingOn ∈ tb := tb_mem 626 (by decide +kernel) rfl
set_option maxRecDepth 200000 in
theorem w_624 : Cond.methodLink "CityRoad" 143 yX1_standingOn ∈ tb := tb_mem 624 (by decide +kernel) rfl
set_option maxRecDepth 200000 in
theorem w_658 : Cond.code yX1_add cX1_add 7 (some .int) ∈ tb := tb_mem 658 (by rfl) rfl
set_option maxRecDepth 200000 in
theorem w_656 : Cond.instanceMethod yX1_add ∈ tb := tb_mem 656 (by decide +kernel) rfl
set_option maxRecDepth 200000 in
theorem w_657 : Cond.selects "CityRoad$Buildings" yX1_add yX1_add ∈ tb := tb_mem 657 (by decide +kernel) rfl
set_option maxRecDepth 200000 in
theorem w_655 : Cond.methodLink "CityRoad" 166 yX1_add ∈ tb := tb_mem 655 (by decide +kernel) rfl
set_option maxRecDepth 200000 in
theorem w_214 : Cond.fieldLink "CityRoad$Persons" 25 "CityRoad$Persons" "number" "I" ∈ tb := tb_mem 214 (by decide +kernel) rfl
set_option maxRecDepth 200000 in
theorem w_307 : Cond.fieldLink "CityRoad$Dealings" 30 "CityRoad$Dealings" "buys" "I" ∈ tb := tb_mem 307 (by decide +kernel) rfl
set_option maxRecDepth 200000 in
theorem w_301 : Cond.fieldLink "CityRoad$Dealings" 11 "CityRoad$Dealings" "boughts" "[I" ∈ tb := tb_mem 301 (by decide +kernel) rfl
set_option maxRecDepth 200000 in
theorem w_302 : Cond.fieldLink "CityRoad$Dealings" 15 "CityRoad$Dealings" "buyers" "[I" ∈ tb := tb_mem 302 (by decide +kernel) rfl
set_option maxRecDepth 200000 in
theorem w_303 : Cond.fieldLink "CityRoad$Dealings" 18 "CityRoad$Dealings" "buyDays" "[I" ∈ tb := tb_mem 303 (by decide +kernel) rfl
set_option maxRecDepth 200000 in
theorem w_670 : Cond.code yX1_exists cX1_exists 2 (some .boolean) ∈ tb := tb_mem 670 (by rfl) rfl
set_option maxRecDepth 200000 in
theorem w_668 : Cond.instanceMethod yX1_exists ∈ tb := tb_mem 668 (by decide +kernel) rfl
set_option maxRecDepth 200000 in
theorem w_669 : Cond.selects "CityRoad$Buildings" yX1_exists yX1_exists ∈ tb := tb_mem 669 (by decide +kernel) rfl
set_option maxRecDepth 200000 in
theorem w_667 : Cond.methodLink "CityRoad" 170 yX1_exists ∈ tb := tb_mem 667 (by decide +kernel) rfl
set_option maxRecDepth 200000 in
theorem w_462 : Cond.fieldLink "CityRoad" 40 "CityRoad" "persons" "LCityRoad$Persons;" ∈ tb := tb_mem 462 (by decide +kernel) rfl
set_option maxRecDepth 200000 in
theorem w_738 : Cond.code yX5_exists cX5_exists 2 (some .boolean) ∈ tb := tb_mem 738 (by rfl) rfl
set_option maxRecDepth 200000 in
theorem w_95 : Cond.initialized "CityRoad$Persons" ∈ tb := tb_mem 95 (by decide +kernel) rfl
set_option maxRecDepth 200000 in
theorem w_736 : Cond.instanceMethod yX5_exists ∈ tb := tb_mem 736 (by decide +kernel) rfl
set_option maxRecDepth 200000 in
theorem w_737 : Cond.selects "CityRoad$Persons" yX5_exists yX5_exists ∈ tb := tb_mem 737 (by decide +kernel) rfl
set_option maxRecDepth 200000 in
theorem w_735 : Cond.methodLink "CityRoad" 200 yX5_exists ∈ tb := tb_mem 735 (by decide +kernel) rfl
set_option maxRecDepth 200000 in
theorem w_465 : Cond.fieldLink "CityRoad" 59 "CityRoad" "dealings" "LCityRoad$Dealings;" ∈ tb := tb_mem 465 (by decide +kernel) rfl
set_option maxRecDepth 200000 in
theorem w_1073 : Cond.code yX2_buys cX2_buys 1 (some .int) ∈ tb := tb_mem 1073 (by rfl) rfl
set_option maxRecDepth 200000 in
theorem w_98 : Cond.initialized "CityRoad$Dealings" ∈ tb := tb_mem 98 (by decide +kernel) rfl
set_option maxRecDepth 200000 in
theorem w_1071 : Cond.instanceMethod yX2_buys ∈ tb := tb_mem 1071 (by decide +kernel) rfl
set_option maxRecDepth 200000 in
theorem w_1072 : Cond.selects "CityRoad$Dealings" yX2_buys yX2_buys ∈ tb := tb_mem 1072 (by decide +kernel) rfl
set_option maxRecDepth 200000 in
theorem w_1070 : Cond.methodLink "CityRoad" 341 yX2_buys ∈ tb := tb_mem 1070 (by decide +kernel) rfl
set_option maxRecDepth 200000 in
theorem w_674 : Cond.code yX1_isTaken cX1_isTaken 2 (some .boolean) ∈ tb := tb_mem 674 (by rfl) rfl
set_option maxRecDepth 200000 in
theorem w_672 : Cond.instanceMethod yX1_isTaken ∈ tb := tb_mem 672 (by decide +kernel) rfl
set_option maxRecDepth 200000 in
theorem w_673 : Cond.selects "CityRoad$Buildings" yX1_isTaken yX1_isTaken ∈ tb := tb_mem 673 (by decide +kernel) rfl
set_option maxRecDepth 200000 in
theorem w_671 : Cond.methodLink "CityRoad" 171 yX1_isTaken ∈ tb := tb_mem 671 (by decide +kernel) rfl
set_option maxRecDepth 200000 in
theorem w_1077 : Cond.code yX1_setBuyer cX1_setBuyer 3 none ∈ tb := tb_mem 1077 (by rfl) rfl
set_option maxRecDepth 200000 in
theorem w_1075 : Cond.instanceMethod yX1_setBuyer ∈ tb := tb_mem 1075 (by decide +kernel) rfl
set_option maxRecDepth 200000 in
theorem w_1076 : Cond.selects "CityRoad$Buildings" yX1_setBuyer yX1_setBuyer ∈ tb := tb_mem 1076 (by decide +kernel) rfl
set_option maxRecDepth 200000 in
theorem w_1074 : Cond.methodLink "CityRoad" 344 yX1_setBuyer ∈ tb := tb_mem 1074 (by decide +kernel) rfl
set_option maxRecDepth 200000 in
theorem w_1081 : Cond.code yX2_addBuy cX2_addBuy 4 (some .int) ∈ tb := tb_mem 1081 (by rfl) rfl
set_option maxRecDepth 200000 in
theorem w_1079 : Cond.instanceMethod yX2_addBuy ∈ tb := tb_mem 1079 (by decide +kernel) rfl
set_option maxRecDepth 200000 in
theorem w_1080 : Cond.selects "CityRoad$Dealings" yX2_addBuy yX2_addBuy ∈ tb := tb_mem 1080 (by decide +kernel) rfl
set_option maxRecDepth 200000 in
theorem w_1078 : Cond.methodLink "CityRoad" 347 yX2_addBuy ∈ tb := tb_mem 1078 (by decide +kernel) rfl
set_option maxRecDepth 200000 in
theorem w_147 : Cond.fieldLink "CityRoad$Ground" 15 "CityRoad$Ground" "heights" "[I" ∈ tb := tb_mem 147 (by decide +kernel) rfl
set_option maxRecDepth 200000 in
theorem w_631 : Cond.code yX3_change cX3_change 4 none ∈ tb := tb_mem 631 (by rfl) rfl
set_option maxRecDepth 200000 in
theorem w_629 : Cond.instanceMethod yX3_change ∈ tb := tb_mem 629 (by decide +kernel) rfl
set_option maxRecDepth 200000 in
theorem w_630 : Cond.selects "CityRoad$Ground" yX3_change yX3_change ∈ tb := tb_mem 630 (by decide +kernel) rfl
set_option maxRecDepth 200000 in
theorem w_628 : Cond.methodLink "CityRoad" 146 yX3_change ∈ tb := tb_mem 628 (by decide +kernel) rfl
set_option maxRecDepth 200000 in
theorem w_254 : Cond.fieldLink "CityRoad$Marks" 21 "CityRoad$Marks" "lengths" "[I" ∈ tb := tb_mem 254 (by decide +kernel) rfl
set_option maxRecDepth 200000 in
theorem w_255 : Cond.fieldLink "CityRoad$Marks" 26 "CityRoad$Marks" "routes" "[I" ∈ tb := tb_mem 255 (by decide +kernel) rfl
set_option maxRecDepth 200000 in
theorem w_885 : Cond.code yX4_exists cX4_exists 2 (some .boolean) ∈ tb := tb_mem 885 (by rfl) rfl
set_option maxRecDepth 200000 in
theorem w_883 : Cond.instanceMethod yX4_exists ∈ tb := tb_mem 883 (by decide +kernel) rfl
set_option maxRecDepth 200000 in
theorem w_884 : Cond.selects "CityRoad$Marks" yX4_exists yX4_exists ∈ tb := tb_mem 884 (by decide +kernel) rfl
set_option maxRecDepth 200000 in
theorem w_882 : Cond.methodLink "CityRoad" 250 yX4_exists ∈ tb := tb_mem 882 (by decide +kernel) rfl
set_option maxRecDepth 200000 in
theorem w_889 : Cond.code yX4_isOf cX4_isOf 4 (some .boolean) ∈ tb := tb_mem 889 (by rfl) rfl
set_option maxRecDepth 200000 in
theorem w_887 : Cond.instanceMethod yX4_isOf ∈ tb := tb_mem 887 (by decide +kernel) rfl
set_option maxRecDepth 200000 in
theorem w_888 : Cond.selects "CityRoad$Marks" yX4_isOf yX4_isOf ∈ tb := tb_mem 888 (by decide +kernel) rfl
set_option maxRecDepth 200000 in
theorem w_886 : Cond.methodLink "CityRoad" 251 yX4_isOf ∈ tb := tb_mem 886 (by decide +kernel) rfl
set_option maxRecDepth 200000 in
theorem w_914 : Cond.code yX4_cellAt cX4_cellAt 3 (some .int) ∈ tb := tb_mem 914 (by rfl) rfl
set_option maxRecDepth 200000 in
theorem w_912 : Cond.instanceMethod yX4_cellAt ∈ tb := tb_mem 912 (by decide +kernel) rfl
set_option maxRecDepth 200000 in
theorem w_913 : Cond.selects "CityRoad$Marks" yX4_cellAt yX4_cellAt ∈ tb := tb_mem 913 (by decide +kernel) rfl
set_option maxRecDepth 200000 in
theorem w_911 : Cond.methodLink "CityRoad" 269 yX4_cellAt ∈ tb := tb_mem 911 (by decide +kernel) rfl
set_option maxRecDepth 200000 in
theorem w_473 : Cond.fieldLink "CityRoad" 417 "CityRoad" "coins" "J" ∈ tb := tb_mem 473 (by decide +kernel) rfl
set_option maxRecDepth 200000 in
theorem w_575 : Cond.methodLink "CityRoad$Shelf" 38 arraycopyName ∈ tb := tb_mem 575 (by decide +kernel) rfl
set_option maxRecDepth 200000 in
theorem w_577 : Cond.native arraycopyName ∈ tb := tb_mem 577 (by decide +kernel) rfl
set_option maxRecDepth 200000 in
theorem w_576 : Cond.static arraycopyName ∈ tb := tb_mem 576 (by decide +kernel) rfl
set_option maxRecDepth 200000 in
theorem w_104 : Cond.initialized "java/lang/System" ∈ tb := tb_mem 104 (by decide +kernel) rfl
set_option maxRecDepth 200000 in
theorem w_570 : Cond.code yX8_holdsFrom cX8_holdsFrom 4 (some .boolean) ∈ tb := tb_mem 570 (by rfl) rfl
set_option maxRecDepth 200000 in
theorem w_568 : Cond.instanceMethod yX8_holdsFrom ∈ tb := tb_mem 568 (by decide +kernel) rfl
set_option maxRecDepth 200000 in
theorem w_569 : Cond.selects "CityRoad$Shelf" yX8_holdsFrom yX8_holdsFrom ∈ tb := tb_mem 569 (by decide +kernel) rfl
set_option maxRecDepth 200000 in
theorem w_567 : Cond.methodLink "CityRoad" 124 yX8_holdsFrom ∈ tb := tb_mem 567 (by decide +kernel) rfl
set_option maxRecDepth 200000 in
theorem w_574 : Cond.code yX8_transfer cX8_transfer 6 none ∈ tb := tb_mem 574 (by rfl) rfl
set_option maxRecDepth 200000 in
theorem w_572 : Cond.instanceMethod yX8_transfer ∈ tb := tb_mem 572 (by decide +kernel) rfl
set_option maxRecDepth 200000 in
theorem w_573 : Cond.selects "CityRoad$Shelf" yX8_transfer yX8_transfer ∈ tb := tb_mem 573 (by decide +kernel) rfl
set_option maxRecDepth 200000 in
theorem w_571 : Cond.methodLink "CityRoad" 128 yX8_transfer ∈ tb := tb_mem 571 (by decide +kernel) rfl
set_option maxRecDepth 200000 in
theorem w_1409 : Cond.methodLink "CityRoad$Shelf" 47 yX8_isThere ∈ tb := tb_mem 1409 (by decide +kernel) rfl
set_option maxRecDepth 200000 in
theorem w_210 : Cond.fieldLink "CityRoad$Persons" 11 "CityRoad$Persons" "homes" "[I" ∈ tb := tb_mem 210 (by decide +kernel) rfl
set_option maxRecDepth 200000 in
theorem w_843 : Cond.code yX3_bit cX3_bit 1 (some .long) ∈ tb := tb_mem 843 (by rfl) rfl
set_option maxRecDepth 200000 in
theorem w_842 : Cond.static yX3_bit ∈ tb := tb_mem 842 (by decide +kernel) rfl
set_option maxRecDepth 200000 in
theorem w_934 : Cond.methodLink "CityRoad$Buildings" 73 yX3_bit ∈ tb := tb_mem 934 (by decide +kernel) rfl
set_option maxRecDepth 200000 in
theorem w_938 : Cond.constantLong "java/lang/Long" 314 (6148914691236517205) ∈ tb := tb_mem 938 (by decide +kernel) rfl
set_option maxRecDepth 200000 in
theorem w_939 : Cond.constantLong "java/lang/Long" 316 (3689348814741910323) ∈ tb := tb_mem 939 (by decide +kernel) rfl
set_option maxRecDepth 200000 in
theorem w_940 : Cond.constantLong "java/lang/Long" 318 (1085102592571150095) ∈ tb := tb_mem 940 (by decide +kernel) rfl
set_option maxRecDepth 200000 in
theorem w_933 : Cond.code yX1_standingCells cX1_standingCells 4 (some .long) ∈ tb := tb_mem 933 (by rfl) rfl
set_option maxRecDepth 200000 in
theorem w_931 : Cond.instanceMethod yX1_standingCells ∈ tb := tb_mem 931 (by decide +kernel) rfl
set_option maxRecDepth 200000 in
theorem w_932 : Cond.selects "CityRoad$Buildings" yX1_standingCells yX1_standingCells ∈ tb := tb_mem 932 (by decide +kernel) rfl
set_option maxRecDepth 200000 in
theorem w_930 : Cond.methodLink "CityRoad$Buildings" 77 yX1_standingCells ∈ tb := tb_mem 930 (by decide +kernel) rfl
set_option maxRecDepth 200000 in
theorem w_937 : Cond.code yJ13_bitCount_95d88 cJ13_bitCount_95d88 2 (some .int) ∈ tb := tb_mem 937 (by rfl) rfl
set_option maxRecDepth 200000 in
theorem w_105 : Cond.initialized "java/lang/Long" ∈ tb := tb_mem 105 (by decide +kernel) rfl
set_option maxRecDepth 200000 in
theorem w_936 : Cond.static yJ13_bitCount_95d88 ∈ tb := tb_mem 936 (by decide +kernel) rfl
set_option maxRecDepth 200000 in
theorem w_935 : Cond.methodLink "CityRoad$Buildings" 81 yJ13_bitCount_95d88 ∈ tb := tb_mem 935 (by decide +kernel) rfl
set_option maxRecDepth 200000 in
theorem w_929 : Cond.code yX1_standingIn cX1_standingIn 3 (some .int) ∈ tb := tb_mem 929 (by rfl) rfl
set_option maxRecDepth 200000 in
theorem w_927 : Cond.instanceMethod yX1_standingIn ∈ tb := tb_mem 927 (by decide +kernel) rfl
set_option maxRecDepth 200000 in
theorem w_928 : Cond.selects "CityRoad$Buildings" yX1_standingIn yX1_standingIn ∈ tb := tb_mem 928 (by decide +kernel) rfl
set_option maxRecDepth 200000 in
theorem w_926 : Cond.methodLink "CityRoad" 278 yX1_standingIn ∈ tb := tb_mem 926 (by decide +kernel) rfl
set_option maxRecDepth 200000 in
theorem w_706 : Cond.code yX5_number cX5_number 1 (some .int) ∈ tb := tb_mem 706 (by rfl) rfl
set_option maxRecDepth 200000 in
theorem w_704 : Cond.instanceMethod yX5_number ∈ tb := tb_mem 704 (by decide +kernel) rfl
set_option maxRecDepth 200000 in
theorem w_705 : Cond.selects "CityRoad$Persons" yX5_number yX5_number ∈ tb := tb_mem 705 (by decide +kernel) rfl
set_option maxRecDepth 200000 in
theorem w_703 : Cond.methodLink "CityRoad" 190 yX5_number ∈ tb := tb_mem 703 (by decide +kernel) rfl
set_option maxRecDepth 200000 in
theorem w_1400 : Cond.code yX5_homeless cX5_homeless 3 (some .int) ∈ tb := tb_mem 1400 (by rfl) rfl
set_option maxRecDepth 200000 in
theorem w_1398 : Cond.instanceMethod yX5_homeless ∈ tb := tb_mem 1398 (by decide +kernel) rfl
set_option maxRecDepth 200000 in
theorem w_1399 : Cond.selects "CityRoad$Persons" yX5_homeless yX5_homeless ∈ tb := tb_mem 1399 (by decide +kernel) rfl
set_option maxRecDepth 200000 in
theorem w_1397 : Cond.methodLink "CityRoad" 468 yX5_homeless ∈ tb := tb_mem 1397 (by decide +kernel) rfl
set_option maxRecDepth 200000 in
theorem w_755 : Cond.code yX7_number cX7_number 1 (some .int) ∈ tb := tb_mem 755 (by rfl) rfl
set_option maxRecDepth 200000 in
theorem w_753 : Cond.instanceMethod yX7_number ∈ tb := tb_mem 753 (by decide +kernel) rfl
set_option maxRecDepth 200000 in
theorem w_754 : Cond.selects "CityRoad$Rules" yX7_number yX7_number ∈ tb := tb_mem 754 (by decide +kernel) rfl
set_option maxRecDepth 200000 in
theorem w_752 : Cond.methodLink "CityRoad" 205 yX7_number ∈ tb := tb_mem 752 (by decide +kernel) rfl
set_option maxRecDepth 200000 in
theorem w_1404 : Cond.code yX1_tellings cX1_tellings 1 (some .int) ∈ tb := tb_mem 1404 (by rfl) rfl
set_option maxRecDepth 200000 in
theorem w_1402 : Cond.instanceMethod yX1_tellings ∈ tb := tb_mem 1402 (by decide +kernel) rfl
set_option maxRecDepth 200000 in
theorem w_1403 : Cond.selects "CityRoad$Buildings" yX1_tellings yX1_tellings ∈ tb := tb_mem 1403 (by decide +kernel) rfl
set_option maxRecDepth 200000 in
theorem w_1401 : Cond.methodLink "CityRoad" 471 yX1_tellings ∈ tb := tb_mem 1401 (by decide +kernel) rfl
set_option maxRecDepth 200000 in
theorem w_1408 : Cond.code yX8_present cX8_present 3 (some .int) ∈ tb := tb_mem 1408 (by rfl) rfl
set_option maxRecDepth 200000 in
theorem w_1406 : Cond.instanceMethod yX8_present ∈ tb := tb_mem 1406 (by decide +kernel) rfl
set_option maxRecDepth 200000 in
theorem w_1407 : Cond.selects "CityRoad$Shelf" yX8_present yX8_present ∈ tb := tb_mem 1407 (by decide +kernel) rfl
set_option maxRecDepth 200000 in
theorem w_1405 : Cond.methodLink "CityRoad" 474 yX8_present ∈ tb := tb_mem 1405 (by decide +kernel) rfl
set_option maxRecDepth 200000 in
theorem w_459 : Cond.fieldLink "CityRoad" 20 "CityRoad" "texts" "LCityRoad$Shelf;" ∈ tb := tb_mem 459 (by decide +kernel) rfl
set_option maxRecDepth 200000 in
theorem w_1429 : Cond.constantLong "CityRoad$Ground" 51 (31) ∈ tb := tb_mem 1429 (by decide +kernel) rfl
set_option maxRecDepth 200000 in
theorem w_1434 : Cond.constantLong "CityRoad$Buildings" 105 (31) ∈ tb := tb_mem 1434 (by decide +kernel) rfl
set_option maxRecDepth 200000 in
theorem w_698 : Cond.code yX1_trait cX1_trait 3 (some .int) ∈ tb := tb_mem 698 (by rfl) rfl
set_option maxRecDepth 200000 in
theorem w_696 : Cond.instanceMethod yX1_trait ∈ tb := tb_mem 696 (by decide +kernel) rfl
set_option maxRecDepth 200000 in
theorem w_697 : Cond.selects "CityRoad$Buildings" yX1_trait yX1_trait ∈ tb := tb_mem 697 (by decide +kernel) rfl
set_option maxRecDepth 200000 in
theorem w_1435 : Cond.methodLink "CityRoad$Buildings" 107 yX1_trait ∈ tb := tb_mem 1435 (by decide +kernel) rfl
set_option maxRecDepth 200000 in
theorem w_211 : Cond.fieldLink "CityRoad$Persons" 15 "CityRoad$Persons" "works" "[I" ∈ tb := tb_mem 211 (by decide +kernel) rfl
set_option maxRecDepth 200000 in
theorem w_212 : Cond.fieldLink "CityRoad$Persons" 18 "CityRoad$Persons" "cars" "[Z" ∈ tb := tb_mem 212 (by decide +kernel) rfl
set_option maxRecDepth 200000 in
theorem w_213 : Cond.fieldLink "CityRoad$Persons" 22 "CityRoad$Persons" "kins" "[I" ∈ tb := tb_mem 213 (by decide +kernel) rfl
set_option maxRecDepth 200000 in
theorem w_1440 : Cond.constantLong "CityRoad$Persons" 29 (31) ∈ tb := tb_mem 1440 (by decide +kernel) rfl
set_option maxRecDepth 200000 in
theorem w_742 : Cond.code yX5_trait cX5_trait 3 (some .int) ∈ tb := tb_mem 742 (by rfl) rfl
set_option maxRecDepth 200000 in
theorem w_740 : Cond.instanceMethod yX5_trait ∈ tb := tb_mem 740 (by decide +kernel) rfl
set_option maxRecDepth 200000 in
theorem w_741 : Cond.selects "CityRoad$Persons" yX5_trait yX5_trait ∈ tb := tb_mem 741 (by decide +kernel) rfl
set_option maxRecDepth 200000 in
theorem w_1441 : Cond.methodLink "CityRoad$Persons" 31 yX5_trait ∈ tb := tb_mem 1441 (by decide +kernel) rfl
set_option maxRecDepth 200000 in
theorem w_1446 : Cond.constantLong "CityRoad$Rules" 70 (31) ∈ tb := tb_mem 1446 (by decide +kernel) rfl
set_option maxRecDepth 200000 in
theorem w_252 : Cond.fieldLink "CityRoad$Marks" 15 "CityRoad$Marks" "days" "[I" ∈ tb := tb_mem 252 (by decide +kernel) rfl
set_option maxRecDepth 200000 in
theorem w_253 : Cond.fieldLink "CityRoad$Marks" 18 "CityRoad$Marks" "hangs" "[I" ∈ tb := tb_mem 253 (by decide +kernel) rfl
set_option maxRecDepth 200000 in
theorem w_1451 : Cond.constantLong "CityRoad$Marks" 62 (31) ∈ tb := tb_mem 1451 (by decide +kernel) rfl
set_option maxRecDepth 200000 in
theorem w_1454 : Cond.methodLink "CityRoad$Marks" 72 yX4_cellAt ∈ tb := tb_mem 1454 (by decide +kernel) rfl
set_option maxRecDepth 200000 in
theorem w_1453 : Cond.methodLink "CityRoad$Marks" 68 yX4_isOf ∈ tb := tb_mem 1453 (by decide +kernel) rfl
set_option maxRecDepth 200000 in
theorem w_258 : Cond.fieldLink "CityRoad$Marks" 36 "CityRoad$Marks" "shownDays" "[I" ∈ tb := tb_mem 258 (by decide +kernel) rfl
set_option maxRecDepth 200000 in
theorem w_1018 : Cond.code yX4_trait cX4_trait 3 (some .int) ∈ tb := tb_mem 1018 (by rfl) rfl
set_option maxRecDepth 200000 in
theorem w_1016 : Cond.instanceMethod yX4_trait ∈ tb := tb_mem 1016 (by decide +kernel) rfl
set_option maxRecDepth 200000 in
theorem w_1017 : Cond.selects "CityRoad$Marks" yX4_trait yX4_trait ∈ tb := tb_mem 1017 (by decide +kernel) rfl
set_option maxRecDepth 200000 in
theorem w_1452 : Cond.methodLink "CityRoad$Marks" 64 yX4_trait ∈ tb := tb_mem 1452 (by decide +kernel) rfl
set_option maxRecDepth 200000 in
theorem w_1459 : Cond.constantLong "CityRoad$Shelf" 51 (31) ∈ tb := tb_mem 1459 (by decide +kernel) rfl
theorem gdX1_tellingsLeft_0 : decode cX1_tellingsLeft 0 = .ok (.bipush 100, 2) := by decide +kernel
theorem gdX1_tellingsLeft_2 : decode cX1_tellingsLeft 2 = .ok (.aload_n 0, 1) := by decide +kernel
theorem gdX1_tellingsLeft_3 : decode cX1_tellingsLeft 3 = .ok (.getfield 62, 3) := by decide +kernel
theorem gdX1_tellingsLeft_6 : decode cX1_tellingsLeft 6 = .ok (.isub, 1) := by decide +kernel
theorem gdX1_tellingsLeft_7 : decode cX1_tellingsLeft 7 = .ok (.ireturn, 1) := by decide +kernel
theorem gdX3_isWater_15 : decode cX3_isWater 15 = .ok (.ireturn, 1) := by decide +kernel
theorem gdX3_isWater_0 : decode cX3_isWater 0 = .ok (.aload_n 0, 1) := by decide +kernel
theorem gdX3_isWater_1 : decode cX3_isWater 1 = .ok (.getfield 11, 3) := by decide +kernel
theorem gdX3_isWater_4 : decode cX3_isWater 4 = .ok (.iload_n 1, 1) := by decide +kernel
theorem gdX3_isWater_5 : decode cX3_isWater 5 = .ok (.iaload, 1) := by decide +kernel
theorem gdX3_isWater_6 : decode cX3_isWater 6 = .ok (.iconst 4, 1) := by decide +kernel
theorem gdX3_isWater_7 : decode cX3_isWater 7 = .ok (.if_icmp .ne 7, 3) := by decide +kernel
theorem gdX3_isWater_14 : decode cX3_isWater 14 = .ok (.iconst 0, 1) := by decide +kernel
theorem gdX3_isWater_10 : decode cX3_isWater 10 = .ok (.iconst 1, 1) := by decide +kernel
theorem gdX3_isWater_11 : decode cX3_isWater 11 = .ok (.goto 4, 3) := by decide +kernel
theorem gdX1_standingOn_0 : decode cX1_standingOn 0 = .ok (.aload_n 0, 1) := by decide +kernel
theorem gdX1_standingOn_1 : decode cX1_standingOn 1 = .ok (.getfield 36, 3) := by decide +kernel
theorem gdX1_standingOn_4 : decode cX1_standingOn 4 = .ok (.iload_n 1, 1) := by decide +kernel
theorem gdX1_standingOn_5 : decode cX1_standingOn 5 = .ok (.iaload, 1) := by decide +kernel
theorem gdX1_standingOn_6 : decode cX1_standingOn 6 = .ok (.ireturn, 1) := by decide +kernel
theorem gdX1_assess_0 : decode cX1_assess 0 = .ok (.aload_n 0, 1) := by decide +kernel
theorem gdX1_assess_1 : decode cX1_assess 1 = .ok (.getfield 27, 3) := by decide +kernel
theorem gdX1_assess_4 : decode cX1_assess 4 = .ok (.iload_n 1, 1) := by decide +kernel
theorem gdX1_assess_5 : decode cX1_assess 5 = .ok (.iload_n 2, 1) := by decide +kernel
theorem gdX1_assess_6 : decode cX1_assess 6 = .ok (.iastore, 1) := by decide +kernel
theorem gdX1_assess_7 : decode cX1_assess 7 = .ok (.aload_n 0, 1) := by decide +kernel
theorem gdX1_assess_8 : decode cX1_assess 8 = .ok (.getfield 39, 3) := by decide +kernel
theorem gdX1_assess_11 : decode cX1_assess 11 = .ok (.aload_n 0, 1) := by decide +kernel
theorem gdX1_assess_12 : decode cX1_assess 12 = .ok (.getfield 62, 3) := by decide +kernel
theorem gdX1_assess_15 : decode cX1_assess 15 = .ok (.iload_n 1, 1) := by decide +kernel
theorem gdX1_assess_16 : decode cX1_assess 16 = .ok (.iastore, 1) := by decide +kernel
theorem gdX1_assess_17 : decode cX1_assess 17 = .ok (.aload_n 0, 1) := by decide +kernel
theorem gdX1_assess_18 : decode cX1_assess 18 = .ok (.getfield 42, 3) := by decide +kernel
theorem gdX1_assess_21 : decode cX1_assess 21 = .ok (.aload_n 0, 1) := by decide +kernel
theorem gdX1_assess_22 : decode cX1_assess 22 = .ok (.getfield 62, 3) := by decide +kernel
theorem gdX1_assess_25 : decode cX1_assess 25 = .ok (.iload_n 3, 1) := by decide +kernel
theorem gdX1_assess_26 : decode cX1_assess 26 = .ok (.iastore, 1) := by decide +kernel
theorem gdX1_assess_27 : decode cX1_assess 27 = .ok (.aload_n 0, 1) := by decide +kernel
theorem gdX1_assess_28 : decode cX1_assess 28 = .ok (.getfield 45, 3) := by decide +kernel
theorem gdX1_assess_31 : decode cX1_assess 31 = .ok (.aload_n 0, 1) := by decide +kernel
theorem gdX1_assess_32 : decode cX1_assess 32 = .ok (.getfield 62, 3) := by decide +kernel
theorem gdX1_assess_35 : decode cX1_assess 35 = .ok (.iload_n 2, 1) := by decide +kernel
theorem gdX1_assess_36 : decode cX1_assess 36 = .ok (.iastore, 1) := by decide +kernel
theorem gdX1_assess_37 : decode cX1_assess 37 = .ok (.aload_n 0, 1) := by decide +kernel
theorem gdX1_assess_38 : decode cX1_assess 38 = .ok (.dup, 1) := by decide +kernel
theorem gdX1_assess_39 : decode cX1_assess 39 = .ok (.getfield 62, 3) := by decide +kernel
theorem gdX1_assess_42 : decode cX1_assess 42 = .ok (.iconst 1, 1) := by decide +kernel
theorem gdX1_assess_43 : decode cX1_assess 43 = .ok (.iadd, 1) := by decide +kernel
theorem gdX1_assess_44 : decode cX1_assess 44 = .ok (.putfield 62, 3) := by decide +kernel
theorem gdX1_assess_47 : decode cX1_assess 47 = .ok (.return_, 1) := by decide +kernel
theorem gdX1_add_0 : decode cX1_add 0 = .ok (.aload_n 0, 1) := by decide +kernel
theorem gdX1_add_1 : decode cX1_add 1 = .ok (.getfield 58, 3) := by decide +kernel
theorem gdX1_add_4 : decode cX1_add 4 = .ok (.istore 6, 2) := by decide +kernel
theorem gdX1_add_6 : decode cX1_add 6 = .ok (.aload_n 0, 1) := by decide +kernel
theorem gdX1_add_7 : decode cX1_add 7 = .ok (.dup, 1) := by decide +kernel
theorem gdX1_add_8 : decode cX1_add 8 = .ok (.getfield 58, 3) := by decide +kernel
theorem gdX1_add_11 : decode cX1_add 11 = .ok (.iconst 1, 1) := by decide +kernel
theorem gdX1_add_12 : decode cX1_add 12 = .ok (.iadd, 1) := by decide +kernel
theorem gdX1_add_13 : decode cX1_add 13 = .ok (.putfield 58, 3) := by decide +kernel
theorem gdX1_add_16 : decode cX1_add 16 = .ok (.aload_n 0, 1) := by decide +kernel
theorem gdX1_add_17 : decode cX1_add 17 = .ok (.getfield 11, 3) := by decide +kernel
theorem gdX1_add_20 : decode cX1_add 20 = .ok (.iload 6, 2) := by decide +kernel
theorem gdX1_add_22 : decode cX1_add 22 = .ok (.iload_n 1, 1) := by decide +kernel
theorem gdX1_add_23 : decode cX1_add 23 = .ok (.iastore, 1) := by decide +kernel
theorem gdX1_add_24 : decode cX1_add 24 = .ok (.aload_n 0, 1) := by decide +kernel
theorem gdX1_add_25 : decode cX1_add 25 = .ok (.getfield 15, 3) := by decide +kernel
theorem gdX1_add_28 : decode cX1_add 28 = .ok (.iload 6, 2) := by decide +kernel
theorem gdX1_add_30 : decode cX1_add 30 = .ok (.iload_n 2, 1) := by decide +kernel
theorem gdX1_add_31 : decode cX1_add 31 = .ok (.iastore, 1) := by decide +kernel
theorem gdX1_add_32 : decode cX1_add 32 = .ok (.aload_n 0, 1) := by decide +kernel
theorem gdX1_add_33 : decode cX1_add 33 = .ok (.getfield 18, 3) := by decide +kernel
theorem gdX1_add_36 : decode cX1_add 36 = .ok (.iload 6, 2) := by decide +kernel
theorem gdX1_add_38 : decode cX1_add 38 = .ok (.iload_n 3, 1) := by decide +kernel
theorem gdX1_add_39 : decode cX1_add 39 = .ok (.iastore, 1) := by decide +kernel
theorem gdX1_add_40 : decode cX1_add 40 = .ok (.aload_n 0, 1) := by decide +kernel
theorem gdX1_add_41 : decode cX1_add 41 = .ok (.getfield 24, 3) := by decide +kernel
theorem gdX1_add_44 : decode cX1_add 44 = .ok (.iload 6, 2) := by decide +kernel
theorem gdX1_add_46 : decode cX1_add 46 = .ok (.bipush (-9), 2) := by decide +kernel
theorem gdX1_add_48 : decode cX1_add 48 = .ok (.iastore, 1) := by decide +kernel
theorem gdX1_add_49 : decode cX1_add 49 = .ok (.aload_n 0, 1) := by decide +kernel
theorem gdX1_add_50 : decode cX1_add 50 = .ok (.getfield 36, 3) := by decide +kernel
theorem gdX1_add_53 : decode cX1_add 53 = .ok (.iload_n 1, 1) := by decide +kernel
theorem gdX1_add_54 : decode cX1_add 54 = .ok (.iload 6, 2) := by decide +kernel
theorem gdX1_add_56 : decode cX1_add 56 = .ok (.iastore, 1) := by decide +kernel
theorem gdX1_add_57 : decode cX1_add 57 = .ok (.aload_n 0, 1) := by decide +kernel
theorem gdX1_add_58 : decode cX1_add 58 = .ok (.iload 6, 2) := by decide +kernel
theorem gdX1_add_60 : decode cX1_add 60 = .ok (.iload 4, 2) := by decide +kernel
theorem gdX1_add_62 : decode cX1_add 62 = .ok (.iload 5, 2) := by decide +kernel
theorem gdX1_add_64 : decode cX1_add 64 = .ok (.invokevirtual 65, 3) := by decide +kernel
theorem gdX1_add_67 : decode cX1_add 67 = .ok (.iload 6, 2) := by decide +kernel
theorem gdX1_add_69 : decode cX1_add 69 = .ok (.ireturn, 1) := by decide +kernel
theorem gdX11_building_32 : decode cX11_building 32 = .ok (.iconst (-1), 1) := by decide +kernel
theorem gdX11_building_33 : decode cX11_building 33 = .ok (.ireturn, 1) := by decide +kernel
theorem gdX11_building_57 : decode cX11_building 57 = .ok (.bipush (-2), 2) := by decide +kernel
theorem gdX11_building_59 : decode cX11_building 59 = .ok (.ireturn, 1) := by decide +kernel
theorem gdX11_building_84 : decode cX11_building 84 = .ok (.bipush (-4), 2) := by decide +kernel
theorem gdX11_building_86 : decode cX11_building 86 = .ok (.ireturn, 1) := by decide +kernel
theorem gdX11_building_0 : decode cX11_building 0 = .ok (.iload_n 1, 1) := by decide +kernel
theorem gdX11_building_1 : decode cX11_building 1 = .ok (.invokestatic 140, 3) := by decide +kernel
theorem gdX11_building_4 : decode cX11_building 4 = .ok (.ifCond .eq 28, 3) := by decide +kernel
theorem gdX11_building_7 : decode cX11_building 7 = .ok (.iload_n 2, 1) := by decide +kernel
theorem gdX11_building_8 : decode cX11_building 8 = .ok (.invokestatic 150, 3) := by decide +kernel
theorem gdX11_building_11 : decode cX11_building 11 = .ok (.ifCond .eq 21, 3) := by decide +kernel
theorem gdX11_building_14 : decode cX11_building 14 = .ok (.iload_n 3, 1) := by decide +kernel
theorem gdX11_building_15 : decode cX11_building 15 = .ok (.ifCond .lt 17, 3) := by decide +kernel
theorem gdX11_building_18 : decode cX11_building 18 = .ok (.iload_n 3, 1) := by decide +kernel
theorem gdX11_building_19 : decode cX11_building 19 = .ok (.bipush 20, 2) := by decide +kernel
theorem gdX11_building_21 : decode cX11_building 21 = .ok (.if_icmp .gt 11, 3) := by decide +kernel
theorem gdX11_building_24 : decode cX11_building 24 = .ok (.iload 4, 2) := by decide +kernel
theorem gdX11_building_26 : decode cX11_building 26 = .ok (.invokestatic 153, 3) := by decide +kernel
theorem gdX11_building_29 : decode cX11_building 29 = .ok (.ifCond .ne 5, 3) := by decide +kernel
theorem gdX11_building_34 : decode cX11_building 34 = .ok (.aload_n 0, 1) := by decide +kernel
theorem gdX11_building_35 : decode cX11_building 35 = .ok (.getfield 33, 3) := by decide +kernel
theorem gdX11_building_38 : decode cX11_building 38 = .ok (.invokevirtual 156, 3) := by decide +kernel
theorem gdX11_building_41 : decode cX11_building 41 = .ok (.bipush 32, 2) := by decide +kernel
theorem gdX11_building_43 : decode cX11_building 43 = .ok (.if_icmp .ge 14, 3) := by decide +kernel
theorem gdX11_building_46 : decode cX11_building 46 = .ok (.aload_n 0, 1) := by decide +kernel
theorem gdX11_building_47 : decode cX11_building 47 = .ok (.getfield 33, 3) := by decide +kernel
theorem gdX11_building_50 : decode cX11_building 50 = .ok (.invokevirtual 160, 3) := by decide +kernel
theorem gdX11_building_53 : decode cX11_building 53 = .ok (.iconst 1, 1) := by decide +kernel
theorem gdX11_building_54 : decode cX11_building 54 = .ok (.if_icmp .ge 6, 3) := by decide +kernel
theorem gdX11_building_60 : decode cX11_building 60 = .ok (.aload_n 0, 1) := by decide +kernel
theorem gdX11_building_61 : decode cX11_building 61 = .ok (.getfield 26, 3) := by decide +kernel
theorem gdX11_building_64 : decode cX11_building 64 = .ok (.iload_n 1, 1) := by decide +kernel
theorem gdX11_building_65 : decode cX11_building 65 = .ok (.invokevirtual 163, 3) := by decide +kernel
theorem gdX11_building_68 : decode cX11_building 68 = .ok (.ifCond .ne 16, 3) := by decide +kernel
theorem gdX11_building_71 : decode cX11_building 71 = .ok (.aload_n 0, 1) := by decide +kernel
theorem gdX11_building_72 : decode cX11_building 72 = .ok (.getfield 33, 3) := by decide +kernel
theorem gdX11_building_75 : decode cX11_building 75 = .ok (.iload_n 1, 1) := by decide +kernel
theorem gdX11_building_76 : decode cX11_building 76 = .ok (.invokevirtual 143, 3) := by decide +kernel
theorem gdX11_building_79 : decode cX11_building 79 = .ok (.bipush (-9), 2) := by decide +kernel
theorem gdX11_building_81 : decode cX11_building 81 = .ok (.if_icmp .eq 6, 3) := by decide +kernel
theorem gdX11_building_87 : decode cX11_building 87 = .ok (.aload_n 0, 1) := by decide +kernel
theorem gdX11_building_88 : decode cX11_building 88 = .ok (.getfield 33, 3) := by decide +kernel
theorem gdX11_building_91 : decode cX11_building 91 = .ok (.iload_n 1, 1) := by decide +kernel
theorem gdX11_building_92 : decode cX11_building 92 = .ok (.iload_n 2, 1) := by decide +kernel
theorem gdX11_building_93 : decode cX11_building 93 = .ok (.iload_n 3, 1) := by decide +kernel
theorem gdX11_building_94 : decode cX11_building 94 = .ok (.iload 4, 2) := by decide +kernel
theorem gdX11_building_96 : decode cX11_building 96 = .ok (.aload_n 0, 1) := by decide +kernel
theorem gdX11_building_97 : decode cX11_building 97 = .ok (.getfield 136, 3) := by decide +kernel
theorem gdX11_building_100 : decode cX11_building 100 = .ok (.invokevirtual 166, 3) := by decide +kernel
theorem gdX11_building_103 : decode cX11_building 103 = .ok (.ireturn, 1) := by decide +kernel
theorem gdX1_exists_17 : decode cX1_exists 17 = .ok (.ireturn, 1) := by decide +kernel
theorem gdX1_exists_16 : decode cX1_exists 16 = .ok (.iconst 0, 1) := by decide +kernel
theorem gdX1_exists_0 : decode cX1_exists 0 = .ok (.iload_n 1, 1) := by decide +kernel
theorem gdX1_exists_1 : decode cX1_exists 1 = .ok (.ifCond .lt 15, 3) := by decide +kernel
theorem gdX1_exists_4 : decode cX1_exists 4 = .ok (.iload_n 1, 1) := by decide +kernel
theorem gdX1_exists_5 : decode cX1_exists 5 = .ok (.aload_n 0, 1) := by decide +kernel
theorem gdX1_exists_6 : decode cX1_exists 6 = .ok (.getfield 58, 3) := by decide +kernel
theorem gdX1_exists_9 : decode cX1_exists 9 = .ok (.if_icmp .ge 7, 3) := by decide +kernel
theorem gdX1_exists_12 : decode cX1_exists 12 = .ok (.iconst 1, 1) := by decide +kernel
theorem gdX1_exists_13 : decode cX1_exists 13 = .ok (.goto 4, 3) := by decide +kernel
theorem gdX5_exists_17 : decode cX5_exists 17 = .ok (.ireturn, 1) := by decide +kernel
theorem gdX5_exists_16 : decode cX5_exists 16 = .ok (.iconst 0, 1) := by decide +kernel
theorem gdX5_exists_0 : decode cX5_exists 0 = .ok (.iload_n 1, 1) := by decide +kernel
theorem gdX5_exists_1 : decode cX5_exists 1 = .ok (.ifCond .lt 15, 3) := by decide +kernel
theorem gdX5_exists_4 : decode cX5_exists 4 = .ok (.iload_n 1, 1) := by decide +kernel
theorem gdX5_exists_5 : decode cX5_exists 5 = .ok (.aload_n 0, 1) := by decide +kernel
theorem gdX5_exists_6 : decode cX5_exists 6 = .ok (.getfield 25, 3) := by decide +kernel
theorem gdX5_exists_9 : decode cX5_exists 9 = .ok (.if_icmp .ge 7, 3) := by decide +kernel
theorem gdX5_exists_12 : decode cX5_exists 12 = .ok (.iconst 1, 1) := by decide +kernel
theorem gdX5_exists_13 : decode cX5_exists 13 = .ok (.goto 4, 3) := by decide +kernel
theorem gdX2_buys_0 : decode cX2_buys 0 = .ok (.aload_n 0, 1) := by decide +kernel
theorem gdX2_buys_1 : decode cX2_buys 1 = .ok (.getfield 30, 3) := by decide +kernel
theorem gdX2_buys_4 : decode cX2_buys 4 = .ok (.ireturn, 1) := by decide +kernel
theorem gdX1_isTaken_0 : decode cX1_isTaken 0 = .ok (.aload_n 0, 1) := by decide +kernel
theorem gdX1_isTaken_1 : decode cX1_isTaken 1 = .ok (.getfield 30, 3) := by decide +kernel
theorem gdX1_isTaken_4 : decode cX1_isTaken 4 = .ok (.iload_n 1, 1) := by decide +kernel
theorem gdX1_isTaken_5 : decode cX1_isTaken 5 = .ok (.baload, 1) := by decide +kernel
theorem gdX1_isTaken_6 : decode cX1_isTaken 6 = .ok (.ireturn, 1) := by decide +kernel
theorem gdX1_setBuyer_0 : decode cX1_setBuyer 0 = .ok (.aload_n 0, 1) := by decide +kernel
theorem gdX1_setBuyer_1 : decode cX1_setBuyer 1 = .ok (.getfield 24, 3) := by decide +kernel
theorem gdX1_setBuyer_4 : decode cX1_setBuyer 4 = .ok (.iload_n 1, 1) := by decide +kernel
theorem gdX1_setBuyer_5 : decode cX1_setBuyer 5 = .ok (.iload_n 2, 1) := by decide +kernel
theorem gdX1_setBuyer_6 : decode cX1_setBuyer 6 = .ok (.iastore, 1) := by decide +kernel
theorem gdX1_setBuyer_7 : decode cX1_setBuyer 7 = .ok (.return_, 1) := by decide +kernel
theorem gdX2_addBuy_0 : decode cX2_addBuy 0 = .ok (.aload_n 0, 1) := by decide +kernel
theorem gdX2_addBuy_1 : decode cX2_addBuy 1 = .ok (.getfield 11, 3) := by decide +kernel
theorem gdX2_addBuy_4 : decode cX2_addBuy 4 = .ok (.aload_n 0, 1) := by decide +kernel
theorem gdX2_addBuy_5 : decode cX2_addBuy 5 = .ok (.getfield 30, 3) := by decide +kernel
theorem gdX2_addBuy_8 : decode cX2_addBuy 8 = .ok (.iload_n 1, 1) := by decide +kernel
theorem gdX2_addBuy_9 : decode cX2_addBuy 9 = .ok (.iastore, 1) := by decide +kernel
theorem gdX2_addBuy_10 : decode cX2_addBuy 10 = .ok (.aload_n 0, 1) := by decide +kernel
theorem gdX2_addBuy_11 : decode cX2_addBuy 11 = .ok (.getfield 15, 3) := by decide +kernel
theorem gdX2_addBuy_14 : decode cX2_addBuy 14 = .ok (.aload_n 0, 1) := by decide +kernel
theorem gdX2_addBuy_15 : decode cX2_addBuy 15 = .ok (.getfield 30, 3) := by decide +kernel
theorem gdX2_addBuy_18 : decode cX2_addBuy 18 = .ok (.iload_n 2, 1) := by decide +kernel
theorem gdX2_addBuy_19 : decode cX2_addBuy 19 = .ok (.iastore, 1) := by decide +kernel
theorem gdX2_addBuy_20 : decode cX2_addBuy 20 = .ok (.aload_n 0, 1) := by decide +kernel
theorem gdX2_addBuy_21 : decode cX2_addBuy 21 = .ok (.getfield 18, 3) := by decide +kernel
theorem gdX2_addBuy_24 : decode cX2_addBuy 24 = .ok (.aload_n 0, 1) := by decide +kernel
theorem gdX2_addBuy_25 : decode cX2_addBuy 25 = .ok (.getfield 30, 3) := by decide +kernel
theorem gdX2_addBuy_28 : decode cX2_addBuy 28 = .ok (.iload_n 3, 1) := by decide +kernel
theorem gdX2_addBuy_29 : decode cX2_addBuy 29 = .ok (.iastore, 1) := by decide +kernel
theorem gdX2_addBuy_30 : decode cX2_addBuy 30 = .ok (.aload_n 0, 1) := by decide +kernel
theorem gdX2_addBuy_31 : decode cX2_addBuy 31 = .ok (.dup, 1) := by decide +kernel
theorem gdX2_addBuy_32 : decode cX2_addBuy 32 = .ok (.getfield 30, 3) := by decide +kernel
theorem gdX2_addBuy_35 : decode cX2_addBuy 35 = .ok (.iconst 1, 1) := by decide +kernel
theorem gdX2_addBuy_36 : decode cX2_addBuy 36 = .ok (.iadd, 1) := by decide +kernel
theorem gdX2_addBuy_37 : decode cX2_addBuy 37 = .ok (.putfield 30, 3) := by decide +kernel
theorem gdX2_addBuy_40 : decode cX2_addBuy 40 = .ok (.aload_n 0, 1) := by decide +kernel
theorem gdX2_addBuy_41 : decode cX2_addBuy 41 = .ok (.getfield 30, 3) := by decide +kernel
theorem gdX2_addBuy_44 : decode cX2_addBuy 44 = .ok (.ireturn, 1) := by decide +kernel
theorem gdX11_buy_22 : decode cX11_buy 22 = .ok (.iconst (-1), 1) := by decide +kernel
theorem gdX11_buy_23 : decode cX11_buy 23 = .ok (.ireturn, 1) := by decide +kernel
theorem gdX11_buy_0 : decode cX11_buy 0 = .ok (.aload_n 0, 1) := by decide +kernel
theorem gdX11_buy_1 : decode cX11_buy 1 = .ok (.getfield 33, 3) := by decide +kernel
theorem gdX11_buy_4 : decode cX11_buy 4 = .ok (.iload_n 1, 1) := by decide +kernel
theorem gdX11_buy_5 : decode cX11_buy 5 = .ok (.invokevirtual 170, 3) := by decide +kernel
theorem gdX11_buy_8 : decode cX11_buy 8 = .ok (.ifCond .eq 14, 3) := by decide +kernel
theorem gdX11_buy_11 : decode cX11_buy 11 = .ok (.aload_n 0, 1) := by decide +kernel
theorem gdX11_buy_12 : decode cX11_buy 12 = .ok (.getfield 40, 3) := by decide +kernel
theorem gdX11_buy_15 : decode cX11_buy 15 = .ok (.iload_n 2, 1) := by decide +kernel
theorem gdX11_buy_16 : decode cX11_buy 16 = .ok (.invokevirtual 200, 3) := by decide +kernel
theorem gdX11_buy_19 : decode cX11_buy 19 = .ok (.ifCond .ne 5, 3) := by decide +kernel
theorem gdX11_buy_24 : decode cX11_buy 24 = .ok (.aload_n 0, 1) := by decide +kernel
theorem gdX11_buy_25 : decode cX11_buy 25 = .ok (.getfield 59, 3) := by decide +kernel
theorem gdX11_buy_28 : decode cX11_buy 28 = .ok (.invokevirtual 341, 3) := by decide +kernel
theorem gdX11_buy_31 : decode cX11_buy 31 = .ok (.bipush 40, 2) := by decide +kernel
theorem gdX11_buy_33 : decode cX11_buy 33 = .ok (.if_icmp .lt 6, 3) := by decide +kernel
theorem gdX11_buy_39 : decode cX11_buy 39 = .ok (.aload_n 0, 1) := by decide +kernel
theorem gdX11_buy_40 : decode cX11_buy 40 = .ok (.getfield 33, 3) := by decide +kernel
theorem gdX11_buy_43 : decode cX11_buy 43 = .ok (.iload_n 1, 1) := by decide +kernel
theorem gdX11_buy_44 : decode cX11_buy 44 = .ok (.invokevirtual 171, 3) := by decide +kernel
theorem gdX11_buy_47 : decode cX11_buy 47 = .ok (.ifCond .eq 6, 3) := by decide +kernel
theorem gdX11_buy_53 : decode cX11_buy 53 = .ok (.aload_n 0, 1) := by decide +kernel
theorem gdX11_buy_54 : decode cX11_buy 54 = .ok (.getfield 33, 3) := by decide +kernel
theorem gdX11_buy_57 : decode cX11_buy 57 = .ok (.iload_n 1, 1) := by decide +kernel
theorem gdX11_buy_58 : decode cX11_buy 58 = .ok (.iload_n 2, 1) := by decide +kernel
theorem gdX11_buy_59 : decode cX11_buy 59 = .ok (.invokevirtual 344, 3) := by decide +kernel
theorem gdX11_buy_62 : decode cX11_buy 62 = .ok (.aload_n 0, 1) := by decide +kernel
theorem gdX11_buy_63 : decode cX11_buy 63 = .ok (.getfield 59, 3) := by decide +kernel
theorem gdX11_buy_66 : decode cX11_buy 66 = .ok (.iload_n 1, 1) := by decide +kernel
theorem gdX11_buy_67 : decode cX11_buy 67 = .ok (.iload_n 2, 1) := by decide +kernel
theorem gdX11_buy_68 : decode cX11_buy 68 = .ok (.aload_n 0, 1) := by decide +kernel
theorem gdX11_buy_69 : decode cX11_buy 69 = .ok (.getfield 136, 3) := by decide +kernel
theorem gdX11_buy_72 : decode cX11_buy 72 = .ok (.invokevirtual 347, 3) := by decide +kernel
theorem gdX11_buy_75 : decode cX11_buy 75 = .ok (.ireturn, 1) := by decide +kernel
theorem gdX11_buy_50 : decode cX11_buy 50 = .ok (.bipush (-4), 2) := by decide +kernel
theorem gdX11_buy_52 : decode cX11_buy 52 = .ok (.ireturn, 1) := by decide +kernel
theorem gdX11_buy_36 : decode cX11_buy 36 = .ok (.bipush (-2), 2) := by decide +kernel
theorem gdX11_buy_38 : decode cX11_buy 38 = .ok (.ireturn, 1) := by decide +kernel
theorem gdX3_change_0 : decode cX3_change 0 = .ok (.aload_n 0, 1) := by decide +kernel
theorem gdX3_change_1 : decode cX3_change 1 = .ok (.getfield 11, 3) := by decide +kernel
theorem gdX3_change_4 : decode cX3_change 4 = .ok (.iload_n 1, 1) := by decide +kernel
theorem gdX3_change_5 : decode cX3_change 5 = .ok (.iload_n 2, 1) := by decide +kernel
theorem gdX3_change_6 : decode cX3_change 6 = .ok (.iastore, 1) := by decide +kernel
theorem gdX3_change_7 : decode cX3_change 7 = .ok (.aload_n 0, 1) := by decide +kernel
theorem gdX3_change_8 : decode cX3_change 8 = .ok (.getfield 15, 3) := by decide +kernel
theorem gdX3_change_11 : decode cX3_change 11 = .ok (.iload_n 1, 1) := by decide +kernel
theorem gdX3_change_12 : decode cX3_change 12 = .ok (.iload_n 3, 1) := by decide +kernel
theorem gdX3_change_13 : decode cX3_change 13 = .ok (.iastore, 1) := by decide +kernel
theorem gdX3_change_14 : decode cX3_change 14 = .ok (.return_, 1) := by decide +kernel
theorem gdX11_cell_26 : decode cX11_cell 26 = .ok (.iconst (-1), 1) := by decide +kernel
theorem gdX11_cell_27 : decode cX11_cell 27 = .ok (.ireturn, 1) := by decide +kernel
theorem gdX11_cell_49 : decode cX11_cell 49 = .ok (.aload_n 0, 1) := by decide +kernel
theorem gdX11_cell_50 : decode cX11_cell 50 = .ok (.getfield 26, 3) := by decide +kernel
theorem gdX11_cell_53 : decode cX11_cell 53 = .ok (.iload_n 1, 1) := by decide +kernel
theorem gdX11_cell_54 : decode cX11_cell 54 = .ok (.iload_n 2, 1) := by decide +kernel
theorem gdX11_cell_55 : decode cX11_cell 55 = .ok (.iload_n 3, 1) := by decide +kernel
theorem gdX11_cell_56 : decode cX11_cell 56 = .ok (.invokevirtual 146, 3) := by decide +kernel
theorem gdX11_cell_59 : decode cX11_cell 59 = .ok (.iconst 1, 1) := by decide +kernel
theorem gdX11_cell_60 : decode cX11_cell 60 = .ok (.ireturn, 1) := by decide +kernel
theorem gdX11_cell_0 : decode cX11_cell 0 = .ok (.iload_n 1, 1) := by decide +kernel
theorem gdX11_cell_1 : decode cX11_cell 1 = .ok (.invokestatic 140, 3) := by decide +kernel
theorem gdX11_cell_4 : decode cX11_cell 4 = .ok (.ifCond .eq 22, 3) := by decide +kernel
theorem gdX11_cell_7 : decode cX11_cell 7 = .ok (.iload_n 2, 1) := by decide +kernel
theorem gdX11_cell_8 : decode cX11_cell 8 = .ok (.ifCond .lt 18, 3) := by decide +kernel
theorem gdX11_cell_11 : decode cX11_cell 11 = .ok (.iload_n 2, 1) := by decide +kernel
theorem gdX11_cell_12 : decode cX11_cell 12 = .ok (.iconst 4, 1) := by decide +kernel
theorem gdX11_cell_13 : decode cX11_cell 13 = .ok (.if_icmp .gt 13, 3) := by decide +kernel
theorem gdX11_cell_16 : decode cX11_cell 16 = .ok (.iload_n 3, 1) := by decide +kernel
theorem gdX11_cell_17 : decode cX11_cell 17 = .ok (.ifCond .lt 9, 3) := by decide +kernel
theorem gdX11_cell_20 : decode cX11_cell 20 = .ok (.iload_n 3, 1) := by decide +kernel
theorem gdX11_cell_21 : decode cX11_cell 21 = .ok (.bipush 99, 2) := by decide +kernel
theorem gdX11_cell_23 : decode cX11_cell 23 = .ok (.if_icmp .le 5, 3) := by decide +kernel
theorem gdX11_cell_28 : decode cX11_cell 28 = .ok (.iload_n 2, 1) := by decide +kernel
theorem gdX11_cell_29 : decode cX11_cell 29 = .ok (.iconst 4, 1) := by decide +kernel
theorem gdX11_cell_30 : decode cX11_cell 30 = .ok (.if_icmp .ne 19, 3) := by decide +kernel
theorem gdX11_cell_33 : decode cX11_cell 33 = .ok (.aload_n 0, 1) := by decide +kernel
theorem gdX11_cell_34 : decode cX11_cell 34 = .ok (.getfield 33, 3) := by decide +kernel
theorem gdX11_cell_37 : decode cX11_cell 37 = .ok (.iload_n 1, 1) := by decide +kernel
theorem gdX11_cell_38 : decode cX11_cell 38 = .ok (.invokevirtual 143, 3) := by decide +kernel
theorem gdX11_cell_41 : decode cX11_cell 41 = .ok (.bipush (-9), 2) := by decide +kernel
theorem gdX11_cell_43 : decode cX11_cell 43 = .ok (.if_icmp .eq 6, 3) := by decide +kernel
theorem gdX11_cell_46 : decode cX11_cell 46 = .ok (.bipush (-4), 2) := by decide +kernel
theorem gdX11_cell_48 : decode cX11_cell 48 = .ok (.ireturn, 1) := by decide +kernel
theorem gdX4_exists_17 : decode cX4_exists 17 = .ok (.ireturn, 1) := by decide +kernel
theorem gdX4_exists_16 : decode cX4_exists 16 = .ok (.iconst 0, 1) := by decide +kernel
theorem gdX4_exists_0 : decode cX4_exists 0 = .ok (.iload_n 1, 1) := by decide +kernel
theorem gdX4_exists_1 : decode cX4_exists 1 = .ok (.ifCond .lt 15, 3) := by decide +kernel
theorem gdX4_exists_4 : decode cX4_exists 4 = .ok (.iload_n 1, 1) := by decide +kernel
theorem gdX4_exists_5 : decode cX4_exists 5 = .ok (.aload_n 0, 1) := by decide +kernel
theorem gdX4_exists_6 : decode cX4_exists 6 = .ok (.getfield 54, 3) := by decide +kernel
theorem gdX4_exists_9 : decode cX4_exists 9 = .ok (.if_icmp .ge 7, 3) := by decide +kernel
theorem gdX4_exists_12 : decode cX4_exists 12 = .ok (.iconst 1, 1) := by decide +kernel
theorem gdX4_exists_13 : decode cX4_exists 13 = .ok (.goto 4, 3) := by decide +kernel
theorem gdX4_isOf_37 : decode cX4_isOf 37 = .ok (.ireturn, 1) := by decide +kernel
theorem gdX4_isOf_32 : decode cX4_isOf 32 = .ok (.iconst 1, 1) := by decide +kernel
theorem gdX4_isOf_33 : decode cX4_isOf 33 = .ok (.goto 4, 3) := by decide +kernel
theorem gdX4_isOf_36 : decode cX4_isOf 36 = .ok (.iconst 0, 1) := by decide +kernel
theorem gdX4_isOf_22 : decode cX4_isOf 22 = .ok (.iload_n 3, 1) := by decide +kernel
theorem gdX4_isOf_23 : decode cX4_isOf 23 = .ok (.iconst 4, 1) := by decide +kernel
theorem gdX4_isOf_24 : decode cX4_isOf 24 = .ok (.if_icmp .ne 12, 3) := by decide +kernel
theorem gdX4_isOf_27 : decode cX4_isOf 27 = .ok (.iload_n 2, 1) := by decide +kernel
theorem gdX4_isOf_28 : decode cX4_isOf 28 = .ok (.iconst 3, 1) := by decide +kernel
theorem gdX4_isOf_29 : decode cX4_isOf 29 = .ok (.if_icmp .ne 7, 3) := by decide +kernel
theorem gdX4_isOf_0 : decode cX4_isOf 0 = .ok (.aload_n 0, 1) := by decide +kernel
theorem gdX4_isOf_1 : decode cX4_isOf 1 = .ok (.getfield 11, 3) := by decide +kernel
theorem gdX4_isOf_4 : decode cX4_isOf 4 = .ok (.iload_n 1, 1) := by decide +kernel
theorem gdX4_isOf_5 : decode cX4_isOf 5 = .ok (.iaload, 1) := by decide +kernel
theorem gdX4_isOf_6 : decode cX4_isOf 6 = .ok (.istore_n 3, 1) := by decide +kernel
theorem gdX4_isOf_7 : decode cX4_isOf 7 = .ok (.iload_n 3, 1) := by decide +kernel
theorem gdX4_isOf_8 : decode cX4_isOf 8 = .ok (.iload_n 2, 1) := by decide +kernel
theorem gdX4_isOf_9 : decode cX4_isOf 9 = .ok (.if_icmp .eq 23, 3) := by decide +kernel
theorem gdX4_isOf_12 : decode cX4_isOf 12 = .ok (.iload_n 3, 1) := by decide +kernel
theorem gdX4_isOf_13 : decode cX4_isOf 13 = .ok (.iconst 2, 1) := by decide +kernel
theorem gdX4_isOf_14 : decode cX4_isOf 14 = .ok (.if_icmp .ne 8, 3) := by decide +kernel
theorem gdX4_isOf_17 : decode cX4_isOf 17 = .ok (.iload_n 2, 1) := by decide +kernel
theorem gdX4_isOf_18 : decode cX4_isOf 18 = .ok (.iconst 1, 1) := by decide +kernel
theorem gdX4_isOf_19 : decode cX4_isOf 19 = .ok (.if_icmp .eq 13, 3) := by decide +kernel
theorem gdX4_cellAt_14 : decode cX4_cellAt 14 = .ok (.bipush (-9), 2) := by decide +kernel
theorem gdX4_cellAt_16 : decode cX4_cellAt 16 = .ok (.ireturn, 1) := by decide +kernel
theorem gdX4_cellAt_0 : decode cX4_cellAt 0 = .ok (.iload_n 2, 1) := by decide +kernel
theorem gdX4_cellAt_1 : decode cX4_cellAt 1 = .ok (.ifCond .lt 13, 3) := by decide +kernel
theorem gdX4_cellAt_4 : decode cX4_cellAt 4 = .ok (.iload_n 2, 1) := by decide +kernel
theorem gdX4_cellAt_5 : decode cX4_cellAt 5 = .ok (.aload_n 0, 1) := by decide +kernel
theorem gdX4_cellAt_6 : decode cX4_cellAt 6 = .ok (.getfield 21, 3) := by decide +kernel
theorem gdX4_cellAt_9 : decode cX4_cellAt 9 = .ok (.iload_n 1, 1) := by decide +kernel
theorem gdX4_cellAt_10 : decode cX4_cellAt 10 = .ok (.iaload, 1) := by decide +kernel
theorem gdX4_cellAt_11 : decode cX4_cellAt 11 = .ok (.if_icmp .lt 6, 3) := by decide +kernel
theorem gdX4_cellAt_17 : decode cX4_cellAt 17 = .ok (.aload_n 0, 1) := by decide +kernel
theorem gdX4_cellAt_18 : decode cX4_cellAt 18 = .ok (.getfield 26, 3) := by decide +kernel
theorem gdX4_cellAt_21 : decode cX4_cellAt 21 = .ok (.iload_n 1, 1) := by decide +kernel
theorem gdX4_cellAt_22 : decode cX4_cellAt 22 = .ok (.bipush 64, 2) := by decide +kernel
theorem gdX4_cellAt_24 : decode cX4_cellAt 24 = .ok (.imul, 1) := by decide +kernel
theorem gdX4_cellAt_25 : decode cX4_cellAt 25 = .ok (.iload_n 2, 1) := by decide +kernel
theorem gdX4_cellAt_26 : decode cX4_cellAt 26 = .ok (.iadd, 1) := by decide +kernel
theorem gdX4_cellAt_27 : decode cX4_cellAt 27 = .ok (.iaload, 1) := by decide +kernel
theorem gdX4_cellAt_28 : decode cX4_cellAt 28 = .ok (.ireturn, 1) := by decide +kernel
theorem gdX11_cellOf_0 : decode cX11_cellOf 0 = .ok (.aload_n 0, 1) := by decide +kernel
theorem gdX11_cellOf_1 : decode cX11_cellOf 1 = .ok (.getfield 52, 3) := by decide +kernel
theorem gdX11_cellOf_4 : decode cX11_cellOf 4 = .ok (.iload_n 1, 1) := by decide +kernel
theorem gdX11_cellOf_5 : decode cX11_cellOf 5 = .ok (.invokevirtual 250, 3) := by decide +kernel
theorem gdX11_cellOf_8 : decode cX11_cellOf 8 = .ok (.ifCond .ne 5, 3) := by decide +kernel
theorem gdX11_cellOf_13 : decode cX11_cellOf 13 = .ok (.aload_n 0, 1) := by decide +kernel
theorem gdX11_cellOf_14 : decode cX11_cellOf 14 = .ok (.getfield 52, 3) := by decide +kernel
theorem gdX11_cellOf_17 : decode cX11_cellOf 17 = .ok (.iload_n 1, 1) := by decide +kernel
theorem gdX11_cellOf_18 : decode cX11_cellOf 18 = .ok (.iconst 1, 1) := by decide +kernel
theorem gdX11_cellOf_19 : decode cX11_cellOf 19 = .ok (.invokevirtual 251, 3) := by decide +kernel
theorem gdX11_cellOf_22 : decode cX11_cellOf 22 = .ok (.ifCond .ne 9, 3) := by decide +kernel
theorem gdX11_cellOf_31 : decode cX11_cellOf 31 = .ok (.aload_n 0, 1) := by decide +kernel
theorem gdX11_cellOf_32 : decode cX11_cellOf 32 = .ok (.getfield 52, 3) := by decide +kernel
theorem gdX11_cellOf_35 : decode cX11_cellOf 35 = .ok (.iload_n 1, 1) := by decide +kernel
theorem gdX11_cellOf_36 : decode cX11_cellOf 36 = .ok (.iload_n 2, 1) := by decide +kernel
theorem gdX11_cellOf_37 : decode cX11_cellOf 37 = .ok (.invokevirtual 269, 3) := by decide +kernel
theorem gdX11_cellOf_40 : decode cX11_cellOf 40 = .ok (.ireturn, 1) := by decide +kernel
theorem gdX11_cellOf_25 : decode cX11_cellOf 25 = .ok (.aload_n 0, 1) := by decide +kernel
theorem gdX11_cellOf_26 : decode cX11_cellOf 26 = .ok (.iconst 3, 1) := by decide +kernel
theorem gdX11_cellOf_27 : decode cX11_cellOf 27 = .ok (.invokevirtual 99, 3) := by decide +kernel
theorem gdX11_cellOf_30 : decode cX11_cellOf 30 = .ok (.ireturn, 1) := by decide +kernel
theorem gdX11_cellOf_11 : decode cX11_cellOf 11 = .ok (.iconst (-1), 1) := by decide +kernel
theorem gdX11_cellOf_12 : decode cX11_cellOf 12 = .ok (.ireturn, 1) := by decide +kernel
theorem gdX11_coins_0 : decode cX11_coins 0 = .ok (.aload_n 0, 1) := by decide +kernel
theorem gdX11_coins_1 : decode cX11_coins 1 = .ok (.getfield 417, 3) := by decide +kernel
theorem gdX11_coins_4 : decode cX11_coins 4 = .ok (.lreturn, 1) := by decide +kernel
theorem gdX8_holdsFrom_21 : decode cX8_holdsFrom 21 = .ok (.ireturn, 1) := by decide +kernel
theorem gdX8_holdsFrom_20 : decode cX8_holdsFrom 20 = .ok (.iconst 0, 1) := by decide +kernel
theorem gdX8_holdsFrom_0 : decode cX8_holdsFrom 0 = .ok (.iload_n 2, 1) := by decide +kernel
theorem gdX8_holdsFrom_1 : decode cX8_holdsFrom 1 = .ok (.ifCond .lt 19, 3) := by decide +kernel
theorem gdX8_holdsFrom_4 : decode cX8_holdsFrom 4 = .ok (.iload_n 2, 1) := by decide +kernel
theorem gdX8_holdsFrom_5 : decode cX8_holdsFrom 5 = .ok (.aload_n 0, 1) := by decide +kernel
theorem gdX8_holdsFrom_6 : decode cX8_holdsFrom 6 = .ok (.getfield 9, 3) := by decide +kernel
theorem gdX8_holdsFrom_9 : decode cX8_holdsFrom 9 = .ok (.iload_n 1, 1) := by decide +kernel
theorem gdX8_holdsFrom_10 : decode cX8_holdsFrom 10 = .ok (.iaload, 1) := by decide +kernel
theorem gdX8_holdsFrom_11 : decode cX8_holdsFrom 11 = .ok (.iload_n 3, 1) := by decide +kernel
theorem gdX8_holdsFrom_12 : decode cX8_holdsFrom 12 = .ok (.isub, 1) := by decide +kernel
theorem gdX8_holdsFrom_13 : decode cX8_holdsFrom 13 = .ok (.if_icmp .gt 7, 3) := by decide +kernel
theorem gdX8_holdsFrom_16 : decode cX8_holdsFrom 16 = .ok (.iconst 1, 1) := by decide +kernel
theorem gdX8_holdsFrom_17 : decode cX8_holdsFrom 17 = .ok (.goto 4, 3) := by decide +kernel
theorem gdX8_transfer_0 : decode cX8_transfer 0 = .ok (.aload_n 0, 1) := by decide +kernel
theorem gdX8_transfer_1 : decode cX8_transfer 1 = .ok (.getfield 13, 3) := by decide +kernel
theorem gdX8_transfer_4 : decode cX8_transfer 4 = .ok (.iload_n 1, 1) := by decide +kernel
theorem gdX8_transfer_5 : decode cX8_transfer 5 = .ok (.bipush 40, 2) := by decide +kernel
theorem gdX8_transfer_7 : decode cX8_transfer 7 = .ok (.imul, 1) := by decide +kernel
theorem gdX8_transfer_8 : decode cX8_transfer 8 = .ok (.iload_n 2, 1) := by decide +kernel
theorem gdX8_transfer_9 : decode cX8_transfer 9 = .ok (.iadd, 1) := by decide +kernel
theorem gdX8_transfer_10 : decode cX8_transfer 10 = .ok (.aload_n 0, 1) := by decide +kernel
theorem gdX8_transfer_11 : decode cX8_transfer 11 = .ok (.getfield 13, 3) := by decide +kernel
theorem gdX8_transfer_14 : decode cX8_transfer 14 = .ok (.iload_n 3, 1) := by decide +kernel
theorem gdX8_transfer_15 : decode cX8_transfer 15 = .ok (.bipush 40, 2) := by decide +kernel
theorem gdX8_transfer_17 : decode cX8_transfer 17 = .ok (.imul, 1) := by decide +kernel
theorem gdX8_transfer_18 : decode cX8_transfer 18 = .ok (.iload 4, 2) := by decide +kernel
theorem gdX8_transfer_20 : decode cX8_transfer 20 = .ok (.iadd, 1) := by decide +kernel
theorem gdX8_transfer_21 : decode cX8_transfer 21 = .ok (.iload 5, 2) := by decide +kernel
theorem gdX8_transfer_23 : decode cX8_transfer 23 = .ok (.invokestatic 38, 3) := by decide +kernel
theorem gdX8_transfer_26 : decode cX8_transfer 26 = .ok (.return_, 1) := by decide +kernel
theorem gdX11_copy_22 : decode cX11_copy 22 = .ok (.iconst (-1), 1) := by decide +kernel
theorem gdX11_copy_23 : decode cX11_copy 23 = .ok (.ireturn, 1) := by decide +kernel
theorem gdX11_copy_57 : decode cX11_copy 57 = .ok (.aload_n 0, 1) := by decide +kernel
theorem gdX11_copy_58 : decode cX11_copy 58 = .ok (.iconst 1, 1) := by decide +kernel
theorem gdX11_copy_59 : decode cX11_copy 59 = .ok (.invokevirtual 99, 3) := by decide +kernel
theorem gdX11_copy_62 : decode cX11_copy 62 = .ok (.ireturn, 1) := by decide +kernel
theorem gdX11_copy_92 : decode cX11_copy 92 = .ok (.aload_n 0, 1) := by decide +kernel
theorem gdX11_copy_93 : decode cX11_copy 93 = .ok (.iconst 2, 1) := by decide +kernel
theorem gdX11_copy_94 : decode cX11_copy 94 = .ok (.invokevirtual 99, 3) := by decide +kernel
theorem gdX11_copy_97 : decode cX11_copy 97 = .ok (.ireturn, 1) := by decide +kernel
theorem gdX11_copy_0 : decode cX11_copy 0 = .ok (.aload_n 0, 1) := by decide +kernel
theorem gdX11_copy_1 : decode cX11_copy 1 = .ok (.getfield 12, 3) := by decide +kernel
theorem gdX11_copy_4 : decode cX11_copy 4 = .ok (.iload_n 1, 1) := by decide +kernel
theorem gdX11_copy_5 : decode cX11_copy 5 = .ok (.invokevirtual 95, 3) := by decide +kernel
theorem gdX11_copy_8 : decode cX11_copy 8 = .ok (.ifCond .eq 14, 3) := by decide +kernel
theorem gdX11_copy_11 : decode cX11_copy 11 = .ok (.aload_n 0, 1) := by decide +kernel
theorem gdX11_copy_12 : decode cX11_copy 12 = .ok (.getfield 12, 3) := by decide +kernel
theorem gdX11_copy_15 : decode cX11_copy 15 = .ok (.iload_n 3, 1) := by decide +kernel
theorem gdX11_copy_16 : decode cX11_copy 16 = .ok (.invokevirtual 95, 3) := by decide +kernel
theorem gdX11_copy_19 : decode cX11_copy 19 = .ok (.ifCond .ne 5, 3) := by decide +kernel
theorem gdX11_copy_24 : decode cX11_copy 24 = .ok (.iload 5, 2) := by decide +kernel
theorem gdX11_copy_26 : decode cX11_copy 26 = .ok (.ifCond .ge 9, 3) := by decide +kernel
theorem gdX11_copy_35 : decode cX11_copy 35 = .ok (.aload_n 0, 1) := by decide +kernel
theorem gdX11_copy_36 : decode cX11_copy 36 = .ok (.getfield 12, 3) := by decide +kernel
theorem gdX11_copy_39 : decode cX11_copy 39 = .ok (.iload_n 1, 1) := by decide +kernel
theorem gdX11_copy_40 : decode cX11_copy 40 = .ok (.invokevirtual 106, 3) := by decide +kernel
theorem gdX11_copy_43 : decode cX11_copy 43 = .ok (.ifCond .eq 14, 3) := by decide +kernel
theorem gdX11_copy_46 : decode cX11_copy 46 = .ok (.aload_n 0, 1) := by decide +kernel
theorem gdX11_copy_47 : decode cX11_copy 47 = .ok (.getfield 12, 3) := by decide +kernel
theorem gdX11_copy_50 : decode cX11_copy 50 = .ok (.iload_n 3, 1) := by decide +kernel
theorem gdX11_copy_51 : decode cX11_copy 51 = .ok (.invokevirtual 106, 3) := by decide +kernel
theorem gdX11_copy_54 : decode cX11_copy 54 = .ok (.ifCond .ne 9, 3) := by decide +kernel
theorem gdX11_copy_63 : decode cX11_copy 63 = .ok (.aload_n 0, 1) := by decide +kernel
theorem gdX11_copy_64 : decode cX11_copy 64 = .ok (.getfield 12, 3) := by decide +kernel
theorem gdX11_copy_67 : decode cX11_copy 67 = .ok (.iload_n 1, 1) := by decide +kernel
theorem gdX11_copy_68 : decode cX11_copy 68 = .ok (.iload_n 2, 1) := by decide +kernel
theorem gdX11_copy_69 : decode cX11_copy 69 = .ok (.iload 5, 2) := by decide +kernel
theorem gdX11_copy_71 : decode cX11_copy 71 = .ok (.invokevirtual 124, 3) := by decide +kernel
theorem gdX11_copy_74 : decode cX11_copy 74 = .ok (.ifCond .eq 18, 3) := by decide +kernel
theorem gdX11_copy_77 : decode cX11_copy 77 = .ok (.aload_n 0, 1) := by decide +kernel
theorem gdX11_copy_78 : decode cX11_copy 78 = .ok (.getfield 12, 3) := by decide +kernel
theorem gdX11_copy_81 : decode cX11_copy 81 = .ok (.iload_n 3, 1) := by decide +kernel
theorem gdX11_copy_82 : decode cX11_copy 82 = .ok (.iload 4, 2) := by decide +kernel
theorem gdX11_copy_84 : decode cX11_copy 84 = .ok (.iload 5, 2) := by decide +kernel
theorem gdX11_copy_86 : decode cX11_copy 86 = .ok (.invokevirtual 124, 3) := by decide +kernel
theorem gdX11_copy_89 : decode cX11_copy 89 = .ok (.ifCond .ne 9, 3) := by decide +kernel
theorem gdX11_copy_98 : decode cX11_copy 98 = .ok (.aload_n 0, 1) := by decide +kernel
theorem gdX11_copy_99 : decode cX11_copy 99 = .ok (.getfield 12, 3) := by decide +kernel
theorem gdX11_copy_102 : decode cX11_copy 102 = .ok (.iload_n 1, 1) := by decide +kernel
theorem gdX11_copy_103 : decode cX11_copy 103 = .ok (.iload_n 2, 1) := by decide +kernel
theorem gdX11_copy_104 : decode cX11_copy 104 = .ok (.iload_n 3, 1) := by decide +kernel
theorem gdX11_copy_105 : decode cX11_copy 105 = .ok (.iload 4, 2) := by decide +kernel
theorem gdX11_copy_107 : decode cX11_copy 107 = .ok (.iload 5, 2) := by decide +kernel
theorem gdX11_copy_109 : decode cX11_copy 109 = .ok (.invokevirtual 128, 3) := by decide +kernel
theorem gdX11_copy_112 : decode cX11_copy 112 = .ok (.iconst 1, 1) := by decide +kernel
theorem gdX11_copy_113 : decode cX11_copy 113 = .ok (.ireturn, 1) := by decide +kernel
theorem gdX11_copy_29 : decode cX11_copy 29 = .ok (.aload_n 0, 1) := by decide +kernel
theorem gdX11_copy_30 : decode cX11_copy 30 = .ok (.iconst 5, 1) := by decide +kernel
theorem gdX11_copy_31 : decode cX11_copy 31 = .ok (.invokevirtual 99, 3) := by decide +kernel
theorem gdX11_copy_34 : decode cX11_copy 34 = .ok (.ireturn, 1) := by decide +kernel
theorem gdX11_cost_0 : decode cX11_cost 0 = .ok (.aload_n 0, 1) := by decide +kernel
theorem gdX11_cost_1 : decode cX11_cost 1 = .ok (.getfield 52, 3) := by decide +kernel
theorem gdX11_cost_4 : decode cX11_cost 4 = .ok (.iload_n 1, 1) := by decide +kernel
theorem gdX11_cost_5 : decode cX11_cost 5 = .ok (.invokevirtual 250, 3) := by decide +kernel
theorem gdX11_cost_8 : decode cX11_cost 8 = .ok (.ifCond .ne 5, 3) := by decide +kernel
theorem gdX11_cost_13 : decode cX11_cost 13 = .ok (.aload_n 0, 1) := by decide +kernel
theorem gdX11_cost_14 : decode cX11_cost 14 = .ok (.getfield 52, 3) := by decide +kernel
theorem gdX11_cost_17 : decode cX11_cost 17 = .ok (.iload_n 1, 1) := by decide +kernel
theorem gdX11_cost_18 : decode cX11_cost 18 = .ok (.iconst 1, 1) := by decide +kernel
theorem gdX11_cost_19 : decode cX11_cost 19 = .ok (.invokevirtual 251, 3) := by decide +kernel
theorem gdX11_cost_22 : decode cX11_cost 22 = .ok (.ifCond .ne 9, 3) := by decide +kernel
theorem gdX11_cost_31 : decode cX11_cost 31 = .ok (.aload_n 0, 1) := by decide +kernel
theorem gdX11_cost_32 : decode cX11_cost 32 = .ok (.getfield 52, 3) := by decide +kernel
theorem gdX11_cost_35 : decode cX11_cost 35 = .ok (.iload_n 1, 1) := by decide +kernel
theorem gdX11_cost_36 : decode cX11_cost 36 = .ok (.invokevirtual 334, 3) := by decide +kernel
theorem gdX11_cost_39 : decode cX11_cost 39 = .ok (.ireturn, 1) := by decide +kernel
theorem gdX11_cost_25 : decode cX11_cost 25 = .ok (.aload_n 0, 1) := by decide +kernel
theorem gdX11_cost_26 : decode cX11_cost 26 = .ok (.iconst 3, 1) := by decide +kernel
theorem gdX11_cost_27 : decode cX11_cost 27 = .ok (.invokevirtual 99, 3) := by decide +kernel
theorem gdX11_cost_30 : decode cX11_cost 30 = .ok (.ireturn, 1) := by decide +kernel
theorem gdX11_cost_11 : decode cX11_cost 11 = .ok (.iconst (-1), 1) := by decide +kernel
theorem gdX11_cost_12 : decode cX11_cost 12 = .ok (.ireturn, 1) := by decide +kernel
theorem gdX8_present_29 : decode cX8_present 29 = .ok (.iload_n 1, 1) := by decide +kernel
theorem gdX8_present_30 : decode cX8_present 30 = .ok (.ireturn, 1) := by decide +kernel
theorem gdX8_present_23 : decode cX8_present 23 = .ok (.iinc 2 1, 3) := by decide +kernel
theorem gdX8_present_26 : decode cX8_present 26 = .ok (.goto (-22), 3) := by decide +kernel
theorem gdX8_present_4 : decode cX8_present 4 = .ok (.iload_n 2, 1) := by decide +kernel
theorem gdX8_present_5 : decode cX8_present 5 = .ok (.aload_n 0, 1) := by decide +kernel
theorem gdX8_present_6 : decode cX8_present 6 = .ok (.getfield 22, 3) := by decide +kernel
theorem gdX8_present_9 : decode cX8_present 9 = .ok (.if_icmp .ge 20, 3) := by decide +kernel
theorem gdX8_present_12 : decode cX8_present 12 = .ok (.aload_n 0, 1) := by decide +kernel
theorem gdX8_present_13 : decode cX8_present 13 = .ok (.iload_n 2, 1) := by decide +kernel
theorem gdX8_present_14 : decode cX8_present 14 = .ok (.invokevirtual 47, 3) := by decide +kernel
theorem gdX8_present_17 : decode cX8_present 17 = .ok (.ifCond .eq 6, 3) := by decide +kernel
theorem gdX8_present_20 : decode cX8_present 20 = .ok (.iinc 1 1, 3) := by decide +kernel
theorem gdX8_present_0 : decode cX8_present 0 = .ok (.iconst 0, 1) := by decide +kernel
theorem gdX8_present_1 : decode cX8_present 1 = .ok (.istore_n 1, 1) := by decide +kernel
theorem gdX8_present_2 : decode cX8_present 2 = .ok (.iconst 0, 1) := by decide +kernel
theorem gdX8_present_3 : decode cX8_present 3 = .ok (.istore_n 2, 1) := by decide +kernel
theorem gdX1_tellings_0 : decode cX1_tellings 0 = .ok (.aload_n 0, 1) := by decide +kernel
theorem gdX1_tellings_1 : decode cX1_tellings 1 = .ok (.getfield 62, 3) := by decide +kernel
theorem gdX1_tellings_4 : decode cX1_tellings 4 = .ok (.ireturn, 1) := by decide +kernel
theorem gdX7_number_0 : decode cX7_number 0 = .ok (.aload_n 0, 1) := by decide +kernel
theorem gdX7_number_1 : decode cX7_number 1 = .ok (.getfield 21, 3) := by decide +kernel
theorem gdX7_number_4 : decode cX7_number 4 = .ok (.ireturn, 1) := by decide +kernel
theorem gdX5_homeless_32 : decode cX5_homeless 32 = .ok (.iload_n 1, 1) := by decide +kernel
theorem gdX5_homeless_33 : decode cX5_homeless 33 = .ok (.ireturn, 1) := by decide +kernel
theorem gdX5_homeless_26 : decode cX5_homeless 26 = .ok (.iinc 2 1, 3) := by decide +kernel
theorem gdX5_homeless_29 : decode cX5_homeless 29 = .ok (.goto (-25), 3) := by decide +kernel
theorem gdX5_homeless_4 : decode cX5_homeless 4 = .ok (.iload_n 2, 1) := by decide +kernel
theorem gdX5_homeless_5 : decode cX5_homeless 5 = .ok (.aload_n 0, 1) := by decide +kernel
theorem gdX5_homeless_6 : decode cX5_homeless 6 = .ok (.getfield 25, 3) := by decide +kernel
theorem gdX5_homeless_9 : decode cX5_homeless 9 = .ok (.if_icmp .ge 23, 3) := by decide +kernel
theorem gdX5_homeless_12 : decode cX5_homeless 12 = .ok (.aload_n 0, 1) := by decide +kernel
theorem gdX5_homeless_13 : decode cX5_homeless 13 = .ok (.getfield 11, 3) := by decide +kernel
theorem gdX5_homeless_16 : decode cX5_homeless 16 = .ok (.iload_n 2, 1) := by decide +kernel
theorem gdX5_homeless_17 : decode cX5_homeless 17 = .ok (.iaload, 1) := by decide +kernel
theorem gdX5_homeless_18 : decode cX5_homeless 18 = .ok (.bipush (-9), 2) := by decide +kernel
theorem gdX5_homeless_20 : decode cX5_homeless 20 = .ok (.if_icmp .ne 6, 3) := by decide +kernel
theorem gdX5_homeless_23 : decode cX5_homeless 23 = .ok (.iinc 1 1, 3) := by decide +kernel
theorem gdX5_homeless_0 : decode cX5_homeless 0 = .ok (.iconst 0, 1) := by decide +kernel
theorem gdX5_homeless_1 : decode cX5_homeless 1 = .ok (.istore_n 1, 1) := by decide +kernel
theorem gdX5_homeless_2 : decode cX5_homeless 2 = .ok (.iconst 0, 1) := by decide +kernel
theorem gdX5_homeless_3 : decode cX5_homeless 3 = .ok (.istore_n 2, 1) := by decide +kernel
theorem gdX5_number_0 : decode cX5_number 0 = .ok (.aload_n 0, 1) := by decide +kernel
theorem gdX5_number_1 : decode cX5_number 1 = .ok (.getfield 25, 3) := by decide +kernel
theorem gdX5_number_4 : decode cX5_number 4 = .ok (.ireturn, 1) := by decide +kernel
theorem gdX3_bit_0 : decode cX3_bit 0 = .ok (.lconst 1, 1) := by decide +kernel
theorem gdX3_bit_1 : decode cX3_bit 1 = .ok (.iload_n 0, 1) := by decide +kernel
theorem gdX3_bit_2 : decode cX3_bit 2 = .ok (.lshl, 1) := by decide +kernel
theorem gdX3_bit_3 : decode cX3_bit 3 = .ok (.lreturn, 1) := by decide +kernel
theorem gdX1_standingCells_39 : decode cX1_standingCells 39 = .ok (.lload_n 1, 1) := by decide +kernel
theorem gdX1_standingCells_40 : decode cX1_standingCells 40 = .ok (.lreturn, 1) := by decide +kernel
theorem gdX1_standingCells_33 : decode cX1_standingCells 33 = .ok (.iinc 3 1, 3) := by decide +kernel
theorem gdX1_standingCells_36 : decode cX1_standingCells 36 = .ok (.goto (-32), 3) := by decide +kernel
theorem gdX1_standingCells_4 : decode cX1_standingCells 4 = .ok (.iload_n 3, 1) := by decide +kernel
theorem gdX1_standingCells_5 : decode cX1_standingCells 5 = .ok (.aload_n 0, 1) := by decide +kernel
theorem gdX1_standingCells_6 : decode cX1_standingCells 6 = .ok (.getfield 58, 3) := by decide +kernel
theorem gdX1_standingCells_9 : decode cX1_standingCells 9 = .ok (.if_icmp .ge 30, 3) := by decide +kernel
theorem gdX1_standingCells_12 : decode cX1_standingCells 12 = .ok (.aload_n 0, 1) := by decide +kernel
theorem gdX1_standingCells_13 : decode cX1_standingCells 13 = .ok (.getfield 30, 3) := by decide +kernel
theorem gdX1_standingCells_16 : decode cX1_standingCells 16 = .ok (.iload_n 3, 1) := by decide +kernel
theorem gdX1_standingCells_17 : decode cX1_standingCells 17 = .ok (.baload, 1) := by decide +kernel
theorem gdX1_standingCells_18 : decode cX1_standingCells 18 = .ok (.ifCond .ne 15, 3) := by decide +kernel
theorem gdX1_standingCells_21 : decode cX1_standingCells 21 = .ok (.lload_n 1, 1) := by decide +kernel
theorem gdX1_standingCells_22 : decode cX1_standingCells 22 = .ok (.aload_n 0, 1) := by decide +kernel
theorem gdX1_standingCells_23 : decode cX1_standingCells 23 = .ok (.getfield 11, 3) := by decide +kernel
theorem gdX1_standingCells_26 : decode cX1_standingCells 26 = .ok (.iload_n 3, 1) := by decide +kernel
theorem gdX1_standingCells_27 : decode cX1_standingCells 27 = .ok (.iaload, 1) := by decide +kernel
theorem gdX1_standingCells_28 : decode cX1_standingCells 28 = .ok (.invokestatic 73, 3) := by decide +kernel
theorem gdX1_standingCells_31 : decode cX1_standingCells 31 = .ok (.lor, 1) := by decide +kernel
theorem gdX1_standingCells_32 : decode cX1_standingCells 32 = .ok (.lstore_n 1, 1) := by decide +kernel
theorem gdX1_standingCells_0 : decode cX1_standingCells 0 = .ok (.lconst 0, 1) := by decide +kernel
theorem gdX1_standingCells_1 : decode cX1_standingCells 1 = .ok (.lstore_n 1, 1) := by decide +kernel
theorem gdX1_standingCells_2 : decode cX1_standingCells 2 = .ok (.iconst 0, 1) := by decide +kernel
theorem gdX1_standingCells_3 : decode cX1_standingCells 3 = .ok (.istore_n 3, 1) := by decide +kernel
theorem gdJ13_bitCount_95d88_0 : decode cJ13_bitCount_95d88 0 = .ok (.lload_n 0, 1) := by decide +kernel
theorem gdJ13_bitCount_95d88_1 : decode cJ13_bitCount_95d88 1 = .ok (.lload_n 0, 1) := by decide +kernel
theorem gdJ13_bitCount_95d88_2 : decode cJ13_bitCount_95d88 2 = .ok (.iconst 1, 1) := by decide +kernel
theorem gdJ13_bitCount_95d88_3 : decode cJ13_bitCount_95d88 3 = .ok (.lushr, 1) := by decide +kernel
theorem gdJ13_bitCount_95d88_4 : decode cJ13_bitCount_95d88 4 = .ok (.ldc2_w 314, 3) := by decide +kernel
theorem gdJ13_bitCount_95d88_7 : decode cJ13_bitCount_95d88 7 = .ok (.land, 1) := by decide +kernel
theorem gdJ13_bitCount_95d88_8 : decode cJ13_bitCount_95d88 8 = .ok (.lsub, 1) := by decide +kernel
theorem gdJ13_bitCount_95d88_9 : decode cJ13_bitCount_95d88 9 = .ok (.lstore_n 0, 1) := by decide +kernel
theorem gdJ13_bitCount_95d88_10 : decode cJ13_bitCount_95d88 10 = .ok (.lload_n 0, 1) := by decide +kernel
theorem gdJ13_bitCount_95d88_11 : decode cJ13_bitCount_95d88 11 = .ok (.ldc2_w 316, 3) := by decide +kernel
theorem gdJ13_bitCount_95d88_14 : decode cJ13_bitCount_95d88 14 = .ok (.land, 1) := by decide +kernel
theorem gdJ13_bitCount_95d88_15 : decode cJ13_bitCount_95d88 15 = .ok (.lload_n 0, 1) := by decide +kernel
theorem gdJ13_bitCount_95d88_16 : decode cJ13_bitCount_95d88 16 = .ok (.iconst 2, 1) := by decide +kernel
theorem gdJ13_bitCount_95d88_17 : decode cJ13_bitCount_95d88 17 = .ok (.lushr, 1) := by decide +kernel
theorem gdJ13_bitCount_95d88_18 : decode cJ13_bitCount_95d88 18 = .ok (.ldc2_w 316, 3) := by decide +kernel
theorem gdJ13_bitCount_95d88_21 : decode cJ13_bitCount_95d88 21 = .ok (.land, 1) := by decide +kernel
theorem gdJ13_bitCount_95d88_22 : decode cJ13_bitCount_95d88 22 = .ok (.ladd, 1) := by decide +kernel
theorem gdJ13_bitCount_95d88_23 : decode cJ13_bitCount_95d88 23 = .ok (.lstore_n 0, 1) := by decide +kernel
theorem gdJ13_bitCount_95d88_24 : decode cJ13_bitCount_95d88 24 = .ok (.lload_n 0, 1) := by decide +kernel
theorem gdJ13_bitCount_95d88_25 : decode cJ13_bitCount_95d88 25 = .ok (.lload_n 0, 1) := by decide +kernel
theorem gdJ13_bitCount_95d88_26 : decode cJ13_bitCount_95d88 26 = .ok (.iconst 4, 1) := by decide +kernel
theorem gdJ13_bitCount_95d88_27 : decode cJ13_bitCount_95d88 27 = .ok (.lushr, 1) := by decide +kernel
theorem gdJ13_bitCount_95d88_28 : decode cJ13_bitCount_95d88 28 = .ok (.ladd, 1) := by decide +kernel
theorem gdJ13_bitCount_95d88_29 : decode cJ13_bitCount_95d88 29 = .ok (.ldc2_w 318, 3) := by decide +kernel
theorem gdJ13_bitCount_95d88_32 : decode cJ13_bitCount_95d88 32 = .ok (.land, 1) := by decide +kernel
theorem gdJ13_bitCount_95d88_33 : decode cJ13_bitCount_95d88 33 = .ok (.lstore_n 0, 1) := by decide +kernel
theorem gdJ13_bitCount_95d88_34 : decode cJ13_bitCount_95d88 34 = .ok (.lload_n 0, 1) := by decide +kernel
theorem gdJ13_bitCount_95d88_35 : decode cJ13_bitCount_95d88 35 = .ok (.lload_n 0, 1) := by decide +kernel
theorem gdJ13_bitCount_95d88_36 : decode cJ13_bitCount_95d88 36 = .ok (.bipush 8, 2) := by decide +kernel
theorem gdJ13_bitCount_95d88_38 : decode cJ13_bitCount_95d88 38 = .ok (.lushr, 1) := by decide +kernel
theorem gdJ13_bitCount_95d88_39 : decode cJ13_bitCount_95d88 39 = .ok (.ladd, 1) := by decide +kernel
theorem gdJ13_bitCount_95d88_40 : decode cJ13_bitCount_95d88 40 = .ok (.lstore_n 0, 1) := by decide +kernel
theorem gdJ13_bitCount_95d88_41 : decode cJ13_bitCount_95d88 41 = .ok (.lload_n 0, 1) := by decide +kernel
theorem gdJ13_bitCount_95d88_42 : decode cJ13_bitCount_95d88 42 = .ok (.lload_n 0, 1) := by decide +kernel
theorem gdJ13_bitCount_95d88_43 : decode cJ13_bitCount_95d88 43 = .ok (.bipush 16, 2) := by decide +kernel
theorem gdJ13_bitCount_95d88_45 : decode cJ13_bitCount_95d88 45 = .ok (.lushr, 1) := by decide +kernel
theorem gdJ13_bitCount_95d88_46 : decode cJ13_bitCount_95d88 46 = .ok (.ladd, 1) := by decide +kernel
theorem gdJ13_bitCount_95d88_47 : decode cJ13_bitCount_95d88 47 = .ok (.lstore_n 0, 1) := by decide +kernel
theorem gdJ13_bitCount_95d88_48 : decode cJ13_bitCount_95d88 48 = .ok (.lload_n 0, 1) := by decide +kernel
theorem gdJ13_bitCount_95d88_49 : decode cJ13_bitCount_95d88 49 = .ok (.lload_n 0, 1) := by decide +kernel
theorem gdJ13_bitCount_95d88_50 : decode cJ13_bitCount_95d88 50 = .ok (.bipush 32, 2) := by decide +kernel
theorem gdJ13_bitCount_95d88_52 : decode cJ13_bitCount_95d88 52 = .ok (.lushr, 1) := by decide +kernel
theorem gdJ13_bitCount_95d88_53 : decode cJ13_bitCount_95d88 53 = .ok (.ladd, 1) := by decide +kernel
theorem gdJ13_bitCount_95d88_54 : decode cJ13_bitCount_95d88 54 = .ok (.lstore_n 0, 1) := by decide +kernel
theorem gdJ13_bitCount_95d88_55 : decode cJ13_bitCount_95d88 55 = .ok (.lload_n 0, 1) := by decide +kernel
theorem gdJ13_bitCount_95d88_56 : decode cJ13_bitCount_95d88 56 = .ok (.l2i, 1) := by decide +kernel
theorem gdJ13_bitCount_95d88_57 : decode cJ13_bitCount_95d88 57 = .ok (.bipush 127, 2) := by decide +kernel
theorem gdJ13_bitCount_95d88_59 : decode cJ13_bitCount_95d88 59 = .ok (.iand, 1) := by decide +kernel
theorem gdJ13_bitCount_95d88_60 : decode cJ13_bitCount_95d88 60 = .ok (.ireturn, 1) := by decide +kernel
theorem gdX1_standingIn_0 : decode cX1_standingIn 0 = .ok (.aload_n 0, 1) := by decide +kernel
theorem gdX1_standingIn_1 : decode cX1_standingIn 1 = .ok (.invokevirtual 77, 3) := by decide +kernel
theorem gdX1_standingIn_4 : decode cX1_standingIn 4 = .ok (.lload_n 1, 1) := by decide +kernel
theorem gdX1_standingIn_5 : decode cX1_standingIn 5 = .ok (.land, 1) := by decide +kernel
theorem gdX1_standingIn_6 : decode cX1_standingIn 6 = .ok (.invokestatic 81, 3) := by decide +kernel
theorem gdX1_standingIn_9 : decode cX1_standingIn 9 = .ok (.ireturn, 1) := by decide +kernel
theorem gdX11_count_0 : decode cX11_count 0 = .ok (.iload_n 1, 1) := by decide +kernel
theorem gdX11_count_1 : decode cX11_count 1 = .ok (.tableswitch 135 0 9 #[55, 60, 71, 79, 87, 95, 103, 111, 119, 127], 55) := by decide +kernel
theorem gdX11_count_56 : decode cX11_count 56 = .ok (.aload_n 0, 1) := by decide +kernel
theorem gdX11_count_57 : decode cX11_count 57 = .ok (.getfield 136, 3) := by decide +kernel
theorem gdX11_count_60 : decode cX11_count 60 = .ok (.ireturn, 1) := by decide +kernel
theorem gdX11_count_61 : decode cX11_count 61 = .ok (.aload_n 0, 1) := by decide +kernel
theorem gdX11_count_62 : decode cX11_count 62 = .ok (.getfield 33, 3) := by decide +kernel
theorem gdX11_count_65 : decode cX11_count 65 = .ok (.ldc2_w 387, 3) := by decide +kernel
theorem gdX11_count_68 : decode cX11_count 68 = .ok (.invokevirtual 278, 3) := by decide +kernel
theorem gdX11_count_71 : decode cX11_count 71 = .ok (.ireturn, 1) := by decide +kernel
theorem gdX11_count_72 : decode cX11_count 72 = .ok (.aload_n 0, 1) := by decide +kernel
theorem gdX11_count_73 : decode cX11_count 73 = .ok (.getfield 40, 3) := by decide +kernel
theorem gdX11_count_76 : decode cX11_count 76 = .ok (.invokevirtual 190, 3) := by decide +kernel
theorem gdX11_count_79 : decode cX11_count 79 = .ok (.ireturn, 1) := by decide +kernel
theorem gdX11_count_80 : decode cX11_count 80 = .ok (.aload_n 0, 1) := by decide +kernel
theorem gdX11_count_81 : decode cX11_count 81 = .ok (.getfield 40, 3) := by decide +kernel
theorem gdX11_count_84 : decode cX11_count 84 = .ok (.invokevirtual 468, 3) := by decide +kernel
theorem gdX11_count_87 : decode cX11_count 87 = .ok (.ireturn, 1) := by decide +kernel
theorem gdX11_count_88 : decode cX11_count 88 = .ok (.aload_n 0, 1) := by decide +kernel
theorem gdX11_count_89 : decode cX11_count 89 = .ok (.getfield 45, 3) := by decide +kernel
theorem gdX11_count_92 : decode cX11_count 92 = .ok (.invokevirtual 205, 3) := by decide +kernel
theorem gdX11_count_95 : decode cX11_count 95 = .ok (.ireturn, 1) := by decide +kernel
theorem gdX11_count_96 : decode cX11_count 96 = .ok (.aload_n 0, 1) := by decide +kernel
theorem gdX11_count_97 : decode cX11_count 97 = .ok (.getfield 52, 3) := by decide +kernel
theorem gdX11_count_100 : decode cX11_count 100 = .ok (.invokevirtual 218, 3) := by decide +kernel
theorem gdX11_count_103 : decode cX11_count 103 = .ok (.ireturn, 1) := by decide +kernel
theorem gdX11_count_104 : decode cX11_count 104 = .ok (.aload_n 0, 1) := by decide +kernel
theorem gdX11_count_105 : decode cX11_count 105 = .ok (.getfield 59, 3) := by decide +kernel
theorem gdX11_count_108 : decode cX11_count 108 = .ok (.invokevirtual 341, 3) := by decide +kernel
theorem gdX11_count_111 : decode cX11_count 111 = .ok (.ireturn, 1) := by decide +kernel
theorem gdX11_count_112 : decode cX11_count 112 = .ok (.aload_n 0, 1) := by decide +kernel
theorem gdX11_count_113 : decode cX11_count 113 = .ok (.getfield 33, 3) := by decide +kernel
theorem gdX11_count_116 : decode cX11_count 116 = .ok (.invokevirtual 471, 3) := by decide +kernel
theorem gdX11_count_119 : decode cX11_count 119 = .ok (.ireturn, 1) := by decide +kernel
theorem gdX11_count_120 : decode cX11_count 120 = .ok (.aload_n 0, 1) := by decide +kernel
theorem gdX11_count_121 : decode cX11_count 121 = .ok (.getfield 12, 3) := by decide +kernel
theorem gdX11_count_124 : decode cX11_count 124 = .ok (.invokevirtual 474, 3) := by decide +kernel
theorem gdX11_count_127 : decode cX11_count 127 = .ok (.ireturn, 1) := by decide +kernel
theorem gdX11_count_128 : decode cX11_count 128 = .ok (.aload_n 0, 1) := by decide +kernel
theorem gdX11_count_129 : decode cX11_count 129 = .ok (.getfield 20, 3) := by decide +kernel
theorem gdX11_count_132 : decode cX11_count 132 = .ok (.invokevirtual 474, 3) := by decide +kernel
theorem gdX11_count_135 : decode cX11_count 135 = .ok (.ireturn, 1) := by decide +kernel
theorem gdX11_count_136 : decode cX11_count 136 = .ok (.iconst (-1), 1) := by decide +kernel
theorem gdX11_count_137 : decode cX11_count 137 = .ok (.ireturn, 1) := by decide +kernel
theorem gdX3_hash_42 : decode cX3_hash 42 = .ok (.lload_n 1, 1) := by decide +kernel
theorem gdX3_hash_43 : decode cX3_hash 43 = .ok (.lreturn, 1) := by decide +kernel
theorem gdX3_hash_2 : decode cX3_hash 2 = .ok (.iload_n 3, 1) := by decide +kernel
theorem gdX3_hash_3 : decode cX3_hash 3 = .ok (.bipush 64, 2) := by decide +kernel
theorem gdX3_hash_5 : decode cX3_hash 5 = .ok (.if_icmp .ge 37, 3) := by decide +kernel
theorem gdX3_hash_8 : decode cX3_hash 8 = .ok (.ldc2_w 51, 3) := by decide +kernel
theorem gdX3_hash_11 : decode cX3_hash 11 = .ok (.lload_n 1, 1) := by decide +kernel
theorem gdX3_hash_12 : decode cX3_hash 12 = .ok (.lmul, 1) := by decide +kernel
theorem gdX3_hash_13 : decode cX3_hash 13 = .ok (.aload_n 0, 1) := by decide +kernel
theorem gdX3_hash_14 : decode cX3_hash 14 = .ok (.getfield 11, 3) := by decide +kernel
theorem gdX3_hash_17 : decode cX3_hash 17 = .ok (.iload_n 3, 1) := by decide +kernel
theorem gdX3_hash_18 : decode cX3_hash 18 = .ok (.iaload, 1) := by decide +kernel
theorem gdX3_hash_19 : decode cX3_hash 19 = .ok (.i2l, 1) := by decide +kernel
theorem gdX3_hash_20 : decode cX3_hash 20 = .ok (.ladd, 1) := by decide +kernel
theorem gdX3_hash_21 : decode cX3_hash 21 = .ok (.lstore_n 1, 1) := by decide +kernel
theorem gdX3_hash_22 : decode cX3_hash 22 = .ok (.ldc2_w 51, 3) := by decide +kernel
theorem gdX3_hash_25 : decode cX3_hash 25 = .ok (.lload_n 1, 1) := by decide +kernel
theorem gdX3_hash_26 : decode cX3_hash 26 = .ok (.lmul, 1) := by decide +kernel
theorem gdX3_hash_27 : decode cX3_hash 27 = .ok (.aload_n 0, 1) := by decide +kernel
theorem gdX3_hash_28 : decode cX3_hash 28 = .ok (.getfield 15, 3) := by decide +kernel
theorem gdX3_hash_31 : decode cX3_hash 31 = .ok (.iload_n 3, 1) := by decide +kernel
theorem gdX3_hash_32 : decode cX3_hash 32 = .ok (.iaload, 1) := by decide +kernel
theorem gdX3_hash_33 : decode cX3_hash 33 = .ok (.i2l, 1) := by decide +kernel
theorem gdX3_hash_34 : decode cX3_hash 34 = .ok (.ladd, 1) := by decide +kernel
theorem gdX3_hash_35 : decode cX3_hash 35 = .ok (.lstore_n 1, 1) := by decide +kernel
theorem gdX3_hash_36 : decode cX3_hash 36 = .ok (.iinc 3 1, 3) := by decide +kernel
theorem gdX3_hash_39 : decode cX3_hash 39 = .ok (.goto (-37), 3) := by decide +kernel
theorem gdX3_hash_0 : decode cX3_hash 0 = .ok (.iconst 0, 1) := by decide +kernel
theorem gdX3_hash_1 : decode cX3_hash 1 = .ok (.istore_n 3, 1) := by decide +kernel
theorem gdX1_trait_78 : decode cX1_trait 78 = .ok (.ireturn, 1) := by decide +kernel
theorem gdX1_trait_0 : decode cX1_trait 0 = .ok (.iload_n 2, 1) := by decide +kernel
theorem gdX1_trait_1 : decode cX1_trait 1 = .ok (.tableswitch 78 0 4 #[35, 42, 49, 56, 63], 35) := by decide +kernel
theorem gdX1_trait_36 : decode cX1_trait 36 = .ok (.aload_n 0, 1) := by decide +kernel
theorem gdX1_trait_37 : decode cX1_trait 37 = .ok (.getfield 11, 3) := by decide +kernel
theorem gdX1_trait_40 : decode cX1_trait 40 = .ok (.iload_n 1, 1) := by decide +kernel
theorem gdX1_trait_41 : decode cX1_trait 41 = .ok (.iaload, 1) := by decide +kernel
theorem gdX1_trait_42 : decode cX1_trait 42 = .ok (.ireturn, 1) := by decide +kernel
theorem gdX1_trait_43 : decode cX1_trait 43 = .ok (.aload_n 0, 1) := by decide +kernel
theorem gdX1_trait_44 : decode cX1_trait 44 = .ok (.getfield 15, 3) := by decide +kernel
theorem gdX1_trait_47 : decode cX1_trait 47 = .ok (.iload_n 1, 1) := by decide +kernel
theorem gdX1_trait_48 : decode cX1_trait 48 = .ok (.iaload, 1) := by decide +kernel
theorem gdX1_trait_49 : decode cX1_trait 49 = .ok (.ireturn, 1) := by decide +kernel
theorem gdX1_trait_50 : decode cX1_trait 50 = .ok (.aload_n 0, 1) := by decide +kernel
theorem gdX1_trait_51 : decode cX1_trait 51 = .ok (.getfield 18, 3) := by decide +kernel
theorem gdX1_trait_54 : decode cX1_trait 54 = .ok (.iload_n 1, 1) := by decide +kernel
theorem gdX1_trait_55 : decode cX1_trait 55 = .ok (.iaload, 1) := by decide +kernel
theorem gdX1_trait_56 : decode cX1_trait 56 = .ok (.ireturn, 1) := by decide +kernel
theorem gdX1_trait_57 : decode cX1_trait 57 = .ok (.aload_n 0, 1) := by decide +kernel
theorem gdX1_trait_58 : decode cX1_trait 58 = .ok (.getfield 21, 3) := by decide +kernel
theorem gdX1_trait_61 : decode cX1_trait 61 = .ok (.iload_n 1, 1) := by decide +kernel
theorem gdX1_trait_62 : decode cX1_trait 62 = .ok (.iaload, 1) := by decide +kernel
theorem gdX1_trait_63 : decode cX1_trait 63 = .ok (.ireturn, 1) := by decide +kernel
theorem gdX1_trait_64 : decode cX1_trait 64 = .ok (.aload_n 0, 1) := by decide +kernel
theorem gdX1_trait_65 : decode cX1_trait 65 = .ok (.getfield 30, 3) := by decide +kernel
theorem gdX1_trait_68 : decode cX1_trait 68 = .ok (.iload_n 1, 1) := by decide +kernel
theorem gdX1_trait_69 : decode cX1_trait 69 = .ok (.baload, 1) := by decide +kernel
theorem gdX1_trait_70 : decode cX1_trait 70 = .ok (.ifCond .eq 7, 3) := by decide +kernel
theorem gdX1_trait_77 : decode cX1_trait 77 = .ok (.iconst 0, 1) := by decide +kernel
theorem gdX1_trait_73 : decode cX1_trait 73 = .ok (.iconst 1, 1) := by decide +kernel
theorem gdX1_trait_74 : decode cX1_trait 74 = .ok (.goto 4, 3) := by decide +kernel
theorem gdX1_trait_79 : decode cX1_trait 79 = .ok (.aload_n 0, 1) := by decide +kernel
theorem gdX1_trait_80 : decode cX1_trait 80 = .ok (.getfield 24, 3) := by decide +kernel
theorem gdX1_trait_83 : decode cX1_trait 83 = .ok (.iload_n 1, 1) := by decide +kernel
theorem gdX1_trait_84 : decode cX1_trait 84 = .ok (.iaload, 1) := by decide +kernel
theorem gdX1_trait_85 : decode cX1_trait 85 = .ok (.ireturn, 1) := by decide +kernel
theorem gdX1_hash_60 : decode cX1_hash 60 = .ok (.lload_n 1, 1) := by decide +kernel
theorem gdX1_hash_61 : decode cX1_hash 61 = .ok (.lreturn, 1) := by decide +kernel
theorem gdX1_hash_40 : decode cX1_hash 40 = .ok (.ldc2_w 105, 3) := by decide +kernel
theorem gdX1_hash_43 : decode cX1_hash 43 = .ok (.lload_n 1, 1) := by decide +kernel
theorem gdX1_hash_44 : decode cX1_hash 44 = .ok (.lmul, 1) := by decide +kernel
theorem gdX1_hash_45 : decode cX1_hash 45 = .ok (.aload_n 0, 1) := by decide +kernel
theorem gdX1_hash_46 : decode cX1_hash 46 = .ok (.getfield 27, 3) := by decide +kernel
theorem gdX1_hash_49 : decode cX1_hash 49 = .ok (.iload_n 3, 1) := by decide +kernel
theorem gdX1_hash_50 : decode cX1_hash 50 = .ok (.iaload, 1) := by decide +kernel
theorem gdX1_hash_51 : decode cX1_hash 51 = .ok (.i2l, 1) := by decide +kernel
theorem gdX1_hash_52 : decode cX1_hash 52 = .ok (.ladd, 1) := by decide +kernel
theorem gdX1_hash_53 : decode cX1_hash 53 = .ok (.lstore_n 1, 1) := by decide +kernel
theorem gdX1_hash_54 : decode cX1_hash 54 = .ok (.iinc 3 1, 3) := by decide +kernel
theorem gdX1_hash_57 : decode cX1_hash 57 = .ok (.goto (-55), 3) := by decide +kernel
theorem gdX1_hash_13 : decode cX1_hash 13 = .ok (.iload 4, 2) := by decide +kernel
theorem gdX1_hash_15 : decode cX1_hash 15 = .ok (.iconst 5, 1) := by decide +kernel
theorem gdX1_hash_16 : decode cX1_hash 16 = .ok (.if_icmp .gt 24, 3) := by decide +kernel
theorem gdX1_hash_19 : decode cX1_hash 19 = .ok (.ldc2_w 105, 3) := by decide +kernel
theorem gdX1_hash_22 : decode cX1_hash 22 = .ok (.lload_n 1, 1) := by decide +kernel
theorem gdX1_hash_23 : decode cX1_hash 23 = .ok (.lmul, 1) := by decide +kernel
theorem gdX1_hash_24 : decode cX1_hash 24 = .ok (.aload_n 0, 1) := by decide +kernel
theorem gdX1_hash_25 : decode cX1_hash 25 = .ok (.iload_n 3, 1) := by decide +kernel
theorem gdX1_hash_26 : decode cX1_hash 26 = .ok (.iload 4, 2) := by decide +kernel
theorem gdX1_hash_28 : decode cX1_hash 28 = .ok (.invokevirtual 107, 3) := by decide +kernel
theorem gdX1_hash_31 : decode cX1_hash 31 = .ok (.i2l, 1) := by decide +kernel
theorem gdX1_hash_32 : decode cX1_hash 32 = .ok (.ladd, 1) := by decide +kernel
theorem gdX1_hash_33 : decode cX1_hash 33 = .ok (.lstore_n 1, 1) := by decide +kernel
theorem gdX1_hash_34 : decode cX1_hash 34 = .ok (.iinc 4 1, 3) := by decide +kernel
theorem gdX1_hash_37 : decode cX1_hash 37 = .ok (.goto (-24), 3) := by decide +kernel
theorem gdX1_hash_2 : decode cX1_hash 2 = .ok (.iload_n 3, 1) := by decide +kernel
theorem gdX1_hash_3 : decode cX1_hash 3 = .ok (.aload_n 0, 1) := by decide +kernel
theorem gdX1_hash_4 : decode cX1_hash 4 = .ok (.getfield 58, 3) := by decide +kernel
theorem gdX1_hash_7 : decode cX1_hash 7 = .ok (.if_icmp .ge 53, 3) := by decide +kernel
theorem gdX1_hash_10 : decode cX1_hash 10 = .ok (.iconst 0, 1) := by decide +kernel
theorem gdX1_hash_11 : decode cX1_hash 11 = .ok (.istore 4, 2) := by decide +kernel
theorem gdX1_hash_0 : decode cX1_hash 0 = .ok (.iconst 0, 1) := by decide +kernel
theorem gdX1_hash_1 : decode cX1_hash 1 = .ok (.istore_n 3, 1) := by decide +kernel
theorem gdX5_trait_56 : decode cX5_trait 56 = .ok (.ireturn, 1) := by decide +kernel
theorem gdX5_trait_0 : decode cX5_trait 0 = .ok (.iload_n 2, 1) := by decide +kernel
theorem gdX5_trait_1 : decode cX5_trait 1 = .ok (.tableswitch 56 0 2 #[27, 34, 41], 27) := by decide +kernel
theorem gdX5_trait_28 : decode cX5_trait 28 = .ok (.aload_n 0, 1) := by decide +kernel
theorem gdX5_trait_29 : decode cX5_trait 29 = .ok (.getfield 11, 3) := by decide +kernel
theorem gdX5_trait_32 : decode cX5_trait 32 = .ok (.iload_n 1, 1) := by decide +kernel
theorem gdX5_trait_33 : decode cX5_trait 33 = .ok (.iaload, 1) := by decide +kernel
theorem gdX5_trait_34 : decode cX5_trait 34 = .ok (.ireturn, 1) := by decide +kernel
theorem gdX5_trait_35 : decode cX5_trait 35 = .ok (.aload_n 0, 1) := by decide +kernel
theorem gdX5_trait_36 : decode cX5_trait 36 = .ok (.getfield 15, 3) := by decide +kernel
theorem gdX5_trait_39 : decode cX5_trait 39 = .ok (.iload_n 1, 1) := by decide +kernel
theorem gdX5_trait_40 : decode cX5_trait 40 = .ok (.iaload, 1) := by decide +kernel
theorem gdX5_trait_41 : decode cX5_trait 41 = .ok (.ireturn, 1) := by decide +kernel
theorem gdX5_trait_42 : decode cX5_trait 42 = .ok (.aload_n 0, 1) := by decide +kernel
theorem gdX5_trait_43 : decode cX5_trait 43 = .ok (.getfield 18, 3) := by decide +kernel
theorem gdX5_trait_46 : decode cX5_trait 46 = .ok (.iload_n 1, 1) := by decide +kernel
theorem gdX5_trait_47 : decode cX5_trait 47 = .ok (.baload, 1) := by decide +kernel
theorem gdX5_trait_48 : decode cX5_trait 48 = .ok (.ifCond .eq 7, 3) := by decide +kernel
theorem gdX5_trait_55 : decode cX5_trait 55 = .ok (.iconst 0, 1) := by decide +kernel
theorem gdX5_trait_51 : decode cX5_trait 51 = .ok (.iconst 1, 1) := by decide +kernel
theorem gdX5_trait_52 : decode cX5_trait 52 = .ok (.goto 4, 3) := by decide +kernel
theorem gdX5_trait_57 : decode cX5_trait 57 = .ok (.aload_n 0, 1) := by decide +kernel
theorem gdX5_trait_58 : decode cX5_trait 58 = .ok (.getfield 22, 3) := by decide +kernel
theorem gdX5_trait_61 : decode cX5_trait 61 = .ok (.iload_n 1, 1) := by decide +kernel
theorem gdX5_trait_62 : decode cX5_trait 62 = .ok (.iaload, 1) := by decide +kernel
theorem gdX5_trait_63 : decode cX5_trait 63 = .ok (.ireturn, 1) := by decide +kernel
theorem gdX5_hash_46 : decode cX5_hash 46 = .ok (.lload_n 1, 1) := by decide +kernel
theorem gdX5_hash_47 : decode cX5_hash 47 = .ok (.lreturn, 1) := by decide +kernel
theorem gdX5_hash_40 : decode cX5_hash 40 = .ok (.iinc 3 1, 3) := by decide +kernel
theorem gdX5_hash_43 : decode cX5_hash 43 = .ok (.goto (-41), 3) := by decide +kernel
theorem gdX5_hash_13 : decode cX5_hash 13 = .ok (.iload 4, 2) := by decide +kernel
theorem gdX5_hash_15 : decode cX5_hash 15 = .ok (.iconst 3, 1) := by decide +kernel
theorem gdX5_hash_16 : decode cX5_hash 16 = .ok (.if_icmp .gt 24, 3) := by decide +kernel
theorem gdX5_hash_19 : decode cX5_hash 19 = .ok (.ldc2_w 29, 3) := by decide +kernel
theorem gdX5_hash_22 : decode cX5_hash 22 = .ok (.lload_n 1, 1) := by decide +kernel
theorem gdX5_hash_23 : decode cX5_hash 23 = .ok (.lmul, 1) := by decide +kernel
theorem gdX5_hash_24 : decode cX5_hash 24 = .ok (.aload_n 0, 1) := by decide +kernel
theorem gdX5_hash_25 : decode cX5_hash 25 = .ok (.iload_n 3, 1) := by decide +kernel
theorem gdX5_hash_26 : decode cX5_hash 26 = .ok (.iload 4, 2) := by decide +kernel
theorem gdX5_hash_28 : decode cX5_hash 28 = .ok (.invokevirtual 31, 3) := by decide +kernel
theorem gdX5_hash_31 : decode cX5_hash 31 = .ok (.i2l, 1) := by decide +kernel
theorem gdX5_hash_32 : decode cX5_hash 32 = .ok (.ladd, 1) := by decide +kernel
theorem gdX5_hash_33 : decode cX5_hash 33 = .ok (.lstore_n 1, 1) := by decide +kernel
theorem gdX5_hash_34 : decode cX5_hash 34 = .ok (.iinc 4 1, 3) := by decide +kernel
theorem gdX5_hash_37 : decode cX5_hash 37 = .ok (.goto (-24), 3) := by decide +kernel
theorem gdX5_hash_2 : decode cX5_hash 2 = .ok (.iload_n 3, 1) := by decide +kernel
theorem gdX5_hash_3 : decode cX5_hash 3 = .ok (.aload_n 0, 1) := by decide +kernel
theorem gdX5_hash_4 : decode cX5_hash 4 = .ok (.getfield 25, 3) := by decide +kernel
theorem gdX5_hash_7 : decode cX5_hash 7 = .ok (.if_icmp .ge 39, 3) := by decide +kernel
theorem gdX5_hash_10 : decode cX5_hash 10 = .ok (.iconst 0, 1) := by decide +kernel
theorem gdX5_hash_11 : decode cX5_hash 11 = .ok (.istore 4, 2) := by decide +kernel
theorem gdX5_hash_0 : decode cX5_hash 0 = .ok (.iconst 0, 1) := by decide +kernel
theorem gdX5_hash_1 : decode cX5_hash 1 = .ok (.istore_n 3, 1) := by decide +kernel
theorem gdX7_hash_44 : decode cX7_hash 44 = .ok (.lload_n 1, 1) := by decide +kernel
theorem gdX7_hash_45 : decode cX7_hash 45 = .ok (.lreturn, 1) := by decide +kernel
theorem gdX7_hash_2 : decode cX7_hash 2 = .ok (.iload_n 3, 1) := by decide +kernel
theorem gdX7_hash_3 : decode cX7_hash 3 = .ok (.aload_n 0, 1) := by decide +kernel
theorem gdX7_hash_4 : decode cX7_hash 4 = .ok (.getfield 21, 3) := by decide +kernel
theorem gdX7_hash_7 : decode cX7_hash 7 = .ok (.if_icmp .ge 37, 3) := by decide +kernel
theorem gdX7_hash_10 : decode cX7_hash 10 = .ok (.ldc2_w 70, 3) := by decide +kernel
theorem gdX7_hash_13 : decode cX7_hash 13 = .ok (.lload_n 1, 1) := by decide +kernel
theorem gdX7_hash_14 : decode cX7_hash 14 = .ok (.lmul, 1) := by decide +kernel
theorem gdX7_hash_15 : decode cX7_hash 15 = .ok (.aload_n 0, 1) := by decide +kernel
theorem gdX7_hash_16 : decode cX7_hash 16 = .ok (.getfield 11, 3) := by decide +kernel
theorem gdX7_hash_19 : decode cX7_hash 19 = .ok (.iload_n 3, 1) := by decide +kernel
theorem gdX7_hash_20 : decode cX7_hash 20 = .ok (.iaload, 1) := by decide +kernel
theorem gdX7_hash_21 : decode cX7_hash 21 = .ok (.i2l, 1) := by decide +kernel
theorem gdX7_hash_22 : decode cX7_hash 22 = .ok (.ladd, 1) := by decide +kernel
theorem gdX7_hash_23 : decode cX7_hash 23 = .ok (.lstore_n 1, 1) := by decide +kernel
theorem gdX7_hash_24 : decode cX7_hash 24 = .ok (.ldc2_w 70, 3) := by decide +kernel
theorem gdX7_hash_27 : decode cX7_hash 27 = .ok (.lload_n 1, 1) := by decide +kernel
theorem gdX7_hash_28 : decode cX7_hash 28 = .ok (.lmul, 1) := by decide +kernel
theorem gdX7_hash_29 : decode cX7_hash 29 = .ok (.aload_n 0, 1) := by decide +kernel
theorem gdX7_hash_30 : decode cX7_hash 30 = .ok (.getfield 15, 3) := by decide +kernel
theorem gdX7_hash_33 : decode cX7_hash 33 = .ok (.iload_n 3, 1) := by decide +kernel
theorem gdX7_hash_34 : decode cX7_hash 34 = .ok (.iaload, 1) := by decide +kernel
theorem gdX7_hash_35 : decode cX7_hash 35 = .ok (.i2l, 1) := by decide +kernel
theorem gdX7_hash_36 : decode cX7_hash 36 = .ok (.ladd, 1) := by decide +kernel
theorem gdX7_hash_37 : decode cX7_hash 37 = .ok (.lstore_n 1, 1) := by decide +kernel
theorem gdX7_hash_38 : decode cX7_hash 38 = .ok (.iinc 3 1, 3) := by decide +kernel
theorem gdX7_hash_41 : decode cX7_hash 41 = .ok (.goto (-39), 3) := by decide +kernel
theorem gdX7_hash_0 : decode cX7_hash 0 = .ok (.iconst 0, 1) := by decide +kernel
theorem gdX7_hash_1 : decode cX7_hash 1 = .ok (.istore_n 3, 1) := by decide +kernel
theorem gdX4_trait_0 : decode cX4_trait 0 = .ok (.iload_n 2, 1) := by decide +kernel
theorem gdX4_trait_1 : decode cX4_trait 1 = .ok (.lookupswitch 41 #[(0, 27), (1, 34)], 27) := by decide +kernel
theorem gdX4_trait_28 : decode cX4_trait 28 = .ok (.aload_n 0, 1) := by decide +kernel
theorem gdX4_trait_29 : decode cX4_trait 29 = .ok (.getfield 11, 3) := by decide +kernel
theorem gdX4_trait_32 : decode cX4_trait 32 = .ok (.iload_n 1, 1) := by decide +kernel
theorem gdX4_trait_33 : decode cX4_trait 33 = .ok (.iaload, 1) := by decide +kernel
theorem gdX4_trait_34 : decode cX4_trait 34 = .ok (.ireturn, 1) := by decide +kernel
theorem gdX4_trait_35 : decode cX4_trait 35 = .ok (.aload_n 0, 1) := by decide +kernel
theorem gdX4_trait_36 : decode cX4_trait 36 = .ok (.getfield 15, 3) := by decide +kernel
theorem gdX4_trait_39 : decode cX4_trait 39 = .ok (.iload_n 1, 1) := by decide +kernel
theorem gdX4_trait_40 : decode cX4_trait 40 = .ok (.iaload, 1) := by decide +kernel
theorem gdX4_trait_41 : decode cX4_trait 41 = .ok (.ireturn, 1) := by decide +kernel
theorem gdX4_trait_42 : decode cX4_trait 42 = .ok (.aload_n 0, 1) := by decide +kernel
theorem gdX4_trait_43 : decode cX4_trait 43 = .ok (.getfield 18, 3) := by decide +kernel
theorem gdX4_trait_46 : decode cX4_trait 46 = .ok (.iload_n 1, 1) := by decide +kernel
theorem gdX4_trait_47 : decode cX4_trait 47 = .ok (.iaload, 1) := by decide +kernel
theorem gdX4_trait_48 : decode cX4_trait 48 = .ok (.ireturn, 1) := by decide +kernel
theorem gdX4_hash_121 : decode cX4_hash 121 = .ok (.lload_n 1, 1) := by decide +kernel
theorem gdX4_hash_122 : decode cX4_hash 122 = .ok (.lreturn, 1) := by decide +kernel
theorem gdX4_hash_115 : decode cX4_hash 115 = .ok (.iinc 3 1, 3) := by decide +kernel
theorem gdX4_hash_118 : decode cX4_hash 118 = .ok (.goto (-116), 3) := by decide +kernel
theorem gdX4_hash_83 : decode cX4_hash 83 = .ok (.iload 4, 2) := by decide +kernel
theorem gdX4_hash_85 : decode cX4_hash 85 = .ok (.aload_n 0, 1) := by decide +kernel
theorem gdX4_hash_86 : decode cX4_hash 86 = .ok (.getfield 21, 3) := by decide +kernel
theorem gdX4_hash_89 : decode cX4_hash 89 = .ok (.iload_n 3, 1) := by decide +kernel
theorem gdX4_hash_90 : decode cX4_hash 90 = .ok (.iaload, 1) := by decide +kernel
theorem gdX4_hash_91 : decode cX4_hash 91 = .ok (.if_icmp .ge 24, 3) := by decide +kernel
theorem gdX4_hash_94 : decode cX4_hash 94 = .ok (.ldc2_w 62, 3) := by decide +kernel
theorem gdX4_hash_97 : decode cX4_hash 97 = .ok (.lload_n 1, 1) := by decide +kernel
theorem gdX4_hash_98 : decode cX4_hash 98 = .ok (.lmul, 1) := by decide +kernel
theorem gdX4_hash_99 : decode cX4_hash 99 = .ok (.aload_n 0, 1) := by decide +kernel
theorem gdX4_hash_100 : decode cX4_hash 100 = .ok (.iload_n 3, 1) := by decide +kernel
theorem gdX4_hash_101 : decode cX4_hash 101 = .ok (.iload 4, 2) := by decide +kernel
theorem gdX4_hash_103 : decode cX4_hash 103 = .ok (.invokevirtual 72, 3) := by decide +kernel
theorem gdX4_hash_106 : decode cX4_hash 106 = .ok (.i2l, 1) := by decide +kernel
theorem gdX4_hash_107 : decode cX4_hash 107 = .ok (.ladd, 1) := by decide +kernel
theorem gdX4_hash_108 : decode cX4_hash 108 = .ok (.lstore_n 1, 1) := by decide +kernel
theorem gdX4_hash_109 : decode cX4_hash 109 = .ok (.iinc 4 1, 3) := by decide +kernel
theorem gdX4_hash_112 : decode cX4_hash 112 = .ok (.goto (-29), 3) := by decide +kernel
theorem gdX4_hash_40 : decode cX4_hash 40 = .ok (.aload_n 0, 1) := by decide +kernel
theorem gdX4_hash_41 : decode cX4_hash 41 = .ok (.iload_n 3, 1) := by decide +kernel
theorem gdX4_hash_42 : decode cX4_hash 42 = .ok (.iconst 1, 1) := by decide +kernel
theorem gdX4_hash_43 : decode cX4_hash 43 = .ok (.invokevirtual 68, 3) := by decide +kernel
theorem gdX4_hash_46 : decode cX4_hash 46 = .ok (.ifCond .ne 6, 3) := by decide +kernel
theorem gdX4_hash_52 : decode cX4_hash 52 = .ok (.ldc2_w 62, 3) := by decide +kernel
theorem gdX4_hash_55 : decode cX4_hash 55 = .ok (.lload_n 1, 1) := by decide +kernel
theorem gdX4_hash_56 : decode cX4_hash 56 = .ok (.lmul, 1) := by decide +kernel
theorem gdX4_hash_57 : decode cX4_hash 57 = .ok (.aload_n 0, 1) := by decide +kernel
theorem gdX4_hash_58 : decode cX4_hash 58 = .ok (.getfield 33, 3) := by decide +kernel
theorem gdX4_hash_61 : decode cX4_hash 61 = .ok (.iload_n 3, 1) := by decide +kernel
theorem gdX4_hash_62 : decode cX4_hash 62 = .ok (.iaload, 1) := by decide +kernel
theorem gdX4_hash_63 : decode cX4_hash 63 = .ok (.i2l, 1) := by decide +kernel
theorem gdX4_hash_64 : decode cX4_hash 64 = .ok (.ladd, 1) := by decide +kernel
theorem gdX4_hash_65 : decode cX4_hash 65 = .ok (.lstore_n 1, 1) := by decide +kernel
theorem gdX4_hash_66 : decode cX4_hash 66 = .ok (.ldc2_w 62, 3) := by decide +kernel
theorem gdX4_hash_69 : decode cX4_hash 69 = .ok (.lload_n 1, 1) := by decide +kernel
theorem gdX4_hash_70 : decode cX4_hash 70 = .ok (.lmul, 1) := by decide +kernel
theorem gdX4_hash_71 : decode cX4_hash 71 = .ok (.aload_n 0, 1) := by decide +kernel
theorem gdX4_hash_72 : decode cX4_hash 72 = .ok (.getfield 36, 3) := by decide +kernel
theorem gdX4_hash_75 : decode cX4_hash 75 = .ok (.iload_n 3, 1) := by decide +kernel
theorem gdX4_hash_76 : decode cX4_hash 76 = .ok (.iaload, 1) := by decide +kernel
theorem gdX4_hash_77 : decode cX4_hash 77 = .ok (.i2l, 1) := by decide +kernel
theorem gdX4_hash_78 : decode cX4_hash 78 = .ok (.ladd, 1) := by decide +kernel
theorem gdX4_hash_79 : decode cX4_hash 79 = .ok (.lstore_n 1, 1) := by decide +kernel
theorem gdX4_hash_80 : decode cX4_hash 80 = .ok (.iconst 0, 1) := by decide +kernel
theorem gdX4_hash_81 : decode cX4_hash 81 = .ok (.istore 4, 2) := by decide +kernel
theorem gdX4_hash_49 : decode cX4_hash 49 = .ok (.goto 66, 3) := by decide +kernel
theorem gdX4_hash_13 : decode cX4_hash 13 = .ok (.iload 4, 2) := by decide +kernel
theorem gdX4_hash_15 : decode cX4_hash 15 = .ok (.iconst 2, 1) := by decide +kernel
theorem gdX4_hash_16 : decode cX4_hash 16 = .ok (.if_icmp .gt 24, 3) := by decide +kernel
theorem gdX4_hash_19 : decode cX4_hash 19 = .ok (.ldc2_w 62, 3) := by decide +kernel
theorem gdX4_hash_22 : decode cX4_hash 22 = .ok (.lload_n 1, 1) := by decide +kernel
theorem gdX4_hash_23 : decode cX4_hash 23 = .ok (.lmul, 1) := by decide +kernel
theorem gdX4_hash_24 : decode cX4_hash 24 = .ok (.aload_n 0, 1) := by decide +kernel
theorem gdX4_hash_25 : decode cX4_hash 25 = .ok (.iload_n 3, 1) := by decide +kernel
theorem gdX4_hash_26 : decode cX4_hash 26 = .ok (.iload 4, 2) := by decide +kernel
theorem gdX4_hash_28 : decode cX4_hash 28 = .ok (.invokevirtual 64, 3) := by decide +kernel
theorem gdX4_hash_31 : decode cX4_hash 31 = .ok (.i2l, 1) := by decide +kernel
theorem gdX4_hash_32 : decode cX4_hash 32 = .ok (.ladd, 1) := by decide +kernel
theorem gdX4_hash_33 : decode cX4_hash 33 = .ok (.lstore_n 1, 1) := by decide +kernel
theorem gdX4_hash_34 : decode cX4_hash 34 = .ok (.iinc 4 1, 3) := by decide +kernel
theorem gdX4_hash_37 : decode cX4_hash 37 = .ok (.goto (-24), 3) := by decide +kernel
theorem gdX4_hash_2 : decode cX4_hash 2 = .ok (.iload_n 3, 1) := by decide +kernel
theorem gdX4_hash_3 : decode cX4_hash 3 = .ok (.aload_n 0, 1) := by decide +kernel
theorem gdX4_hash_4 : decode cX4_hash 4 = .ok (.getfield 54, 3) := by decide +kernel
theorem gdX4_hash_7 : decode cX4_hash 7 = .ok (.if_icmp .ge 114, 3) := by decide +kernel
theorem gdX4_hash_10 : decode cX4_hash 10 = .ok (.iconst 0, 1) := by decide +kernel
theorem gdX4_hash_11 : decode cX4_hash 11 = .ok (.istore 4, 2) := by decide +kernel
theorem gdX4_hash_0 : decode cX4_hash 0 = .ok (.iconst 0, 1) := by decide +kernel
theorem gdX4_hash_1 : decode cX4_hash 1 = .ok (.istore_n 3, 1) := by decide +kernel
theorem gdX8_hash_65 : decode cX8_hash 65 = .ok (.lload_n 1, 1) := by decide +kernel
theorem gdX8_hash_66 : decode cX8_hash 66 = .ok (.lreturn, 1) := by decide +kernel
theorem gdX8_hash_59 : decode cX8_hash 59 = .ok (.iinc 3 1, 3) := by decide +kernel
theorem gdX8_hash_62 : decode cX8_hash 62 = .ok (.goto (-60), 3) := by decide +kernel
theorem gdX8_hash_27 : decode cX8_hash 27 = .ok (.iload 4, 2) := by decide +kernel
theorem gdX8_hash_29 : decode cX8_hash 29 = .ok (.aload_n 0, 1) := by decide +kernel
theorem gdX8_hash_30 : decode cX8_hash 30 = .ok (.getfield 9, 3) := by decide +kernel
theorem gdX8_hash_33 : decode cX8_hash 33 = .ok (.iload_n 3, 1) := by decide +kernel
theorem gdX8_hash_34 : decode cX8_hash 34 = .ok (.iaload, 1) := by decide +kernel
theorem gdX8_hash_35 : decode cX8_hash 35 = .ok (.if_icmp .ge 24, 3) := by decide +kernel
theorem gdX8_hash_38 : decode cX8_hash 38 = .ok (.ldc2_w 51, 3) := by decide +kernel
theorem gdX8_hash_41 : decode cX8_hash 41 = .ok (.lload_n 1, 1) := by decide +kernel
theorem gdX8_hash_42 : decode cX8_hash 42 = .ok (.lmul, 1) := by decide +kernel
theorem gdX8_hash_43 : decode cX8_hash 43 = .ok (.aload_n 0, 1) := by decide +kernel
theorem gdX8_hash_44 : decode cX8_hash 44 = .ok (.iload_n 3, 1) := by decide +kernel
theorem gdX8_hash_45 : decode cX8_hash 45 = .ok (.iload 4, 2) := by decide +kernel
theorem gdX8_hash_47 : decode cX8_hash 47 = .ok (.invokevirtual 44, 3) := by decide +kernel
theorem gdX8_hash_50 : decode cX8_hash 50 = .ok (.i2l, 1) := by decide +kernel
theorem gdX8_hash_51 : decode cX8_hash 51 = .ok (.ladd, 1) := by decide +kernel
theorem gdX8_hash_52 : decode cX8_hash 52 = .ok (.lstore_n 1, 1) := by decide +kernel
theorem gdX8_hash_53 : decode cX8_hash 53 = .ok (.iinc 4 1, 3) := by decide +kernel
theorem gdX8_hash_56 : decode cX8_hash 56 = .ok (.goto (-29), 3) := by decide +kernel
theorem gdX8_hash_2 : decode cX8_hash 2 = .ok (.iload_n 3, 1) := by decide +kernel
theorem gdX8_hash_3 : decode cX8_hash 3 = .ok (.aload_n 0, 1) := by decide +kernel
theorem gdX8_hash_4 : decode cX8_hash 4 = .ok (.getfield 22, 3) := by decide +kernel
theorem gdX8_hash_7 : decode cX8_hash 7 = .ok (.if_icmp .ge 58, 3) := by decide +kernel
theorem gdX8_hash_10 : decode cX8_hash 10 = .ok (.ldc2_w 51, 3) := by decide +kernel
theorem gdX8_hash_13 : decode cX8_hash 13 = .ok (.lload_n 1, 1) := by decide +kernel
theorem gdX8_hash_14 : decode cX8_hash 14 = .ok (.lmul, 1) := by decide +kernel
theorem gdX8_hash_15 : decode cX8_hash 15 = .ok (.aload_n 0, 1) := by decide +kernel
theorem gdX8_hash_16 : decode cX8_hash 16 = .ok (.getfield 9, 3) := by decide +kernel
theorem gdX8_hash_19 : decode cX8_hash 19 = .ok (.iload_n 3, 1) := by decide +kernel
theorem gdX8_hash_20 : decode cX8_hash 20 = .ok (.iaload, 1) := by decide +kernel
theorem gdX8_hash_21 : decode cX8_hash 21 = .ok (.i2l, 1) := by decide +kernel
theorem gdX8_hash_22 : decode cX8_hash 22 = .ok (.ladd, 1) := by decide +kernel
theorem gdX8_hash_23 : decode cX8_hash 23 = .ok (.lstore_n 1, 1) := by decide +kernel
theorem gdX8_hash_24 : decode cX8_hash 24 = .ok (.iconst 0, 1) := by decide +kernel
theorem gdX8_hash_25 : decode cX8_hash 25 = .ok (.istore 4, 2) := by decide +kernel
theorem gdX8_hash_0 : decode cX8_hash 0 = .ok (.iconst 0, 1) := by decide +kernel
theorem gdX8_hash_1 : decode cX8_hash 1 = .ok (.istore_n 3, 1) := by decide +kernel
theorem okm_X1_assess : okM yX1_assess cX1_assess 4 none 3 := ⟨w_662, w_94, by decide +kernel, by decide +kernel, by decide +kernel⟩
theorem okw_X1_assess : okV yX1_assess := ⟨w_660, w_661⟩
theorem okm_X3_isCell : okM yX3_isCell cX3_isCell 1 (some .boolean) 1 := ⟨w_623, w_93, by decide +kernel, by decide +kernel, by decide +kernel⟩
theorem okm_X1_isUse : okM yX1_isUse cX1_isUse 1 (some .boolean) 1 := ⟨w_638, w_94, by decide +kernel, by decide +kernel, by decide +kernel⟩
theorem okm_X1_isWorth : okM yX1_isWorth cX1_isWorth 1 (some .boolean) 1 := ⟨w_641, w_94, by decide +kernel, by decide +kernel, by decide +kernel⟩
theorem okm_X1_number : okM yX1_number cX1_number 1 (some .int) 0 := ⟨w_646, w_94, by decide +kernel, by decide +kernel, by decide +kernel⟩
theorem okw_X1_number : okV yX1_number := ⟨w_644, w_645⟩
theorem okm_X1_tellingsLeft : okM yX1_tellingsLeft cX1_tellingsLeft 1 (some .int) 0 := ⟨w_650, w_94, by decide +kernel, by decide +kernel, by decide +kernel⟩
theorem okw_X1_tellingsLeft : okV yX1_tellingsLeft := ⟨w_648, w_649⟩
theorem okm_X3_isWater : okM yX3_isWater cX3_isWater 2 (some .boolean) 1 := ⟨w_654, w_93, by decide +kernel, by decide +kernel, by decide +kernel⟩
theorem okw_X3_isWater : okV yX3_isWater := ⟨w_652, w_653⟩
theorem okm_X1_standingOn : okM yX1_standingOn cX1_standingOn 2 (some .int) 1 := ⟨w_627, w_94, by decide +kernel, by decide +kernel, by decide +kernel⟩
theorem okw_X1_standingOn : okV yX1_standingOn := ⟨w_625, w_626⟩
theorem okm_X1_add : okM yX1_add cX1_add 7 (some .int) 5 := ⟨w_658, w_94, by decide +kernel, by decide +kernel, by decide +kernel⟩
theorem okw_X1_add : okV yX1_add := ⟨w_656, w_657⟩
theorem okm_X1_exists : okM yX1_exists cX1_exists 2 (some .boolean) 1 := ⟨w_670, w_94, by decide +kernel, by decide +kernel, by decide +kernel⟩
theorem okw_X1_exists : okV yX1_exists := ⟨w_668, w_669⟩
theorem okm_X5_exists : okM yX5_exists cX5_exists 2 (some .boolean) 1 := ⟨w_738, w_95, by decide +kernel, by decide +kernel, by decide +kernel⟩
theorem okw_X5_exists : okV yX5_exists := ⟨w_736, w_737⟩
theorem okm_X2_buys : okM yX2_buys cX2_buys 1 (some .int) 0 := ⟨w_1073, w_98, by decide +kernel, by decide +kernel, by decide +kernel⟩
theorem okw_X2_buys : okV yX2_buys := ⟨w_1071, w_1072⟩
theorem okm_X1_isTaken : okM yX1_isTaken cX1_isTaken 2 (some .boolean) 1 := ⟨w_674, w_94, by decide +kernel, by decide +kernel, by decide +kernel⟩
theorem okw_X1_isTaken : okV yX1_isTaken := ⟨w_672, w_673⟩
theorem okm_X1_setBuyer : okM yX1_setBuyer cX1_setBuyer 3 none 2 := ⟨w_1077, w_94, by decide +kernel, by decide +kernel, by decide +kernel⟩
theorem okw_X1_setBuyer : okV yX1_setBuyer := ⟨w_1075, w_1076⟩
theorem okm_X2_addBuy : okM yX2_addBuy cX2_addBuy 4 (some .int) 3 := ⟨w_1081, w_98, by decide +kernel, by decide +kernel, by decide +kernel⟩
theorem okw_X2_addBuy : okV yX2_addBuy := ⟨w_1079, w_1080⟩
theorem okm_X3_change : okM yX3_change cX3_change 4 none 3 := ⟨w_631, w_93, by decide +kernel, by decide +kernel, by decide +kernel⟩
theorem okw_X3_change : okV yX3_change := ⟨w_629, w_630⟩
theorem okm_X4_exists : okM yX4_exists cX4_exists 2 (some .boolean) 1 := ⟨w_885, w_97, by decide +kernel, by decide +kernel, by decide +kernel⟩
theorem okw_X4_exists : okV yX4_exists := ⟨w_883, w_884⟩
theorem okm_X4_isOf : okM yX4_isOf cX4_isOf 4 (some .boolean) 2 := ⟨w_889, w_97, by decide +kernel, by decide +kernel, by decide +kernel⟩
theorem okw_X4_isOf : okV yX4_isOf := ⟨w_887, w_888⟩
theorem okm_X4_cellAt : okM yX4_cellAt cX4_cellAt 3 (some .int) 2 := ⟨w_914, w_97, by decide +kernel, by decide +kernel, by decide +kernel⟩
theorem okw_X4_cellAt : okV yX4_cellAt := ⟨w_912, w_913⟩
theorem okm_X8_holdsFrom : okM yX8_holdsFrom cX8_holdsFrom 4 (some .boolean) 3 := ⟨w_570, w_90, by decide +kernel, by decide +kernel, by decide +kernel⟩
theorem okw_X8_holdsFrom : okV yX8_holdsFrom := ⟨w_568, w_569⟩
theorem okm_X8_transfer : okM yX8_transfer cX8_transfer 6 none 5 := ⟨w_574, w_90, by decide +kernel, by decide +kernel, by decide +kernel⟩
theorem okw_X8_transfer : okV yX8_transfer := ⟨w_572, w_573⟩
theorem okm_X3_bit : okM yX3_bit cX3_bit 1 (some .long) 1 := ⟨w_843, w_93, by decide +kernel, by decide +kernel, by decide +kernel⟩
theorem okm_X1_standingCells : okM yX1_standingCells cX1_standingCells 4 (some .long) 0 := ⟨w_933, w_94, by decide +kernel, by decide +kernel, by decide +kernel⟩
theorem okw_X1_standingCells : okV yX1_standingCells := ⟨w_931, w_932⟩
theorem okm_J13_bitCount_95d88 : okM yJ13_bitCount_95d88 cJ13_bitCount_95d88 2 (some .int) 1 := ⟨w_937, w_105, by decide +kernel, by decide +kernel, by decide +kernel⟩
theorem okm_X1_standingIn : okM yX1_standingIn cX1_standingIn 3 (some .int) 1 := ⟨w_929, w_94, by decide +kernel, by decide +kernel, by decide +kernel⟩
theorem okw_X1_standingIn : okV yX1_standingIn := ⟨w_927, w_928⟩
theorem okm_X5_number : okM yX5_number cX5_number 1 (some .int) 0 := ⟨w_706, w_95, by decide +kernel, by decide +kernel, by decide +kernel⟩
theorem okw_X5_number : okV yX5_number := ⟨w_704, w_705⟩
theorem okm_X5_homeless : okM yX5_homeless cX5_homeless 3 (some .int) 0 := ⟨w_1400, w_95, by decide +kernel, by decide +kernel, by decide +kernel⟩
theorem okw_X5_homeless : okV yX5_homeless := ⟨w_1398, w_1399⟩
theorem okm_X7_number : okM yX7_number cX7_number 1 (some .int) 0 := ⟨w_755, w_96, by decide +kernel, by decide +kernel, by decide +kernel⟩
theorem okw_X7_number : okV yX7_number := ⟨w_753, w_754⟩
theorem okm_X1_tellings : okM yX1_tellings cX1_tellings 1 (some .int) 0 := ⟨w_1404, w_94, by decide +kernel, by decide +kernel, by decide +kernel⟩
theorem okw_X1_tellings : okV yX1_tellings := ⟨w_1402, w_1403⟩
theorem okm_X8_present : okM yX8_present cX8_present 3 (some .int) 0 := ⟨w_1408, w_90, by decide +kernel, by decide +kernel, by decide +kernel⟩
theorem okw_X8_present : okV yX8_present := ⟨w_1406, w_1407⟩
theorem okm_X1_trait : okM yX1_trait cX1_trait 3 (some .int) 2 := ⟨w_698, w_94, by decide +kernel, by decide +kernel, by decide +kernel⟩
theorem okw_X1_trait : okV yX1_trait := ⟨w_696, w_697⟩
theorem okm_X5_trait : okM yX5_trait cX5_trait 3 (some .int) 2 := ⟨w_742, w_95, by decide +kernel, by decide +kernel, by decide +kernel⟩
theorem okw_X5_trait : okV yX5_trait := ⟨w_740, w_741⟩
theorem okm_X4_trait : okM yX4_trait cX4_trait 3 (some .int) 2 := ⟨w_1018, w_97, by decide +kernel, by decide +kernel, by decide +kernel⟩
theorem okw_X4_trait : okV yX4_trait := ⟨w_1016, w_1017⟩
set_option maxHeartbeats 4000000 in
set_option maxRecDepth 100000 in
theorem c_X1_tellingsLeft (l : Launch) (g : GG) (ad : Nat → Nat) (o : OO) (v : Int) (h : s_X1_tellingsLeft o = some v) : CI l g yX1_tellingsLeft cX1_tellingsLeft 1 (some .int) 0 0 (wC g ad o) [.ref (ad 10)] v (wC g ad o) := by
  refine met_I (by decide) (Nat.le_of_ble_eq_true rfl) ?_
  intro X E hQ
  show Go X 0 (wC g ad o) [(0, .ref (ad 10))] []
  unfold s_X1_tellingsLeft at h
  refine g_bipush E gdX1_tellingsLeft_0 (by decide) ?_
  refine g_aload_n E gdX1_tellingsLeft_2 rfl 0 rfl ?_
  refine g_get (T := TX1) E fw_X1 10 (wC_10 g ad o) rfl 13 (by decide) w_173 rfl rfl gdX1_tellingsLeft_3 ?_
  refine g_isub E gdX1_tellingsLeft_6 ?_
  exact g_iret E hQ (Option.some.inj h) rfl gdX1_tellingsLeft_7
set_option maxHeartbeats 4000000 in
set_option maxRecDepth 100000 in
theorem c_X3_isWater (l : Launch) (g : GG) (ad : Nat → Nat) (o : OO) (x1 : Int) (v : Int) (h : s_X3_isWater o x1 = some v) : CI l g yX3_isWater cX3_isWater 2 (some .boolean) 0 0 (wC g ad o) [.ref (ad 7), iv x1] v (wC g ad o) := by
  refine met_I (by decide) (Nat.le_of_ble_eq_true rfl) ?_
  intro X E hQ
  show Go X 0 (wC g ad o) [(0, .ref (ad 7)), (1, iv x1)] []
  have j15 : ∀ (y0 : Int), b_X3_isWater_15 o y0 = some v → Go X 15 (wC g ad o) [] [iv y0] := by
    intro y0 h
    unfold b_X3_isWater_15 at h
    obtain ⟨hz, h⟩ := qZ_of h
    exact g_zret E hQ hz (Option.some.inj h) rfl gdX3_isWater_15
  unfold s_X3_isWater at h
  refine g_aload_n E gdX3_isWater_0 rfl 0 rfl ?_
  refine g_get (T := TX3) E fw_X3 7 (wC_7 g ad o) rfl 0 (by decide) w_146 rfl rfl gdX3_isWater_1 ?_
  refine g_iload_n E gdX3_isWater_4 rfl 1 rfl ?_
  obtain ⟨hi1, h⟩ := qIn_of h
  refine g_iald E 8 (wC_8 g ad o) (by decide) hi1 gdX3_isWater_5 ?_
  obtain ⟨n2, e_n2, h⟩ := qNm_of h
  refine g_nmi e_n2 ?_
  refine g_iconst E gdX3_isWater_6 ?_
  refine g_icmp_ne E 14 gdX3_isWater_7 (by decide) h (fun h => ?_) (fun h => ?_)
  ·
    refine g_iconst E gdX3_isWater_14 ?_
    refine g_sub E [] rfl ?_
    exact j15 0 h
  ·
    refine g_iconst E gdX3_isWater_10 ?_
    refine g_goto E 15 gdX3_isWater_11 (by decide) ?_
    refine g_sub E [] rfl ?_
    exact j15 1 h
set_option maxHeartbeats 4000000 in
set_option maxRecDepth 100000 in
theorem c_X1_standingOn (l : Launch) (g : GG) (ad : Nat → Nat) (o : OO) (x1 : Int) (v : Int) (h : s_X1_standingOn o x1 = some v) : CI l g yX1_standingOn cX1_standingOn 2 (some .int) 0 0 (wC g ad o) [.ref (ad 10), iv x1] v (wC g ad o) := by
  refine met_I (by decide) (Nat.le_of_ble_eq_true rfl) ?_
  intro X E hQ
  show Go X 0 (wC g ad o) [(0, .ref (ad 10)), (1, iv x1)] []
  unfold s_X1_standingOn at h
  refine g_aload_n E gdX1_standingOn_0 rfl 0 rfl ?_
  refine g_get (T := TX1) E fw_X1 10 (wC_10 g ad o) rfl 7 (by decide) w_167 rfl rfl gdX1_standingOn_1 ?_
  refine g_iload_n E gdX1_standingOn_4 rfl 1 rfl ?_
  obtain ⟨hi1, h⟩ := qIn_of h
  refine g_iald E 18 (wC_18 g ad o) (by decide) hi1 gdX1_standingOn_5 ?_
  obtain ⟨n2, e_n2, h⟩ := qNm_of h
  refine g_nmi e_n2 ?_
  exact g_iret E hQ (Option.some.inj h) rfl gdX1_standingOn_6
set_option maxHeartbeats 4000000 in
set_option maxRecDepth 100000 in
theorem c_X1_assess (l : Launch) (g : GG) (ad : Nat → Nat) (o : OO) (x1 : Int) (x2 : Int) (x3 : Int) (v : OO) (h : s_X1_assess o x1 x2 x3 = some v) : CV l g yX1_assess cX1_assess 4 0 0 (wC g ad o) [.ref (ad 10), iv x1, iv x2, iv x3] (wC g ad v) := by
  refine met_V (by decide) (Nat.le_of_ble_eq_true rfl) ?_
  intro X E hQ
  show Go X 0 (wC g ad o) [(0, .ref (ad 10)), (1, iv x1), (2, iv x2), (3, iv x3)] []
  unfold s_X1_assess at h
  refine g_aload_n E gdX1_assess_0 rfl 0 rfl ?_
  refine g_get (T := TX1) E fw_X1 10 (wC_10 g ad o) rfl 5 (by decide) w_165 rfl rfl gdX1_assess_1 ?_
  refine g_iload_n E gdX1_assess_4 rfl 1 rfl ?_
  refine g_iload_n E gdX1_assess_5 rfl 2 rfl ?_
  obtain ⟨hi1, h⟩ := qIn_of h
  obtain ⟨o2, e_o2, h⟩ := qNm_of h
  refine g_iast (ws' := wC g ad o2) E 16 (wC_16 g ad o) (by decide) hi1 (by rw [e_o2]; exact wC_s16 g ad o _ _) gdX1_assess_6 ?_
  refine g_aload_n E gdX1_assess_7 rfl 0 rfl ?_
  refine g_get (T := TX1) E fw_X1 10 (wC_10 g ad o2) rfl 8 (by decide) w_168 rfl rfl gdX1_assess_8 ?_
  refine g_aload_n E gdX1_assess_11 rfl 0 rfl ?_
  refine g_get (T := TX1) E fw_X1 10 (wC_10 g ad o2) rfl 13 (by decide) w_173 rfl rfl gdX1_assess_12 ?_
  refine g_iload_n E gdX1_assess_15 rfl 1 rfl ?_
  obtain ⟨hi3, h⟩ := qIn_of h
  obtain ⟨o4, e_o4, h⟩ := qNm_of h
  refine g_iast (ws' := wC g ad o4) E 19 (wC_19 g ad o2) (by decide) hi3 (by rw [e_o4]; exact wC_s19 g ad o2 _ _) gdX1_assess_16 ?_
  refine g_aload_n E gdX1_assess_17 rfl 0 rfl ?_
  refine g_get (T := TX1) E fw_X1 10 (wC_10 g ad o4) rfl 9 (by decide) w_169 rfl rfl gdX1_assess_18 ?_
  refine g_aload_n E gdX1_assess_21 rfl 0 rfl ?_
  refine g_get (T := TX1) E fw_X1 10 (wC_10 g ad o4) rfl 13 (by decide) w_173 rfl rfl gdX1_assess_22 ?_
  refine g_iload_n E gdX1_assess_25 rfl 3 rfl ?_
  obtain ⟨hi5, h⟩ := qIn_of h
  obtain ⟨o6, e_o6, h⟩ := qNm_of h
  refine g_iast (ws' := wC g ad o6) E 20 (wC_20 g ad o4) (by decide) hi5 (by rw [e_o6]; exact wC_s20 g ad o4 _ _) gdX1_assess_26 ?_
  refine g_aload_n E gdX1_assess_27 rfl 0 rfl ?_
  refine g_get (T := TX1) E fw_X1 10 (wC_10 g ad o6) rfl 10 (by decide) w_170 rfl rfl gdX1_assess_28 ?_
  refine g_aload_n E gdX1_assess_31 rfl 0 rfl ?_
  refine g_get (T := TX1) E fw_X1 10 (wC_10 g ad o6) rfl 13 (by decide) w_173 rfl rfl gdX1_assess_32 ?_
  refine g_iload_n E gdX1_assess_35 rfl 2 rfl ?_
  obtain ⟨hi7, h⟩ := qIn_of h
  obtain ⟨o8, e_o8, h⟩ := qNm_of h
  refine g_iast (ws' := wC g ad o8) E 21 (wC_21 g ad o6) (by decide) hi7 (by rw [e_o8]; exact wC_s21 g ad o6 _ _) gdX1_assess_36 ?_
  refine g_aload_n E gdX1_assess_37 rfl 0 rfl ?_
  refine g_dup E gdX1_assess_38 rfl ?_
  refine g_get (T := TX1) E fw_X1 10 (wC_10 g ad o8) rfl 13 (by decide) w_173 rfl rfl gdX1_assess_39 ?_
  refine g_iconst E gdX1_assess_42 ?_
  refine g_iadd E gdX1_assess_43 ?_
  obtain ⟨o9, e_o9, h⟩ := qNm_of h
  refine g_puti (T := TX1) (ws' := wC g ad o9) E fw_X1 tyX1 tyX1_ok nmX1 10 (wC_10 g ad o8) rfl 13 (by decide) w_173 rfl rfl (by decide +kernel) (Nat.le_of_ble_eq_true rfl) (by rw [e_o9]; exact wC_p10_13 g ad o8 _) gdX1_assess_44 ?_
  exact g_vret E hQ (by rw [← Option.some.inj h]) gdX1_assess_47
set_option maxHeartbeats 4000000 in
set_option maxRecDepth 100000 in
theorem c_X1_add (l : Launch) (g : GG) (ad : Nat → Nat) (o : OO) (x1 : Int) (x2 : Int) (x3 : Int) (x4 : Int) (x5 : Int) (v : Int × OO) (h : s_X1_add o x1 x2 x3 x4 x5 = some v) : CI l g yX1_add cX1_add 7 (some .int) 1 23 (wC g ad o) [.ref (ad 10), iv x1, iv x2, iv x3, iv x4, iv x5] v.1 (wC g ad v.2) := by
  refine met_I (by decide) (Nat.le_of_ble_eq_true rfl) ?_
  intro X E hQ
  show Go X 0 (wC g ad o) [(0, .ref (ad 10)), (1, iv x1), (2, iv x2), (3, iv x3), (4, iv x4), (5, iv x5)] []
  unfold s_X1_add at h
  refine g_aload_n E gdX1_add_0 rfl 0 rfl ?_
  refine g_get (T := TX1) E fw_X1 10 (wC_10 g ad o) rfl 12 (by decide) w_172 rfl rfl gdX1_add_1 ?_
  refine g_istore E [(6, iv (o.1 10 12)), (0, .ref (ad 10)), (1, iv x1), (2, iv x2), (3, iv x3), (4, iv x4), (5, iv x5)] gdX1_add_4 (by decide) rfl ?_
  refine g_aload_n E gdX1_add_6 rfl 1 rfl ?_
  refine g_dup E gdX1_add_7 rfl ?_
  refine g_get (T := TX1) E fw_X1 10 (wC_10 g ad o) rfl 12 (by decide) w_172 rfl rfl gdX1_add_8 ?_
  refine g_iconst E gdX1_add_11 ?_
  refine g_iadd E gdX1_add_12 ?_
  obtain ⟨o1, e_o1, h⟩ := qNm_of h
  refine g_puti (T := TX1) (ws' := wC g ad o1) E fw_X1 tyX1 tyX1_ok nmX1 10 (wC_10 g ad o) rfl 12 (by decide) w_172 rfl rfl (by decide +kernel) (Nat.le_of_ble_eq_true rfl) (by rw [e_o1]; exact wC_p10_12 g ad o _) gdX1_add_13 ?_
  refine g_aload_n E gdX1_add_16 rfl 1 rfl ?_
  refine g_get (T := TX1) E fw_X1 10 (wC_10 g ad o1) rfl 0 (by decide) w_160 rfl rfl gdX1_add_17 ?_
  refine g_iload E gdX1_add_20 0 rfl ?_
  refine g_iload_n E gdX1_add_22 rfl 2 rfl ?_
  obtain ⟨hi2, h⟩ := qIn_of h
  obtain ⟨o3, e_o3, h⟩ := qNm_of h
  refine g_iast (ws' := wC g ad o3) E 11 (wC_11 g ad o1) (by decide) hi2 (by rw [e_o3]; exact wC_s11 g ad o1 _ _) gdX1_add_23 ?_
  refine g_aload_n E gdX1_add_24 rfl 1 rfl ?_
  refine g_get (T := TX1) E fw_X1 10 (wC_10 g ad o3) rfl 1 (by decide) w_161 rfl rfl gdX1_add_25 ?_
  refine g_iload E gdX1_add_28 0 rfl ?_
  refine g_iload_n E gdX1_add_30 rfl 3 rfl ?_
  obtain ⟨hi4, h⟩ := qIn_of h
  obtain ⟨o5, e_o5, h⟩ := qNm_of h
  refine g_iast (ws' := wC g ad o5) E 12 (wC_12 g ad o3) (by decide) hi4 (by rw [e_o5]; exact wC_s12 g ad o3 _ _) gdX1_add_31 ?_
  refine g_aload_n E gdX1_add_32 rfl 1 rfl ?_
  refine g_get (T := TX1) E fw_X1 10 (wC_10 g ad o5) rfl 2 (by decide) w_162 rfl rfl gdX1_add_33 ?_
  refine g_iload E gdX1_add_36 0 rfl ?_
  refine g_iload_n E gdX1_add_38 rfl 4 rfl ?_
  obtain ⟨hi6, h⟩ := qIn_of h
  obtain ⟨o7, e_o7, h⟩ := qNm_of h
  refine g_iast (ws' := wC g ad o7) E 13 (wC_13 g ad o5) (by decide) hi6 (by rw [e_o7]; exact wC_s13 g ad o5 _ _) gdX1_add_39 ?_
  refine g_aload_n E gdX1_add_40 rfl 1 rfl ?_
  refine g_get (T := TX1) E fw_X1 10 (wC_10 g ad o7) rfl 4 (by decide) w_164 rfl rfl gdX1_add_41 ?_
  refine g_iload E gdX1_add_44 0 rfl ?_
  refine g_bipush E gdX1_add_46 (by decide) ?_
  obtain ⟨hi8, h⟩ := qIn_of h
  obtain ⟨o9, e_o9, h⟩ := qNm_of h
  refine g_iast (ws' := wC g ad o9) E 15 (wC_15 g ad o7) (by decide) hi8 (by rw [e_o9]; exact wC_s15 g ad o7 _ _) gdX1_add_48 ?_
  refine g_aload_n E gdX1_add_49 rfl 1 rfl ?_
  refine g_get (T := TX1) E fw_X1 10 (wC_10 g ad o9) rfl 7 (by decide) w_167 rfl rfl gdX1_add_50 ?_
  refine g_iload_n E gdX1_add_53 rfl 2 rfl ?_
  refine g_iload E gdX1_add_54 0 rfl ?_
  obtain ⟨hi10, h⟩ := qIn_of h
  obtain ⟨o11, e_o11, h⟩ := qNm_of h
  refine g_iast (ws' := wC g ad o11) E 18 (wC_18 g ad o9) (by decide) hi10 (by rw [e_o11]; exact wC_s18 g ad o9 _ _) gdX1_add_56 ?_
  refine g_aload_n E gdX1_add_57 rfl 1 rfl ?_
  refine g_iload E gdX1_add_58 0 rfl ?_
  refine g_iload E gdX1_add_60 5 rfl ?_
  refine g_iload E gdX1_add_62 6 rfl ?_
  obtain ⟨o14, hc13, h⟩ := qB_of h
  refine g_Vv (As := [iv (o.1 10 12), iv x4, iv x5]) (rest := []) (w := wC g ad o14) E (c_X1_assess l g ad o11 (o.1 10 12) x4 x5 o14 hc13) okm_X1_assess okw_X1_assess w_659 rfl (wC_10 g ad o11) rfl rfl (Nat.le_of_ble_eq_true rfl) ⟨Nat.le_of_ble_eq_true rfl, Nat.le_of_ble_eq_true rfl⟩ gdX1_add_64 ?_
  refine g_iload E gdX1_add_67 0 rfl ?_
  exact g_iret E hQ (by rw [← Option.some.inj h]) (by rw [← Option.some.inj h]) gdX1_add_69
set_option maxHeartbeats 4000000 in
set_option maxRecDepth 100000 in
theorem c_X11_building (l : Launch) (g : GG) (ad : Nat → Nat) (o : OO) (x1 : Int) (x2 : Int) (x3 : Int) (x4 : Int) (v : Int × OO) (h : s_X11_building o x1 x2 x3 x4 = some v) : CI l g yX11_building cX11_building 5 (some .int) 2 49 (wC g ad o) [.ref (ad 0), iv x1, iv x2, iv x3, iv x4] v.1 (wC g ad v.2) := by
  refine met_I (by decide) (Nat.le_of_ble_eq_true rfl) ?_
  intro X E hQ
  show Go X 0 (wC g ad o) [(0, .ref (ad 0)), (1, iv x1), (2, iv x2), (3, iv x3), (4, iv x4)] []
  have j32 : ∀ (o : OO), b_X11_building_32 o = some v → Go X 32 (wC g ad o) [] [] := by
    intro o h
    unfold b_X11_building_32 at h
    refine g_iconst E gdX11_building_32 ?_
    exact g_iret E hQ (by rw [← Option.some.inj h]) (by rw [← Option.some.inj h]) gdX11_building_33
  have j57 : ∀ (o : OO), b_X11_building_57 o = some v → Go X 57 (wC g ad o) [] [] := by
    intro o h
    unfold b_X11_building_57 at h
    refine g_bipush E gdX11_building_57 (by decide) ?_
    exact g_iret E hQ (by rw [← Option.some.inj h]) (by rw [← Option.some.inj h]) gdX11_building_59
  have j84 : ∀ (o : OO), b_X11_building_84 o = some v → Go X 84 (wC g ad o) [] [] := by
    intro o h
    unfold b_X11_building_84 at h
    refine g_bipush E gdX11_building_84 (by decide) ?_
    exact g_iret E hQ (by rw [← Option.some.inj h]) (by rw [← Option.some.inj h]) gdX11_building_86
  unfold s_X11_building at h
  refine g_iload_n E gdX11_building_0 rfl 1 rfl ?_
  obtain ⟨r1, hc2, h⟩ := qB_of h
  refine g_Si (r := r1) (As := [iv x1]) (rest := []) (w := wC g ad o) E (c_X3_isCell l g (wC g ad o) x1 r1 hc2) okm_X3_isCell w_622 w_621 rfl rfl (Nat.le_of_ble_eq_true rfl) ⟨Nat.le_of_ble_eq_true rfl, Nat.le_of_ble_eq_true rfl⟩ gdX11_building_1 ?_
  refine g_if_eq E 32 gdX11_building_4 (by decide) h (fun h => ?_) (fun h => ?_)
  ·
    refine g_sub E [] rfl ?_
    exact j32 o h
  ·
    refine g_iload_n E gdX11_building_7 rfl 2 rfl ?_
    obtain ⟨r3, hc4, h⟩ := qB_of h
    refine g_Si (r := r3) (As := [iv x2]) (rest := []) (w := wC g ad o) E (c_X1_isUse l g (wC g ad o) x2 r3 hc4) okm_X1_isUse w_637 w_636 rfl rfl (Nat.le_of_ble_eq_true rfl) ⟨Nat.le_of_ble_eq_true rfl, Nat.le_of_ble_eq_true rfl⟩ gdX11_building_8 ?_
    refine g_if_eq E 32 gdX11_building_11 (by decide) h (fun h => ?_) (fun h => ?_)
    ·
      refine g_sub E [] rfl ?_
      exact j32 o h
    ·
      refine g_iload_n E gdX11_building_14 rfl 3 rfl ?_
      refine g_if_lt E 32 gdX11_building_15 (by decide) h (fun h => ?_) (fun h => ?_)
      ·
        refine g_sub E [] rfl ?_
        exact j32 o h
      ·
        refine g_iload_n E gdX11_building_18 rfl 3 rfl ?_
        refine g_bipush E gdX11_building_19 (by decide) ?_
        refine g_icmp_gt E 32 gdX11_building_21 (by decide) h (fun h => ?_) (fun h => ?_)
        ·
          refine g_sub E [] rfl ?_
          exact j32 o h
        ·
          refine g_iload E gdX11_building_24 4 rfl ?_
          obtain ⟨r5, hc6, h⟩ := qB_of h
          refine g_Si (r := r5) (As := [iv x4]) (rest := []) (w := wC g ad o) E (c_X1_isWorth l g (wC g ad o) x4 r5 hc6) okm_X1_isWorth w_640 w_639 rfl rfl (Nat.le_of_ble_eq_true rfl) ⟨Nat.le_of_ble_eq_true rfl, Nat.le_of_ble_eq_true rfl⟩ gdX11_building_26 ?_
          refine g_if_ne E 34 gdX11_building_29 (by decide) h (fun h => ?_) (fun h => ?_)
          ·
            refine g_aload_n E gdX11_building_34 rfl 0 rfl ?_
            refine g_get (T := TX11) E fw_X11 0 (wC_0 g ad o) rfl 3 (by decide) w_461 rfl rfl gdX11_building_35 ?_
            obtain ⟨r7, hc8, h⟩ := qB_of h
            refine g_Vi (r := r7) (As := []) (rest := []) (w := wC g ad o) E (c_X1_number l g ad o r7 hc8) okm_X1_number okw_X1_number w_643 rfl (wC_10 g ad o) rfl rfl (Nat.le_of_ble_eq_true rfl) ⟨Nat.le_of_ble_eq_true rfl, Nat.le_of_ble_eq_true rfl⟩ gdX11_building_38 ?_
            refine g_bipush E gdX11_building_41 (by decide) ?_
            refine g_icmp_ge E 57 gdX11_building_43 (by decide) h (fun h => ?_) (fun h => ?_)
            ·
              refine g_sub E [] rfl ?_
              exact j57 o h
            ·
              refine g_aload_n E gdX11_building_46 rfl 0 rfl ?_
              refine g_get (T := TX11) E fw_X11 0 (wC_0 g ad o) rfl 3 (by decide) w_461 rfl rfl gdX11_building_47 ?_
              obtain ⟨r9, hc10, h⟩ := qB_of h
              refine g_Vi (r := r9) (As := []) (rest := []) (w := wC g ad o) E (c_X1_tellingsLeft l g ad o r9 hc10) okm_X1_tellingsLeft okw_X1_tellingsLeft w_647 rfl (wC_10 g ad o) rfl rfl (Nat.le_of_ble_eq_true rfl) ⟨Nat.le_of_ble_eq_true rfl, Nat.le_of_ble_eq_true rfl⟩ gdX11_building_50 ?_
              refine g_iconst E gdX11_building_53 ?_
              refine g_icmp_ge E 60 gdX11_building_54 (by decide) h (fun h => ?_) (fun h => ?_)
              ·
                refine g_aload_n E gdX11_building_60 rfl 0 rfl ?_
                refine g_get (T := TX11) E fw_X11 0 (wC_0 g ad o) rfl 2 (by decide) w_460 rfl rfl gdX11_building_61 ?_
                refine g_iload_n E gdX11_building_64 rfl 1 rfl ?_
                obtain ⟨r11, hc12, h⟩ := qB_of h
                refine g_Vi (r := r11) (As := [iv x1]) (rest := []) (w := wC g ad o) E (c_X3_isWater l g ad o x1 r11 hc12) okm_X3_isWater okw_X3_isWater w_651 rfl (wC_7 g ad o) rfl rfl (Nat.le_of_ble_eq_true rfl) ⟨Nat.le_of_ble_eq_true rfl, Nat.le_of_ble_eq_true rfl⟩ gdX11_building_65 ?_
                refine g_if_ne E 84 gdX11_building_68 (by decide) h (fun h => ?_) (fun h => ?_)
                ·
                  refine g_sub E [] rfl ?_
                  exact j84 o h
                ·
                  refine g_aload_n E gdX11_building_71 rfl 0 rfl ?_
                  refine g_get (T := TX11) E fw_X11 0 (wC_0 g ad o) rfl 3 (by decide) w_461 rfl rfl gdX11_building_72 ?_
                  refine g_iload_n E gdX11_building_75 rfl 1 rfl ?_
                  obtain ⟨r13, hc14, h⟩ := qB_of h
                  refine g_Vi (r := r13) (As := [iv x1]) (rest := []) (w := wC g ad o) E (c_X1_standingOn l g ad o x1 r13 hc14) okm_X1_standingOn okw_X1_standingOn w_624 rfl (wC_10 g ad o) rfl rfl (Nat.le_of_ble_eq_true rfl) ⟨Nat.le_of_ble_eq_true rfl, Nat.le_of_ble_eq_true rfl⟩ gdX11_building_76 ?_
                  refine g_bipush E gdX11_building_79 (by decide) ?_
                  refine g_icmp_eq E 87 gdX11_building_81 (by decide) h (fun h => ?_) (fun h => ?_)
                  ·
                    refine g_aload_n E gdX11_building_87 rfl 0 rfl ?_
                    refine g_get (T := TX11) E fw_X11 0 (wC_0 g ad o) rfl 3 (by decide) w_461 rfl rfl gdX11_building_88 ?_
                    refine g_iload_n E gdX11_building_91 rfl 1 rfl ?_
                    refine g_iload_n E gdX11_building_92 rfl 2 rfl ?_
                    refine g_iload_n E gdX11_building_93 rfl 3 rfl ?_
                    refine g_iload E gdX11_building_94 4 rfl ?_
                    refine g_aload_n E gdX11_building_96 rfl 0 rfl ?_
                    refine g_get (T := TX11) E fw_X11 0 (wC_0 g ad o) rfl 13 (by decide) w_471 rfl rfl gdX11_building_97 ?_
                    obtain ⟨r15, o17, hc16, h⟩ := qB2_of h
                    refine g_Vi (r := r15) (As := [iv x1, iv x2, iv x3, iv x4, iv (o.1 0 13)]) (rest := []) (w := wC g ad o17) E (c_X1_add l g ad o x1 x2 x3 x4 (o.1 0 13) (r15, o17) hc16) okm_X1_add okw_X1_add w_655 rfl (wC_10 g ad o) rfl rfl (Nat.le_of_ble_eq_true rfl) ⟨Nat.le_of_ble_eq_true rfl, Nat.le_of_ble_eq_true rfl⟩ gdX11_building_100 ?_
                    exact g_iret E hQ (by rw [← Option.some.inj h]) (by rw [← Option.some.inj h]) gdX11_building_103
                  ·
                    refine g_sub E [] rfl ?_
                    exact j84 o h
              ·
                refine g_sub E [] rfl ?_
                exact j57 o h
          ·
            refine g_sub E [] rfl ?_
            exact j32 o h
set_option maxHeartbeats 4000000 in
set_option maxRecDepth 100000 in
theorem c_X1_exists (l : Launch) (g : GG) (ad : Nat → Nat) (o : OO) (x1 : Int) (v : Int) (h : s_X1_exists o x1 = some v) : CI l g yX1_exists cX1_exists 2 (some .boolean) 0 0 (wC g ad o) [.ref (ad 10), iv x1] v (wC g ad o) := by
  refine met_I (by decide) (Nat.le_of_ble_eq_true rfl) ?_
  intro X E hQ
  show Go X 0 (wC g ad o) [(0, .ref (ad 10)), (1, iv x1)] []
  have j17 : ∀ (y0 : Int), b_X1_exists_17 o y0 = some v → Go X 17 (wC g ad o) [] [iv y0] := by
    intro y0 h
    unfold b_X1_exists_17 at h
    obtain ⟨hz, h⟩ := qZ_of h
    exact g_zret E hQ hz (Option.some.inj h) rfl gdX1_exists_17
  have j16 : b_X1_exists_16 o = some v → Go X 16 (wC g ad o) [] [] := by
    intro h
    unfold b_X1_exists_16 at h
    refine g_iconst E gdX1_exists_16 ?_
    exact j17 0 h
  unfold s_X1_exists at h
  refine g_iload_n E gdX1_exists_0 rfl 1 rfl ?_
  refine g_if_lt E 16 gdX1_exists_1 (by decide) h (fun h => ?_) (fun h => ?_)
  ·
    refine g_sub E [] rfl ?_
    exact j16  h
  ·
    refine g_iload_n E gdX1_exists_4 rfl 1 rfl ?_
    refine g_aload_n E gdX1_exists_5 rfl 0 rfl ?_
    refine g_get (T := TX1) E fw_X1 10 (wC_10 g ad o) rfl 12 (by decide) w_172 rfl rfl gdX1_exists_6 ?_
    refine g_icmp_ge E 16 gdX1_exists_9 (by decide) h (fun h => ?_) (fun h => ?_)
    ·
      refine g_sub E [] rfl ?_
      exact j16  h
    ·
      refine g_iconst E gdX1_exists_12 ?_
      refine g_goto E 17 gdX1_exists_13 (by decide) ?_
      refine g_sub E [] rfl ?_
      exact j17 1 h
set_option maxHeartbeats 4000000 in
set_option maxRecDepth 100000 in
theorem c_X5_exists (l : Launch) (g : GG) (ad : Nat → Nat) (o : OO) (x1 : Int) (v : Int) (h : s_X5_exists o x1 = some v) : CI l g yX5_exists cX5_exists 2 (some .boolean) 0 0 (wC g ad o) [.ref (ad 23), iv x1] v (wC g ad o) := by
  refine met_I (by decide) (Nat.le_of_ble_eq_true rfl) ?_
  intro X E hQ
  show Go X 0 (wC g ad o) [(0, .ref (ad 23)), (1, iv x1)] []
  have j17 : ∀ (y0 : Int), b_X5_exists_17 o y0 = some v → Go X 17 (wC g ad o) [] [iv y0] := by
    intro y0 h
    unfold b_X5_exists_17 at h
    obtain ⟨hz, h⟩ := qZ_of h
    exact g_zret E hQ hz (Option.some.inj h) rfl gdX5_exists_17
  have j16 : b_X5_exists_16 o = some v → Go X 16 (wC g ad o) [] [] := by
    intro h
    unfold b_X5_exists_16 at h
    refine g_iconst E gdX5_exists_16 ?_
    exact j17 0 h
  unfold s_X5_exists at h
  refine g_iload_n E gdX5_exists_0 rfl 1 rfl ?_
  refine g_if_lt E 16 gdX5_exists_1 (by decide) h (fun h => ?_) (fun h => ?_)
  ·
    refine g_sub E [] rfl ?_
    exact j16  h
  ·
    refine g_iload_n E gdX5_exists_4 rfl 1 rfl ?_
    refine g_aload_n E gdX5_exists_5 rfl 0 rfl ?_
    refine g_get (T := TX5) E fw_X5 23 (wC_23 g ad o) rfl 4 (by decide) w_214 rfl rfl gdX5_exists_6 ?_
    refine g_icmp_ge E 16 gdX5_exists_9 (by decide) h (fun h => ?_) (fun h => ?_)
    ·
      refine g_sub E [] rfl ?_
      exact j16  h
    ·
      refine g_iconst E gdX5_exists_12 ?_
      refine g_goto E 17 gdX5_exists_13 (by decide) ?_
      refine g_sub E [] rfl ?_
      exact j17 1 h
set_option maxHeartbeats 4000000 in
set_option maxRecDepth 100000 in
theorem c_X2_buys (l : Launch) (g : GG) (ad : Nat → Nat) (o : OO) (v : Int) (h : s_X2_buys o = some v) : CI l g yX2_buys cX2_buys 1 (some .int) 0 0 (wC g ad o) [.ref (ad 46)] v (wC g ad o) := by
  refine met_I (by decide) (Nat.le_of_ble_eq_true rfl) ?_
  intro X E hQ
  show Go X 0 (wC g ad o) [(0, .ref (ad 46))] []
  unfold s_X2_buys at h
  refine g_aload_n E gdX2_buys_0 rfl 0 rfl ?_
  refine g_get (T := TX2) E fw_X2 46 (wC_46 g ad o) rfl 6 (by decide) w_307 rfl rfl gdX2_buys_1 ?_
  exact g_iret E hQ (Option.some.inj h) rfl gdX2_buys_4
set_option maxHeartbeats 4000000 in
set_option maxRecDepth 100000 in
theorem c_X1_isTaken (l : Launch) (g : GG) (ad : Nat → Nat) (o : OO) (x1 : Int) (v : Int) (h : s_X1_isTaken o x1 = some v) : CI l g yX1_isTaken cX1_isTaken 2 (some .boolean) 0 0 (wC g ad o) [.ref (ad 10), iv x1] v (wC g ad o) := by
  refine met_I (by decide) (Nat.le_of_ble_eq_true rfl) ?_
  intro X E hQ
  show Go X 0 (wC g ad o) [(0, .ref (ad 10)), (1, iv x1)] []
  unfold s_X1_isTaken at h
  refine g_aload_n E gdX1_isTaken_0 rfl 0 rfl ?_
  refine g_get (T := TX1) E fw_X1 10 (wC_10 g ad o) rfl 6 (by decide) w_166 rfl rfl gdX1_isTaken_1 ?_
  refine g_iload_n E gdX1_isTaken_4 rfl 1 rfl ?_
  obtain ⟨hi1, h⟩ := qIn_of h
  refine g_zald E 17 (wC_17 g ad o) (by decide) hi1 gdX1_isTaken_5 ?_
  obtain ⟨n2, e_n2, h⟩ := qNm_of h
  refine g_nmi e_n2 ?_
  obtain ⟨hz, h⟩ := qZ_of h
  exact g_zret E hQ hz (Option.some.inj h) rfl gdX1_isTaken_6
set_option maxHeartbeats 4000000 in
set_option maxRecDepth 100000 in
theorem c_X1_setBuyer (l : Launch) (g : GG) (ad : Nat → Nat) (o : OO) (x1 : Int) (x2 : Int) (v : OO) (h : s_X1_setBuyer o x1 x2 = some v) : CV l g yX1_setBuyer cX1_setBuyer 3 0 0 (wC g ad o) [.ref (ad 10), iv x1, iv x2] (wC g ad v) := by
  refine met_V (by decide) (Nat.le_of_ble_eq_true rfl) ?_
  intro X E hQ
  show Go X 0 (wC g ad o) [(0, .ref (ad 10)), (1, iv x1), (2, iv x2)] []
  unfold s_X1_setBuyer at h
  refine g_aload_n E gdX1_setBuyer_0 rfl 0 rfl ?_
  refine g_get (T := TX1) E fw_X1 10 (wC_10 g ad o) rfl 4 (by decide) w_164 rfl rfl gdX1_setBuyer_1 ?_
  refine g_iload_n E gdX1_setBuyer_4 rfl 1 rfl ?_
  refine g_iload_n E gdX1_setBuyer_5 rfl 2 rfl ?_
  obtain ⟨hi1, h⟩ := qIn_of h
  obtain ⟨o2, e_o2, h⟩ := qNm_of h
  refine g_iast (ws' := wC g ad o2) E 15 (wC_15 g ad o) (by decide) hi1 (by rw [e_o2]; exact wC_s15 g ad o _ _) gdX1_setBuyer_6 ?_
  exact g_vret E hQ (by rw [← Option.some.inj h]) gdX1_setBuyer_7
set_option maxHeartbeats 4000000 in
set_option maxRecDepth 100000 in
theorem c_X2_addBuy (l : Launch) (g : GG) (ad : Nat → Nat) (o : OO) (x1 : Int) (x2 : Int) (x3 : Int) (v : Int × OO) (h : s_X2_addBuy o x1 x2 x3 = some v) : CI l g yX2_addBuy cX2_addBuy 4 (some .int) 0 0 (wC g ad o) [.ref (ad 46), iv x1, iv x2, iv x3] v.1 (wC g ad v.2) := by
  refine met_I (by decide) (Nat.le_of_ble_eq_true rfl) ?_
  intro X E hQ
  show Go X 0 (wC g ad o) [(0, .ref (ad 46)), (1, iv x1), (2, iv x2), (3, iv x3)] []
  unfold s_X2_addBuy at h
  refine g_aload_n E gdX2_addBuy_0 rfl 0 rfl ?_
  refine g_get (T := TX2) E fw_X2 46 (wC_46 g ad o) rfl 0 (by decide) w_301 rfl rfl gdX2_addBuy_1 ?_
  refine g_aload_n E gdX2_addBuy_4 rfl 0 rfl ?_
  refine g_get (T := TX2) E fw_X2 46 (wC_46 g ad o) rfl 6 (by decide) w_307 rfl rfl gdX2_addBuy_5 ?_
  refine g_iload_n E gdX2_addBuy_8 rfl 1 rfl ?_
  obtain ⟨hi1, h⟩ := qIn_of h
  obtain ⟨o2, e_o2, h⟩ := qNm_of h
  refine g_iast (ws' := wC g ad o2) E 47 (wC_47 g ad o) (by decide) hi1 (by rw [e_o2]; exact wC_s47 g ad o _ _) gdX2_addBuy_9 ?_
  refine g_aload_n E gdX2_addBuy_10 rfl 0 rfl ?_
  refine g_get (T := TX2) E fw_X2 46 (wC_46 g ad o2) rfl 1 (by decide) w_302 rfl rfl gdX2_addBuy_11 ?_
  refine g_aload_n E gdX2_addBuy_14 rfl 0 rfl ?_
  refine g_get (T := TX2) E fw_X2 46 (wC_46 g ad o2) rfl 6 (by decide) w_307 rfl rfl gdX2_addBuy_15 ?_
  refine g_iload_n E gdX2_addBuy_18 rfl 2 rfl ?_
  obtain ⟨hi3, h⟩ := qIn_of h
  obtain ⟨o4, e_o4, h⟩ := qNm_of h
  refine g_iast (ws' := wC g ad o4) E 48 (wC_48 g ad o2) (by decide) hi3 (by rw [e_o4]; exact wC_s48 g ad o2 _ _) gdX2_addBuy_19 ?_
  refine g_aload_n E gdX2_addBuy_20 rfl 0 rfl ?_
  refine g_get (T := TX2) E fw_X2 46 (wC_46 g ad o4) rfl 2 (by decide) w_303 rfl rfl gdX2_addBuy_21 ?_
  refine g_aload_n E gdX2_addBuy_24 rfl 0 rfl ?_
  refine g_get (T := TX2) E fw_X2 46 (wC_46 g ad o4) rfl 6 (by decide) w_307 rfl rfl gdX2_addBuy_25 ?_
  refine g_iload_n E gdX2_addBuy_28 rfl 3 rfl ?_
  obtain ⟨hi5, h⟩ := qIn_of h
  obtain ⟨o6, e_o6, h⟩ := qNm_of h
  refine g_iast (ws' := wC g ad o6) E 49 (wC_49 g ad o4) (by decide) hi5 (by rw [e_o6]; exact wC_s49 g ad o4 _ _) gdX2_addBuy_29 ?_
  refine g_aload_n E gdX2_addBuy_30 rfl 0 rfl ?_
  refine g_dup E gdX2_addBuy_31 rfl ?_
  refine g_get (T := TX2) E fw_X2 46 (wC_46 g ad o6) rfl 6 (by decide) w_307 rfl rfl gdX2_addBuy_32 ?_
  refine g_iconst E gdX2_addBuy_35 ?_
  refine g_iadd E gdX2_addBuy_36 ?_
  obtain ⟨o7, e_o7, h⟩ := qNm_of h
  refine g_puti (T := TX2) (ws' := wC g ad o7) E fw_X2 tyX2 tyX2_ok nmX2 46 (wC_46 g ad o6) rfl 6 (by decide) w_307 rfl rfl (by decide +kernel) (Nat.le_of_ble_eq_true rfl) (by rw [e_o7]; exact wC_p46_6 g ad o6 _) gdX2_addBuy_37 ?_
  refine g_aload_n E gdX2_addBuy_40 rfl 0 rfl ?_
  refine g_get (T := TX2) E fw_X2 46 (wC_46 g ad o7) rfl 6 (by decide) w_307 rfl rfl gdX2_addBuy_41 ?_
  exact g_iret E hQ (by rw [← Option.some.inj h]) (by rw [← Option.some.inj h]) gdX2_addBuy_44
set_option maxHeartbeats 4000000 in
set_option maxRecDepth 100000 in
theorem c_X11_buy (l : Launch) (g : GG) (ad : Nat → Nat) (o : OO) (x1 : Int) (x2 : Int) (v : Int × OO) (h : s_X11_buy o x1 x2 = some v) : CI l g yX11_buy cX11_buy 3 (some .int) 1 23 (wC g ad o) [.ref (ad 0), iv x1, iv x2] v.1 (wC g ad v.2) := by
  refine met_I (by decide) (Nat.le_of_ble_eq_true rfl) ?_
  intro X E hQ
  show Go X 0 (wC g ad o) [(0, .ref (ad 0)), (1, iv x1), (2, iv x2)] []
  have j22 : ∀ (o : OO), b_X11_buy_22 o = some v → Go X 22 (wC g ad o) [] [] := by
    intro o h
    unfold b_X11_buy_22 at h
    refine g_iconst E gdX11_buy_22 ?_
    exact g_iret E hQ (by rw [← Option.some.inj h]) (by rw [← Option.some.inj h]) gdX11_buy_23
  unfold s_X11_buy at h
  refine g_aload_n E gdX11_buy_0 rfl 0 rfl ?_
  refine g_get (T := TX11) E fw_X11 0 (wC_0 g ad o) rfl 3 (by decide) w_461 rfl rfl gdX11_buy_1 ?_
  refine g_iload_n E gdX11_buy_4 rfl 1 rfl ?_
  obtain ⟨r1, hc2, h⟩ := qB_of h
  refine g_Vi (r := r1) (As := [iv x1]) (rest := []) (w := wC g ad o) E (c_X1_exists l g ad o x1 r1 hc2) okm_X1_exists okw_X1_exists w_667 rfl (wC_10 g ad o) rfl rfl (Nat.le_of_ble_eq_true rfl) ⟨Nat.le_of_ble_eq_true rfl, Nat.le_of_ble_eq_true rfl⟩ gdX11_buy_5 ?_
  refine g_if_eq E 22 gdX11_buy_8 (by decide) h (fun h => ?_) (fun h => ?_)
  ·
    refine g_sub E [] rfl ?_
    exact j22 o h
  ·
    refine g_aload_n E gdX11_buy_11 rfl 0 rfl ?_
    refine g_get (T := TX11) E fw_X11 0 (wC_0 g ad o) rfl 4 (by decide) w_462 rfl rfl gdX11_buy_12 ?_
    refine g_iload_n E gdX11_buy_15 rfl 2 rfl ?_
    obtain ⟨r3, hc4, h⟩ := qB_of h
    refine g_Vi (r := r3) (As := [iv x2]) (rest := []) (w := wC g ad o) E (c_X5_exists l g ad o x2 r3 hc4) okm_X5_exists okw_X5_exists w_735 rfl (wC_23 g ad o) rfl rfl (Nat.le_of_ble_eq_true rfl) ⟨Nat.le_of_ble_eq_true rfl, Nat.le_of_ble_eq_true rfl⟩ gdX11_buy_16 ?_
    refine g_if_ne E 24 gdX11_buy_19 (by decide) h (fun h => ?_) (fun h => ?_)
    ·
      refine g_aload_n E gdX11_buy_24 rfl 0 rfl ?_
      refine g_get (T := TX11) E fw_X11 0 (wC_0 g ad o) rfl 7 (by decide) w_465 rfl rfl gdX11_buy_25 ?_
      obtain ⟨r5, hc6, h⟩ := qB_of h
      refine g_Vi (r := r5) (As := []) (rest := []) (w := wC g ad o) E (c_X2_buys l g ad o r5 hc6) okm_X2_buys okw_X2_buys w_1070 rfl (wC_46 g ad o) rfl rfl (Nat.le_of_ble_eq_true rfl) ⟨Nat.le_of_ble_eq_true rfl, Nat.le_of_ble_eq_true rfl⟩ gdX11_buy_28 ?_
      refine g_bipush E gdX11_buy_31 (by decide) ?_
      refine g_icmp_lt E 39 gdX11_buy_33 (by decide) h (fun h => ?_) (fun h => ?_)
      ·
        refine g_aload_n E gdX11_buy_39 rfl 0 rfl ?_
        refine g_get (T := TX11) E fw_X11 0 (wC_0 g ad o) rfl 3 (by decide) w_461 rfl rfl gdX11_buy_40 ?_
        refine g_iload_n E gdX11_buy_43 rfl 1 rfl ?_
        obtain ⟨r7, hc8, h⟩ := qB_of h
        refine g_Vi (r := r7) (As := [iv x1]) (rest := []) (w := wC g ad o) E (c_X1_isTaken l g ad o x1 r7 hc8) okm_X1_isTaken okw_X1_isTaken w_671 rfl (wC_10 g ad o) rfl rfl (Nat.le_of_ble_eq_true rfl) ⟨Nat.le_of_ble_eq_true rfl, Nat.le_of_ble_eq_true rfl⟩ gdX11_buy_44 ?_
        refine g_if_eq E 53 gdX11_buy_47 (by decide) h (fun h => ?_) (fun h => ?_)
        ·
          refine g_aload_n E gdX11_buy_53 rfl 0 rfl ?_
          refine g_get (T := TX11) E fw_X11 0 (wC_0 g ad o) rfl 3 (by decide) w_461 rfl rfl gdX11_buy_54 ?_
          refine g_iload_n E gdX11_buy_57 rfl 1 rfl ?_
          refine g_iload_n E gdX11_buy_58 rfl 2 rfl ?_
          obtain ⟨o11, hc10, h⟩ := qB_of h
          refine g_Vv (As := [iv x1, iv x2]) (rest := []) (w := wC g ad o11) E (c_X1_setBuyer l g ad o x1 x2 o11 hc10) okm_X1_setBuyer okw_X1_setBuyer w_1074 rfl (wC_10 g ad o) rfl rfl (Nat.le_of_ble_eq_true rfl) ⟨Nat.le_of_ble_eq_true rfl, Nat.le_of_ble_eq_true rfl⟩ gdX11_buy_59 ?_
          refine g_aload_n E gdX11_buy_62 rfl 0 rfl ?_
          refine g_get (T := TX11) E fw_X11 0 (wC_0 g ad o11) rfl 7 (by decide) w_465 rfl rfl gdX11_buy_63 ?_
          refine g_iload_n E gdX11_buy_66 rfl 1 rfl ?_
          refine g_iload_n E gdX11_buy_67 rfl 2 rfl ?_
          refine g_aload_n E gdX11_buy_68 rfl 0 rfl ?_
          refine g_get (T := TX11) E fw_X11 0 (wC_0 g ad o11) rfl 13 (by decide) w_471 rfl rfl gdX11_buy_69 ?_
          obtain ⟨r12, o14, hc13, h⟩ := qB2_of h
          refine g_Vi (r := r12) (As := [iv x1, iv x2, iv (o11.1 0 13)]) (rest := []) (w := wC g ad o14) E (c_X2_addBuy l g ad o11 x1 x2 (o11.1 0 13) (r12, o14) hc13) okm_X2_addBuy okw_X2_addBuy w_1078 rfl (wC_46 g ad o11) rfl rfl (Nat.le_of_ble_eq_true rfl) ⟨Nat.le_of_ble_eq_true rfl, Nat.le_of_ble_eq_true rfl⟩ gdX11_buy_72 ?_
          exact g_iret E hQ (by rw [← Option.some.inj h]) (by rw [← Option.some.inj h]) gdX11_buy_75
        ·
          refine g_bipush E gdX11_buy_50 (by decide) ?_
          exact g_iret E hQ (by rw [← Option.some.inj h]) (by rw [← Option.some.inj h]) gdX11_buy_52
      ·
        refine g_bipush E gdX11_buy_36 (by decide) ?_
        exact g_iret E hQ (by rw [← Option.some.inj h]) (by rw [← Option.some.inj h]) gdX11_buy_38
    ·
      refine g_sub E [] rfl ?_
      exact j22 o h
set_option maxHeartbeats 4000000 in
set_option maxRecDepth 100000 in
theorem c_X3_change (l : Launch) (g : GG) (ad : Nat → Nat) (o : OO) (x1 : Int) (x2 : Int) (x3 : Int) (v : OO) (h : s_X3_change o x1 x2 x3 = some v) : CV l g yX3_change cX3_change 4 0 0 (wC g ad o) [.ref (ad 7), iv x1, iv x2, iv x3] (wC g ad v) := by
  refine met_V (by decide) (Nat.le_of_ble_eq_true rfl) ?_
  intro X E hQ
  show Go X 0 (wC g ad o) [(0, .ref (ad 7)), (1, iv x1), (2, iv x2), (3, iv x3)] []
  unfold s_X3_change at h
  refine g_aload_n E gdX3_change_0 rfl 0 rfl ?_
  refine g_get (T := TX3) E fw_X3 7 (wC_7 g ad o) rfl 0 (by decide) w_146 rfl rfl gdX3_change_1 ?_
  refine g_iload_n E gdX3_change_4 rfl 1 rfl ?_
  refine g_iload_n E gdX3_change_5 rfl 2 rfl ?_
  obtain ⟨hi1, h⟩ := qIn_of h
  obtain ⟨o2, e_o2, h⟩ := qNm_of h
  refine g_iast (ws' := wC g ad o2) E 8 (wC_8 g ad o) (by decide) hi1 (by rw [e_o2]; exact wC_s8 g ad o _ _) gdX3_change_6 ?_
  refine g_aload_n E gdX3_change_7 rfl 0 rfl ?_
  refine g_get (T := TX3) E fw_X3 7 (wC_7 g ad o2) rfl 1 (by decide) w_147 rfl rfl gdX3_change_8 ?_
  refine g_iload_n E gdX3_change_11 rfl 1 rfl ?_
  refine g_iload_n E gdX3_change_12 rfl 3 rfl ?_
  obtain ⟨hi3, h⟩ := qIn_of h
  obtain ⟨o4, e_o4, h⟩ := qNm_of h
  refine g_iast (ws' := wC g ad o4) E 9 (wC_9 g ad o2) (by decide) hi3 (by rw [e_o4]; exact wC_s9 g ad o2 _ _) gdX3_change_13 ?_
  exact g_vret E hQ (by rw [← Option.some.inj h]) gdX3_change_14
set_option maxHeartbeats 4000000 in
set_option maxRecDepth 100000 in
theorem c_X11_cell (l : Launch) (g : GG) (ad : Nat → Nat) (o : OO) (x1 : Int) (x2 : Int) (x3 : Int) (v : Int × OO) (h : s_X11_cell o x1 x2 x3 = some v) : CI l g yX11_cell cX11_cell 4 (some .int) 1 23 (wC g ad o) [.ref (ad 0), iv x1, iv x2, iv x3] v.1 (wC g ad v.2) := by
  refine met_I (by decide) (Nat.le_of_ble_eq_true rfl) ?_
  intro X E hQ
  show Go X 0 (wC g ad o) [(0, .ref (ad 0)), (1, iv x1), (2, iv x2), (3, iv x3)] []
  have j26 : ∀ (o : OO), b_X11_cell_26 o = some v → Go X 26 (wC g ad o) [] [] := by
    intro o h
    unfold b_X11_cell_26 at h
    refine g_iconst E gdX11_cell_26 ?_
    exact g_iret E hQ (by rw [← Option.some.inj h]) (by rw [← Option.some.inj h]) gdX11_cell_27
  have j49 : ∀ (o : OO) (x1 : Int) (x2 : Int) (x3 : Int), b_X11_cell_49 o x1 x2 x3 = some v → Go X 49 (wC g ad o) [(0, .ref (ad 0)), (1, iv x1), (2, iv x2), (3, iv x3)] [] := by
    intro o x1 x2 x3 h
    unfold b_X11_cell_49 at h
    refine g_aload_n E gdX11_cell_49 rfl 0 rfl ?_
    refine g_get (T := TX11) E fw_X11 0 (wC_0 g ad o) rfl 2 (by decide) w_460 rfl rfl gdX11_cell_50 ?_
    refine g_iload_n E gdX11_cell_53 rfl 1 rfl ?_
    refine g_iload_n E gdX11_cell_54 rfl 2 rfl ?_
    refine g_iload_n E gdX11_cell_55 rfl 3 rfl ?_
    obtain ⟨o3, hc2, h⟩ := qB_of h
    refine g_Vv (As := [iv x1, iv x2, iv x3]) (rest := []) (w := wC g ad o3) E (c_X3_change l g ad o x1 x2 x3 o3 hc2) okm_X3_change okw_X3_change w_628 rfl (wC_7 g ad o) rfl rfl (Nat.le_of_ble_eq_true rfl) ⟨Nat.le_of_ble_eq_true rfl, Nat.le_of_ble_eq_true rfl⟩ gdX11_cell_56 ?_
    refine g_iconst E gdX11_cell_59 ?_
    exact g_iret E hQ (by rw [← Option.some.inj h]) (by rw [← Option.some.inj h]) gdX11_cell_60
  unfold s_X11_cell at h
  refine g_iload_n E gdX11_cell_0 rfl 1 rfl ?_
  obtain ⟨r4, hc5, h⟩ := qB_of h
  refine g_Si (r := r4) (As := [iv x1]) (rest := []) (w := wC g ad o) E (c_X3_isCell l g (wC g ad o) x1 r4 hc5) okm_X3_isCell w_622 w_621 rfl rfl (Nat.le_of_ble_eq_true rfl) ⟨Nat.le_of_ble_eq_true rfl, Nat.le_of_ble_eq_true rfl⟩ gdX11_cell_1 ?_
  refine g_if_eq E 26 gdX11_cell_4 (by decide) h (fun h => ?_) (fun h => ?_)
  ·
    refine g_sub E [] rfl ?_
    exact j26 o h
  ·
    refine g_iload_n E gdX11_cell_7 rfl 2 rfl ?_
    refine g_if_lt E 26 gdX11_cell_8 (by decide) h (fun h => ?_) (fun h => ?_)
    ·
      refine g_sub E [] rfl ?_
      exact j26 o h
    ·
      refine g_iload_n E gdX11_cell_11 rfl 2 rfl ?_
      refine g_iconst E gdX11_cell_12 ?_
      refine g_icmp_gt E 26 gdX11_cell_13 (by decide) h (fun h => ?_) (fun h => ?_)
      ·
        refine g_sub E [] rfl ?_
        exact j26 o h
      ·
        refine g_iload_n E gdX11_cell_16 rfl 3 rfl ?_
        refine g_if_lt E 26 gdX11_cell_17 (by decide) h (fun h => ?_) (fun h => ?_)
        ·
          refine g_sub E [] rfl ?_
          exact j26 o h
        ·
          refine g_iload_n E gdX11_cell_20 rfl 3 rfl ?_
          refine g_bipush E gdX11_cell_21 (by decide) ?_
          refine g_icmp_le E 28 gdX11_cell_23 (by decide) h (fun h => ?_) (fun h => ?_)
          ·
            refine g_iload_n E gdX11_cell_28 rfl 2 rfl ?_
            refine g_iconst E gdX11_cell_29 ?_
            refine g_icmp_ne E 49 gdX11_cell_30 (by decide) h (fun h => ?_) (fun h => ?_)
            ·
              exact j49 o x1 x2 x3 h
            ·
              refine g_aload_n E gdX11_cell_33 rfl 0 rfl ?_
              refine g_get (T := TX11) E fw_X11 0 (wC_0 g ad o) rfl 3 (by decide) w_461 rfl rfl gdX11_cell_34 ?_
              refine g_iload_n E gdX11_cell_37 rfl 1 rfl ?_
              obtain ⟨r6, hc7, h⟩ := qB_of h
              refine g_Vi (r := r6) (As := [iv x1]) (rest := []) (w := wC g ad o) E (c_X1_standingOn l g ad o x1 r6 hc7) okm_X1_standingOn okw_X1_standingOn w_624 rfl (wC_10 g ad o) rfl rfl (Nat.le_of_ble_eq_true rfl) ⟨Nat.le_of_ble_eq_true rfl, Nat.le_of_ble_eq_true rfl⟩ gdX11_cell_38 ?_
              refine g_bipush E gdX11_cell_41 (by decide) ?_
              refine g_icmp_eq E 49 gdX11_cell_43 (by decide) h (fun h => ?_) (fun h => ?_)
              ·
                exact j49 o x1 x2 x3 h
              ·
                refine g_bipush E gdX11_cell_46 (by decide) ?_
                exact g_iret E hQ (by rw [← Option.some.inj h]) (by rw [← Option.some.inj h]) gdX11_cell_48
          ·
            refine g_sub E [] rfl ?_
            exact j26 o h
set_option maxHeartbeats 4000000 in
set_option maxRecDepth 100000 in
theorem c_X4_exists (l : Launch) (g : GG) (ad : Nat → Nat) (o : OO) (x1 : Int) (v : Int) (h : s_X4_exists o x1 = some v) : CI l g yX4_exists cX4_exists 2 (some .boolean) 0 0 (wC g ad o) [.ref (ad 32), iv x1] v (wC g ad o) := by
  refine met_I (by decide) (Nat.le_of_ble_eq_true rfl) ?_
  intro X E hQ
  show Go X 0 (wC g ad o) [(0, .ref (ad 32)), (1, iv x1)] []
  have j17 : ∀ (y0 : Int), b_X4_exists_17 o y0 = some v → Go X 17 (wC g ad o) [] [iv y0] := by
    intro y0 h
    unfold b_X4_exists_17 at h
    obtain ⟨hz, h⟩ := qZ_of h
    exact g_zret E hQ hz (Option.some.inj h) rfl gdX4_exists_17
  have j16 : b_X4_exists_16 o = some v → Go X 16 (wC g ad o) [] [] := by
    intro h
    unfold b_X4_exists_16 at h
    refine g_iconst E gdX4_exists_16 ?_
    exact j17 0 h
  unfold s_X4_exists at h
  refine g_iload_n E gdX4_exists_0 rfl 1 rfl ?_
  refine g_if_lt E 16 gdX4_exists_1 (by decide) h (fun h => ?_) (fun h => ?_)
  ·
    refine g_sub E [] rfl ?_
    exact j16  h
  ·
    refine g_iload_n E gdX4_exists_4 rfl 1 rfl ?_
    refine g_aload_n E gdX4_exists_5 rfl 0 rfl ?_
    refine g_get (T := TX4) E fw_X4 32 (wC_32 g ad o) rfl 13 (by decide) w_264 rfl rfl gdX4_exists_6 ?_
    refine g_icmp_ge E 16 gdX4_exists_9 (by decide) h (fun h => ?_) (fun h => ?_)
    ·
      refine g_sub E [] rfl ?_
      exact j16  h
    ·
      refine g_iconst E gdX4_exists_12 ?_
      refine g_goto E 17 gdX4_exists_13 (by decide) ?_
      refine g_sub E [] rfl ?_
      exact j17 1 h
set_option maxHeartbeats 4000000 in
set_option maxRecDepth 100000 in
theorem c_X4_isOf (l : Launch) (g : GG) (ad : Nat → Nat) (o : OO) (x1 : Int) (x2 : Int) (v : Int) (h : s_X4_isOf o x1 x2 = some v) : CI l g yX4_isOf cX4_isOf 4 (some .boolean) 0 0 (wC g ad o) [.ref (ad 32), iv x1, iv x2] v (wC g ad o) := by
  refine met_I (by decide) (Nat.le_of_ble_eq_true rfl) ?_
  intro X E hQ
  show Go X 0 (wC g ad o) [(0, .ref (ad 32)), (1, iv x1), (2, iv x2)] []
  have j37 : ∀ (y0 : Int), b_X4_isOf_37 o y0 = some v → Go X 37 (wC g ad o) [] [iv y0] := by
    intro y0 h
    unfold b_X4_isOf_37 at h
    obtain ⟨hz, h⟩ := qZ_of h
    exact g_zret E hQ hz (Option.some.inj h) rfl gdX4_isOf_37
  have j32 : b_X4_isOf_32 o = some v → Go X 32 (wC g ad o) [] [] := by
    intro h
    unfold b_X4_isOf_32 at h
    refine g_iconst E gdX4_isOf_32 ?_
    refine g_goto E 37 gdX4_isOf_33 (by decide) ?_
    exact j37 1 h
  have j36 : b_X4_isOf_36 o = some v → Go X 36 (wC g ad o) [] [] := by
    intro h
    unfold b_X4_isOf_36 at h
    refine g_iconst E gdX4_isOf_36 ?_
    exact j37 0 h
  have j22 : ∀ (x2 : Int) (x3 : Int), b_X4_isOf_22 o x2 x3 = some v → Go X 22 (wC g ad o) [(2, iv x2), (3, iv x3)] [] := by
    intro x2 x3 h
    unfold b_X4_isOf_22 at h
    refine g_iload_n E gdX4_isOf_22 rfl 1 rfl ?_
    refine g_iconst E gdX4_isOf_23 ?_
    refine g_icmp_ne E 36 gdX4_isOf_24 (by decide) h (fun h => ?_) (fun h => ?_)
    ·
      refine g_sub E [] rfl ?_
      exact j36  h
    ·
      refine g_iload_n E gdX4_isOf_27 rfl 0 rfl ?_
      refine g_iconst E gdX4_isOf_28 ?_
      refine g_icmp_ne E 36 gdX4_isOf_29 (by decide) h (fun h => ?_) (fun h => ?_)
      ·
        refine g_sub E [] rfl ?_
        exact j36  h
      ·
        refine g_sub E [] rfl ?_
        exact j32  h
  unfold s_X4_isOf at h
  refine g_aload_n E gdX4_isOf_0 rfl 0 rfl ?_
  refine g_get (T := TX4) E fw_X4 32 (wC_32 g ad o) rfl 0 (by decide) w_251 rfl rfl gdX4_isOf_1 ?_
  refine g_iload_n E gdX4_isOf_4 rfl 1 rfl ?_
  obtain ⟨hi1, h⟩ := qIn_of h
  refine g_iald E 33 (wC_33 g ad o) (by decide) hi1 gdX4_isOf_5 ?_
  obtain ⟨n2, e_n2, h⟩ := qNm_of h
  refine g_nmi e_n2 ?_
  refine g_istore_n E [(3, iv n2), (0, .ref (ad 32)), (1, iv x1), (2, iv x2)] gdX4_isOf_6 rfl (by decide) rfl ?_
  refine g_iload_n E gdX4_isOf_7 rfl 0 rfl ?_
  refine g_iload_n E gdX4_isOf_8 rfl 3 rfl ?_
  refine g_icmp_eq E 32 gdX4_isOf_9 (by decide) h (fun h => ?_) (fun h => ?_)
  ·
    refine g_sub E [] rfl ?_
    exact j32  h
  ·
    refine g_iload_n E gdX4_isOf_12 rfl 0 rfl ?_
    refine g_iconst E gdX4_isOf_13 ?_
    refine g_icmp_ne E 22 gdX4_isOf_14 (by decide) h (fun h => ?_) (fun h => ?_)
    ·
      refine g_sub E [3, 0] rfl ?_
      exact j22 x2 n2 h
    ·
      refine g_iload_n E gdX4_isOf_17 rfl 3 rfl ?_
      refine g_iconst E gdX4_isOf_18 ?_
      refine g_icmp_eq E 32 gdX4_isOf_19 (by decide) h (fun h => ?_) (fun h => ?_)
      ·
        refine g_sub E [] rfl ?_
        exact j32  h
      ·
        refine g_sub E [3, 0] rfl ?_
        exact j22 x2 n2 h
set_option maxHeartbeats 4000000 in
set_option maxRecDepth 100000 in
theorem c_X4_cellAt (l : Launch) (g : GG) (ad : Nat → Nat) (o : OO) (x1 : Int) (x2 : Int) (v : Int) (h : s_X4_cellAt o x1 x2 = some v) : CI l g yX4_cellAt cX4_cellAt 3 (some .int) 0 0 (wC g ad o) [.ref (ad 32), iv x1, iv x2] v (wC g ad o) := by
  refine met_I (by decide) (Nat.le_of_ble_eq_true rfl) ?_
  intro X E hQ
  show Go X 0 (wC g ad o) [(0, .ref (ad 32)), (1, iv x1), (2, iv x2)] []
  have j14 : b_X4_cellAt_14 o = some v → Go X 14 (wC g ad o) [] [] := by
    intro h
    unfold b_X4_cellAt_14 at h
    refine g_bipush E gdX4_cellAt_14 (by decide) ?_
    exact g_iret E hQ (Option.some.inj h) rfl gdX4_cellAt_16
  unfold s_X4_cellAt at h
  refine g_iload_n E gdX4_cellAt_0 rfl 2 rfl ?_
  refine g_if_lt E 14 gdX4_cellAt_1 (by decide) h (fun h => ?_) (fun h => ?_)
  ·
    refine g_sub E [] rfl ?_
    exact j14  h
  ·
    refine g_iload_n E gdX4_cellAt_4 rfl 2 rfl ?_
    refine g_aload_n E gdX4_cellAt_5 rfl 0 rfl ?_
    refine g_get (T := TX4) E fw_X4 32 (wC_32 g ad o) rfl 3 (by decide) w_254 rfl rfl gdX4_cellAt_6 ?_
    refine g_iload_n E gdX4_cellAt_9 rfl 1 rfl ?_
    obtain ⟨hi1, h⟩ := qIn_of h
    refine g_iald E 36 (wC_36 g ad o) (by decide) hi1 gdX4_cellAt_10 ?_
    obtain ⟨n2, e_n2, h⟩ := qNm_of h
    refine g_nmi e_n2 ?_
    refine g_icmp_lt E 17 gdX4_cellAt_11 (by decide) h (fun h => ?_) (fun h => ?_)
    ·
      refine g_aload_n E gdX4_cellAt_17 rfl 0 rfl ?_
      refine g_get (T := TX4) E fw_X4 32 (wC_32 g ad o) rfl 4 (by decide) w_255 rfl rfl gdX4_cellAt_18 ?_
      refine g_iload_n E gdX4_cellAt_21 rfl 1 rfl ?_
      refine g_bipush E gdX4_cellAt_22 (by decide) ?_
      refine g_imul E gdX4_cellAt_24 ?_
      refine g_iload_n E gdX4_cellAt_25 rfl 2 rfl ?_
      refine g_iadd E gdX4_cellAt_26 ?_
      obtain ⟨hi3, h⟩ := qIn_of h
      refine g_iald E 37 (wC_37 g ad o) (by decide) hi3 gdX4_cellAt_27 ?_
      obtain ⟨n4, e_n4, h⟩ := qNm_of h
      refine g_nmi e_n4 ?_
      exact g_iret E hQ (Option.some.inj h) rfl gdX4_cellAt_28
    ·
      refine g_sub E [] rfl ?_
      exact j14  h
set_option maxHeartbeats 4000000 in
set_option maxRecDepth 100000 in
theorem c_X11_cellOf (l : Launch) (g : GG) (ad : Nat → Nat) (o : OO) (x1 : Int) (x2 : Int) (v : Int × OO) (h : s_X11_cellOf o x1 x2 = some v) : CI l g yX11_cellOf cX11_cellOf 3 (some .int) 1 23 (wC g ad o) [.ref (ad 0), iv x1, iv x2] v.1 (wC g ad v.2) := by
  refine met_I (by decide) (Nat.le_of_ble_eq_true rfl) ?_
  intro X E hQ
  show Go X 0 (wC g ad o) [(0, .ref (ad 0)), (1, iv x1), (2, iv x2)] []
  unfold s_X11_cellOf at h
  refine g_aload_n E gdX11_cellOf_0 rfl 0 rfl ?_
  refine g_get (T := TX11) E fw_X11 0 (wC_0 g ad o) rfl 6 (by decide) w_464 rfl rfl gdX11_cellOf_1 ?_
  refine g_iload_n E gdX11_cellOf_4 rfl 1 rfl ?_
  obtain ⟨r1, hc2, h⟩ := qB_of h
  refine g_Vi (r := r1) (As := [iv x1]) (rest := []) (w := wC g ad o) E (c_X4_exists l g ad o x1 r1 hc2) okm_X4_exists okw_X4_exists w_882 rfl (wC_32 g ad o) rfl rfl (Nat.le_of_ble_eq_true rfl) ⟨Nat.le_of_ble_eq_true rfl, Nat.le_of_ble_eq_true rfl⟩ gdX11_cellOf_5 ?_
  refine g_if_ne E 13 gdX11_cellOf_8 (by decide) h (fun h => ?_) (fun h => ?_)
  ·
    refine g_aload_n E gdX11_cellOf_13 rfl 0 rfl ?_
    refine g_get (T := TX11) E fw_X11 0 (wC_0 g ad o) rfl 6 (by decide) w_464 rfl rfl gdX11_cellOf_14 ?_
    refine g_iload_n E gdX11_cellOf_17 rfl 1 rfl ?_
    refine g_iconst E gdX11_cellOf_18 ?_
    obtain ⟨r3, hc4, h⟩ := qB_of h
    refine g_Vi (r := r3) (As := [iv x1, iv 1]) (rest := []) (w := wC g ad o) E (c_X4_isOf l g ad o x1 1 r3 hc4) okm_X4_isOf okw_X4_isOf w_886 rfl (wC_32 g ad o) rfl rfl (Nat.le_of_ble_eq_true rfl) ⟨Nat.le_of_ble_eq_true rfl, Nat.le_of_ble_eq_true rfl⟩ gdX11_cellOf_19 ?_
    refine g_if_ne E 31 gdX11_cellOf_22 (by decide) h (fun h => ?_) (fun h => ?_)
    ·
      refine g_aload_n E gdX11_cellOf_31 rfl 0 rfl ?_
      refine g_get (T := TX11) E fw_X11 0 (wC_0 g ad o) rfl 6 (by decide) w_464 rfl rfl gdX11_cellOf_32 ?_
      refine g_iload_n E gdX11_cellOf_35 rfl 1 rfl ?_
      refine g_iload_n E gdX11_cellOf_36 rfl 2 rfl ?_
      obtain ⟨r5, hc6, h⟩ := qB_of h
      refine g_Vi (r := r5) (As := [iv x1, iv x2]) (rest := []) (w := wC g ad o) E (c_X4_cellAt l g ad o x1 x2 r5 hc6) okm_X4_cellAt okw_X4_cellAt w_911 rfl (wC_32 g ad o) rfl rfl (Nat.le_of_ble_eq_true rfl) ⟨Nat.le_of_ble_eq_true rfl, Nat.le_of_ble_eq_true rfl⟩ gdX11_cellOf_37 ?_
      exact g_iret E hQ (by rw [← Option.some.inj h]) (by rw [← Option.some.inj h]) gdX11_cellOf_40
    ·
      refine g_aload_n E gdX11_cellOf_25 rfl 0 rfl ?_
      refine g_iconst E gdX11_cellOf_26 ?_
      obtain ⟨r7, o9, hc8, h⟩ := qB2_of h
      refine g_Vi (r := r7) (As := [iv 3]) (rest := []) (w := wC g ad o9) E (c_X11_found l g ad o 3 (r7, o9) hc8) okm_X11_found okw_X11_found w_521 rfl (wC_0 g ad o) rfl rfl (Nat.le_of_ble_eq_true rfl) ⟨Nat.le_of_ble_eq_true rfl, Nat.le_of_ble_eq_true rfl⟩ gdX11_cellOf_27 ?_
      exact g_iret E hQ (by rw [← Option.some.inj h]) (by rw [← Option.some.inj h]) gdX11_cellOf_30
  ·
    refine g_iconst E gdX11_cellOf_11 ?_
    exact g_iret E hQ (by rw [← Option.some.inj h]) (by rw [← Option.some.inj h]) gdX11_cellOf_12
set_option maxHeartbeats 4000000 in
set_option maxRecDepth 100000 in
theorem c_X11_coins (l : Launch) (g : GG) (ad : Nat → Nat) (o : OO) (v : Int64) (h : s_X11_coins o = some v) : CL l g yX11_coins cX11_coins 1 (some .long) 0 0 (wC g ad o) [.ref (ad 0)] v (wC g ad o) := by
  refine met_L (by decide) (Nat.le_of_ble_eq_true rfl) ?_
  intro X E hQ
  show Go X 0 (wC g ad o) [(0, .ref (ad 0))] []
  unfold s_X11_coins at h
  refine g_aload_n E gdX11_coins_0 rfl 0 rfl ?_
  refine g_get (T := TX11) E fw_X11 0 (wC_0 g ad o) rfl 15 (by decide) w_473 rfl rfl gdX11_coins_1 ?_
  exact g_lret E hQ (Option.some.inj h) rfl gdX11_coins_4
set_option maxHeartbeats 4000000 in
set_option maxRecDepth 100000 in
theorem c_X8_holdsFrom (l : Launch) (g : GG) (ad : Nat → Nat) (o : OO) (x1 : Int) (x2 : Int) (x3 : Int) (v : Int) (h : s_X8_holdsFrom o x1 x2 x3 = some v) : CI l g yX8_holdsFrom cX8_holdsFrom 4 (some .boolean) 0 0 (wC g ad o) [.ref (ad 1), iv x1, iv x2, iv x3] v (wC g ad o) := by
  refine met_I (by decide) (Nat.le_of_ble_eq_true rfl) ?_
  intro X E hQ
  show Go X 0 (wC g ad o) [(0, .ref (ad 1)), (1, iv x1), (2, iv x2), (3, iv x3)] []
  have j21 : ∀ (y0 : Int), b_X8_holdsFrom_21 o y0 = some v → Go X 21 (wC g ad o) [] [iv y0] := by
    intro y0 h
    unfold b_X8_holdsFrom_21 at h
    obtain ⟨hz, h⟩ := qZ_of h
    exact g_zret E hQ hz (Option.some.inj h) rfl gdX8_holdsFrom_21
  have j20 : b_X8_holdsFrom_20 o = some v → Go X 20 (wC g ad o) [] [] := by
    intro h
    unfold b_X8_holdsFrom_20 at h
    refine g_iconst E gdX8_holdsFrom_20 ?_
    exact j21 0 h
  unfold s_X8_holdsFrom at h
  refine g_iload_n E gdX8_holdsFrom_0 rfl 2 rfl ?_
  refine g_if_lt E 20 gdX8_holdsFrom_1 (by decide) h (fun h => ?_) (fun h => ?_)
  ·
    refine g_sub E [] rfl ?_
    exact j20  h
  ·
    refine g_iload_n E gdX8_holdsFrom_4 rfl 2 rfl ?_
    refine g_aload_n E gdX8_holdsFrom_5 rfl 0 rfl ?_
    refine g_get (T := TX8) E fw_X8 1 (wC_1 g ad o) rfl 2 (by decide) w_128 rfl rfl gdX8_holdsFrom_6 ?_
    refine g_iload_n E gdX8_holdsFrom_9 rfl 1 rfl ?_
    obtain ⟨hi1, h⟩ := qIn_of h
    refine g_iald E 2 (wC_2 g ad o) (by decide) hi1 gdX8_holdsFrom_10 ?_
    obtain ⟨n2, e_n2, h⟩ := qNm_of h
    refine g_nmi e_n2 ?_
    refine g_iload_n E gdX8_holdsFrom_11 rfl 3 rfl ?_
    refine g_isub E gdX8_holdsFrom_12 ?_
    refine g_icmp_gt E 20 gdX8_holdsFrom_13 (by decide) h (fun h => ?_) (fun h => ?_)
    ·
      refine g_sub E [] rfl ?_
      exact j20  h
    ·
      refine g_iconst E gdX8_holdsFrom_16 ?_
      refine g_goto E 21 gdX8_holdsFrom_17 (by decide) ?_
      refine g_sub E [] rfl ?_
      exact j21 1 h
set_option maxHeartbeats 4000000 in
set_option maxRecDepth 100000 in
theorem c_X8_transfer (l : Launch) (g : GG) (ad : Nat → Nat) (o : OO) (x1 : Int) (x2 : Int) (x3 : Int) (x4 : Int) (x5 : Int) (v : OO) (h : s_X8_transfer o x1 x2 x3 x4 x5 = some v) : CV l g yX8_transfer cX8_transfer 6 1 64 (wC g ad o) [.ref (ad 1), iv x1, iv x2, iv x3, iv x4, iv x5] (wC g ad v) := by
  refine met_V (by decide) (Nat.le_of_ble_eq_true rfl) ?_
  intro X E hQ
  show Go X 0 (wC g ad o) [(0, .ref (ad 1)), (1, iv x1), (2, iv x2), (3, iv x3), (4, iv x4), (5, iv x5)] []
  unfold s_X8_transfer at h
  refine g_aload_n E gdX8_transfer_0 rfl 0 rfl ?_
  refine g_get (T := TX8) E fw_X8 1 (wC_1 g ad o) rfl 3 (by decide) w_129 rfl rfl gdX8_transfer_1 ?_
  refine g_iload_n E gdX8_transfer_4 rfl 1 rfl ?_
  refine g_bipush E gdX8_transfer_5 (by decide) ?_
  refine g_imul E gdX8_transfer_7 ?_
  refine g_iload_n E gdX8_transfer_8 rfl 2 rfl ?_
  refine g_iadd E gdX8_transfer_9 ?_
  refine g_aload_n E gdX8_transfer_10 rfl 0 rfl ?_
  refine g_get (T := TX8) E fw_X8 1 (wC_1 g ad o) rfl 3 (by decide) w_129 rfl rfl gdX8_transfer_11 ?_
  refine g_iload_n E gdX8_transfer_14 rfl 3 rfl ?_
  refine g_bipush E gdX8_transfer_15 (by decide) ?_
  refine g_imul E gdX8_transfer_17 ?_
  refine g_iload E gdX8_transfer_18 4 rfl ?_
  refine g_iadd E gdX8_transfer_20 ?_
  refine g_iload E gdX8_transfer_21 5 rfl ?_
  obtain ⟨hc1, h⟩ := qC_of h
  obtain ⟨o2, e_o2, h⟩ := qNm_of h
  refine g_copy (ws' := wC g ad o2) E 3 (wC_3 g ad o) (by decide) hc1.1 hc1.2.1 hc1.2.2.1 hc1.2.2.2.1 hc1.2.2.2.2 w_575 w_577 w_576 w_104 (by rw [e_o2]; rfl) (Nat.le_of_ble_eq_true rfl) (by decide) gdX8_transfer_23 ?_
  exact g_vret E hQ (by rw [← Option.some.inj h]) gdX8_transfer_26
set_option maxHeartbeats 4000000 in
set_option maxRecDepth 100000 in
theorem c_X11_copy (l : Launch) (g : GG) (ad : Nat → Nat) (o : OO) (x1 : Int) (x2 : Int) (x3 : Int) (x4 : Int) (x5 : Int) (v : Int × OO) (h : s_X11_copy o x1 x2 x3 x4 x5 = some v) : CI l g yX11_copy cX11_copy 6 (some .int) 2 89 (wC g ad o) [.ref (ad 0), iv x1, iv x2, iv x3, iv x4, iv x5] v.1 (wC g ad v.2) := by
  refine met_I (by decide) (Nat.le_of_ble_eq_true rfl) ?_
  intro X E hQ
  show Go X 0 (wC g ad o) [(0, .ref (ad 0)), (1, iv x1), (2, iv x2), (3, iv x3), (4, iv x4), (5, iv x5)] []
  have j22 : ∀ (o : OO), b_X11_copy_22 o = some v → Go X 22 (wC g ad o) [] [] := by
    intro o h
    unfold b_X11_copy_22 at h
    refine g_iconst E gdX11_copy_22 ?_
    exact g_iret E hQ (by rw [← Option.some.inj h]) (by rw [← Option.some.inj h]) gdX11_copy_23
  have j57 : ∀ (o : OO), b_X11_copy_57 o = some v → Go X 57 (wC g ad o) [(0, .ref (ad 0))] [] := by
    intro o h
    unfold b_X11_copy_57 at h
    refine g_aload_n E gdX11_copy_57 rfl 0 rfl ?_
    refine g_iconst E gdX11_copy_58 ?_
    obtain ⟨r1, o3, hc2, h⟩ := qB2_of h
    refine g_Vi (r := r1) (As := [iv 1]) (rest := []) (w := wC g ad o3) E (c_X11_found l g ad o 1 (r1, o3) hc2) okm_X11_found okw_X11_found w_521 rfl (wC_0 g ad o) rfl rfl (Nat.le_of_ble_eq_true rfl) ⟨Nat.le_of_ble_eq_true rfl, Nat.le_of_ble_eq_true rfl⟩ gdX11_copy_59 ?_
    exact g_iret E hQ (by rw [← Option.some.inj h]) (by rw [← Option.some.inj h]) gdX11_copy_62
  have j92 : ∀ (o : OO), b_X11_copy_92 o = some v → Go X 92 (wC g ad o) [(0, .ref (ad 0))] [] := by
    intro o h
    unfold b_X11_copy_92 at h
    refine g_aload_n E gdX11_copy_92 rfl 0 rfl ?_
    refine g_iconst E gdX11_copy_93 ?_
    obtain ⟨r4, o6, hc5, h⟩ := qB2_of h
    refine g_Vi (r := r4) (As := [iv 2]) (rest := []) (w := wC g ad o6) E (c_X11_found l g ad o 2 (r4, o6) hc5) okm_X11_found okw_X11_found w_521 rfl (wC_0 g ad o) rfl rfl (Nat.le_of_ble_eq_true rfl) ⟨Nat.le_of_ble_eq_true rfl, Nat.le_of_ble_eq_true rfl⟩ gdX11_copy_94 ?_
    exact g_iret E hQ (by rw [← Option.some.inj h]) (by rw [← Option.some.inj h]) gdX11_copy_97
  unfold s_X11_copy at h
  refine g_aload_n E gdX11_copy_0 rfl 0 rfl ?_
  refine g_get (T := TX11) E fw_X11 0 (wC_0 g ad o) rfl 0 (by decide) w_458 rfl rfl gdX11_copy_1 ?_
  refine g_iload_n E gdX11_copy_4 rfl 1 rfl ?_
  obtain ⟨r7, hc8, h⟩ := qB_of h
  refine g_Vi (r := r7) (As := [iv x1]) (rest := []) (w := wC g ad o) E (c_X8_exists l g ad o x1 r7 hc8) okm_X8_exists okw_X8_exists w_517 rfl (wC_1 g ad o) rfl rfl (Nat.le_of_ble_eq_true rfl) ⟨Nat.le_of_ble_eq_true rfl, Nat.le_of_ble_eq_true rfl⟩ gdX11_copy_5 ?_
  refine g_if_eq E 22 gdX11_copy_8 (by decide) h (fun h => ?_) (fun h => ?_)
  ·
    refine g_sub E [] rfl ?_
    exact j22 o h
  ·
    refine g_aload_n E gdX11_copy_11 rfl 0 rfl ?_
    refine g_get (T := TX11) E fw_X11 0 (wC_0 g ad o) rfl 0 (by decide) w_458 rfl rfl gdX11_copy_12 ?_
    refine g_iload_n E gdX11_copy_15 rfl 3 rfl ?_
    obtain ⟨r9, hc10, h⟩ := qB_of h
    refine g_Vi (r := r9) (As := [iv x3]) (rest := []) (w := wC g ad o) E (c_X8_exists l g ad o x3 r9 hc10) okm_X8_exists okw_X8_exists w_517 rfl (wC_1 g ad o) rfl rfl (Nat.le_of_ble_eq_true rfl) ⟨Nat.le_of_ble_eq_true rfl, Nat.le_of_ble_eq_true rfl⟩ gdX11_copy_16 ?_
    refine g_if_ne E 24 gdX11_copy_19 (by decide) h (fun h => ?_) (fun h => ?_)
    ·
      refine g_iload E gdX11_copy_24 5 rfl ?_
      refine g_if_ge E 35 gdX11_copy_26 (by decide) h (fun h => ?_) (fun h => ?_)
      ·
        refine g_aload_n E gdX11_copy_35 rfl 0 rfl ?_
        refine g_get (T := TX11) E fw_X11 0 (wC_0 g ad o) rfl 0 (by decide) w_458 rfl rfl gdX11_copy_36 ?_
        refine g_iload_n E gdX11_copy_39 rfl 1 rfl ?_
        obtain ⟨r11, hc12, h⟩ := qB_of h
        refine g_Vi (r := r11) (As := [iv x1]) (rest := []) (w := wC g ad o) E (c_X8_isThere l g ad o x1 r11 hc12) okm_X8_isThere okw_X8_isThere w_539 rfl (wC_1 g ad o) rfl rfl (Nat.le_of_ble_eq_true rfl) ⟨Nat.le_of_ble_eq_true rfl, Nat.le_of_ble_eq_true rfl⟩ gdX11_copy_40 ?_
        refine g_if_eq E 57 gdX11_copy_43 (by decide) h (fun h => ?_) (fun h => ?_)
        ·
          refine g_sub E [0] rfl ?_
          exact j57 o h
        ·
          refine g_aload_n E gdX11_copy_46 rfl 0 rfl ?_
          refine g_get (T := TX11) E fw_X11 0 (wC_0 g ad o) rfl 0 (by decide) w_458 rfl rfl gdX11_copy_47 ?_
          refine g_iload_n E gdX11_copy_50 rfl 3 rfl ?_
          obtain ⟨r13, hc14, h⟩ := qB_of h
          refine g_Vi (r := r13) (As := [iv x3]) (rest := []) (w := wC g ad o) E (c_X8_isThere l g ad o x3 r13 hc14) okm_X8_isThere okw_X8_isThere w_539 rfl (wC_1 g ad o) rfl rfl (Nat.le_of_ble_eq_true rfl) ⟨Nat.le_of_ble_eq_true rfl, Nat.le_of_ble_eq_true rfl⟩ gdX11_copy_51 ?_
          refine g_if_ne E 63 gdX11_copy_54 (by decide) h (fun h => ?_) (fun h => ?_)
          ·
            refine g_aload_n E gdX11_copy_63 rfl 0 rfl ?_
            refine g_get (T := TX11) E fw_X11 0 (wC_0 g ad o) rfl 0 (by decide) w_458 rfl rfl gdX11_copy_64 ?_
            refine g_iload_n E gdX11_copy_67 rfl 1 rfl ?_
            refine g_iload_n E gdX11_copy_68 rfl 2 rfl ?_
            refine g_iload E gdX11_copy_69 5 rfl ?_
            obtain ⟨r15, hc16, h⟩ := qB_of h
            refine g_Vi (r := r15) (As := [iv x1, iv x2, iv x5]) (rest := []) (w := wC g ad o) E (c_X8_holdsFrom l g ad o x1 x2 x5 r15 hc16) okm_X8_holdsFrom okw_X8_holdsFrom w_567 rfl (wC_1 g ad o) rfl rfl (Nat.le_of_ble_eq_true rfl) ⟨Nat.le_of_ble_eq_true rfl, Nat.le_of_ble_eq_true rfl⟩ gdX11_copy_71 ?_
            refine g_if_eq E 92 gdX11_copy_74 (by decide) h (fun h => ?_) (fun h => ?_)
            ·
              refine g_sub E [0] rfl ?_
              exact j92 o h
            ·
              refine g_aload_n E gdX11_copy_77 rfl 0 rfl ?_
              refine g_get (T := TX11) E fw_X11 0 (wC_0 g ad o) rfl 0 (by decide) w_458 rfl rfl gdX11_copy_78 ?_
              refine g_iload_n E gdX11_copy_81 rfl 3 rfl ?_
              refine g_iload E gdX11_copy_82 4 rfl ?_
              refine g_iload E gdX11_copy_84 5 rfl ?_
              obtain ⟨r17, hc18, h⟩ := qB_of h
              refine g_Vi (r := r17) (As := [iv x3, iv x4, iv x5]) (rest := []) (w := wC g ad o) E (c_X8_holdsFrom l g ad o x3 x4 x5 r17 hc18) okm_X8_holdsFrom okw_X8_holdsFrom w_567 rfl (wC_1 g ad o) rfl rfl (Nat.le_of_ble_eq_true rfl) ⟨Nat.le_of_ble_eq_true rfl, Nat.le_of_ble_eq_true rfl⟩ gdX11_copy_86 ?_
              refine g_if_ne E 98 gdX11_copy_89 (by decide) h (fun h => ?_) (fun h => ?_)
              ·
                refine g_aload_n E gdX11_copy_98 rfl 0 rfl ?_
                refine g_get (T := TX11) E fw_X11 0 (wC_0 g ad o) rfl 0 (by decide) w_458 rfl rfl gdX11_copy_99 ?_
                refine g_iload_n E gdX11_copy_102 rfl 1 rfl ?_
                refine g_iload_n E gdX11_copy_103 rfl 2 rfl ?_
                refine g_iload_n E gdX11_copy_104 rfl 3 rfl ?_
                refine g_iload E gdX11_copy_105 4 rfl ?_
                refine g_iload E gdX11_copy_107 5 rfl ?_
                obtain ⟨o21, hc20, h⟩ := qB_of h
                refine g_Vv (As := [iv x1, iv x2, iv x3, iv x4, iv x5]) (rest := []) (w := wC g ad o21) E (c_X8_transfer l g ad o x1 x2 x3 x4 x5 o21 hc20) okm_X8_transfer okw_X8_transfer w_571 rfl (wC_1 g ad o) rfl rfl (Nat.le_of_ble_eq_true rfl) ⟨Nat.le_of_ble_eq_true rfl, Nat.le_of_ble_eq_true rfl⟩ gdX11_copy_109 ?_
                refine g_iconst E gdX11_copy_112 ?_
                exact g_iret E hQ (by rw [← Option.some.inj h]) (by rw [← Option.some.inj h]) gdX11_copy_113
              ·
                refine g_sub E [0] rfl ?_
                exact j92 o h
          ·
            refine g_sub E [0] rfl ?_
            exact j57 o h
      ·
        refine g_aload_n E gdX11_copy_29 rfl 0 rfl ?_
        refine g_iconst E gdX11_copy_30 ?_
        obtain ⟨r22, o24, hc23, h⟩ := qB2_of h
        refine g_Vi (r := r22) (As := [iv 5]) (rest := []) (w := wC g ad o24) E (c_X11_found l g ad o 5 (r22, o24) hc23) okm_X11_found okw_X11_found w_521 rfl (wC_0 g ad o) rfl rfl (Nat.le_of_ble_eq_true rfl) ⟨Nat.le_of_ble_eq_true rfl, Nat.le_of_ble_eq_true rfl⟩ gdX11_copy_31 ?_
        exact g_iret E hQ (by rw [← Option.some.inj h]) (by rw [← Option.some.inj h]) gdX11_copy_34
    ·
      refine g_sub E [] rfl ?_
      exact j22 o h
set_option maxHeartbeats 4000000 in
set_option maxRecDepth 100000 in
theorem c_X11_cost (l : Launch) (g : GG) (ad : Nat → Nat) (o : OO) (x1 : Int) (v : Int × OO) (h : s_X11_cost o x1 = some v) : CI l g yX11_cost cX11_cost 2 (some .int) 1 23 (wC g ad o) [.ref (ad 0), iv x1] v.1 (wC g ad v.2) := by
  refine met_I (by decide) (Nat.le_of_ble_eq_true rfl) ?_
  intro X E hQ
  show Go X 0 (wC g ad o) [(0, .ref (ad 0)), (1, iv x1)] []
  unfold s_X11_cost at h
  refine g_aload_n E gdX11_cost_0 rfl 0 rfl ?_
  refine g_get (T := TX11) E fw_X11 0 (wC_0 g ad o) rfl 6 (by decide) w_464 rfl rfl gdX11_cost_1 ?_
  refine g_iload_n E gdX11_cost_4 rfl 1 rfl ?_
  obtain ⟨r1, hc2, h⟩ := qB_of h
  refine g_Vi (r := r1) (As := [iv x1]) (rest := []) (w := wC g ad o) E (c_X4_exists l g ad o x1 r1 hc2) okm_X4_exists okw_X4_exists w_882 rfl (wC_32 g ad o) rfl rfl (Nat.le_of_ble_eq_true rfl) ⟨Nat.le_of_ble_eq_true rfl, Nat.le_of_ble_eq_true rfl⟩ gdX11_cost_5 ?_
  refine g_if_ne E 13 gdX11_cost_8 (by decide) h (fun h => ?_) (fun h => ?_)
  ·
    refine g_aload_n E gdX11_cost_13 rfl 0 rfl ?_
    refine g_get (T := TX11) E fw_X11 0 (wC_0 g ad o) rfl 6 (by decide) w_464 rfl rfl gdX11_cost_14 ?_
    refine g_iload_n E gdX11_cost_17 rfl 1 rfl ?_
    refine g_iconst E gdX11_cost_18 ?_
    obtain ⟨r3, hc4, h⟩ := qB_of h
    refine g_Vi (r := r3) (As := [iv x1, iv 1]) (rest := []) (w := wC g ad o) E (c_X4_isOf l g ad o x1 1 r3 hc4) okm_X4_isOf okw_X4_isOf w_886 rfl (wC_32 g ad o) rfl rfl (Nat.le_of_ble_eq_true rfl) ⟨Nat.le_of_ble_eq_true rfl, Nat.le_of_ble_eq_true rfl⟩ gdX11_cost_19 ?_
    refine g_if_ne E 31 gdX11_cost_22 (by decide) h (fun h => ?_) (fun h => ?_)
    ·
      refine g_aload_n E gdX11_cost_31 rfl 0 rfl ?_
      refine g_get (T := TX11) E fw_X11 0 (wC_0 g ad o) rfl 6 (by decide) w_464 rfl rfl gdX11_cost_32 ?_
      refine g_iload_n E gdX11_cost_35 rfl 1 rfl ?_
      obtain ⟨r5, hc6, h⟩ := qB_of h
      refine g_Vi (r := r5) (As := [iv x1]) (rest := []) (w := wC g ad o) E (c_X4_costOf l g ad o x1 r5 hc6) okm_X4_costOf okw_X4_costOf w_1054 rfl (wC_32 g ad o) rfl rfl (Nat.le_of_ble_eq_true rfl) ⟨Nat.le_of_ble_eq_true rfl, Nat.le_of_ble_eq_true rfl⟩ gdX11_cost_36 ?_
      exact g_iret E hQ (by rw [← Option.some.inj h]) (by rw [← Option.some.inj h]) gdX11_cost_39
    ·
      refine g_aload_n E gdX11_cost_25 rfl 0 rfl ?_
      refine g_iconst E gdX11_cost_26 ?_
      obtain ⟨r7, o9, hc8, h⟩ := qB2_of h
      refine g_Vi (r := r7) (As := [iv 3]) (rest := []) (w := wC g ad o9) E (c_X11_found l g ad o 3 (r7, o9) hc8) okm_X11_found okw_X11_found w_521 rfl (wC_0 g ad o) rfl rfl (Nat.le_of_ble_eq_true rfl) ⟨Nat.le_of_ble_eq_true rfl, Nat.le_of_ble_eq_true rfl⟩ gdX11_cost_27 ?_
      exact g_iret E hQ (by rw [← Option.some.inj h]) (by rw [← Option.some.inj h]) gdX11_cost_30
  ·
    refine g_iconst E gdX11_cost_11 ?_
    exact g_iret E hQ (by rw [← Option.some.inj h]) (by rw [← Option.some.inj h]) gdX11_cost_12
set_option maxHeartbeats 4000000 in
set_option maxRecDepth 100000 in
theorem c_X8_isThere__4 (l : Launch) (g : GG) (ad : Nat → Nat) (o : OO) (x1 : Int) (v : Int) (h : s_X8_isThere__4 o x1 = some v) : CI l g yX8_isThere cX8_isThere 2 (some .boolean) 0 0 (wC g ad o) [.ref (ad 4), iv x1] v (wC g ad o) := by
  refine met_I (by decide) (Nat.le_of_ble_eq_true rfl) ?_
  intro X E hQ
  show Go X 0 (wC g ad o) [(0, .ref (ad 4)), (1, iv x1)] []
  have j15 : ∀ (y0 : Int), b_X8_isThere__4_15 o y0 = some v → Go X 15 (wC g ad o) [] [iv y0] := by
    intro y0 h
    unfold b_X8_isThere__4_15 at h
    obtain ⟨hz, h⟩ := qZ_of h
    exact g_zret E hQ hz (Option.some.inj h) rfl gdX8_isThere_15
  unfold s_X8_isThere__4 at h
  refine g_aload_n E gdX8_isThere_0 rfl 0 rfl ?_
  refine g_get (T := TX8) E fw_X8 4 (wC_4 g ad o) rfl 2 (by decide) w_128 rfl rfl gdX8_isThere_1 ?_
  refine g_iload_n E gdX8_isThere_4 rfl 1 rfl ?_
  obtain ⟨hi1, h⟩ := qIn_of h
  refine g_iald E 5 (wC_5 g ad o) (by decide) hi1 gdX8_isThere_5 ?_
  obtain ⟨n2, e_n2, h⟩ := qNm_of h
  refine g_nmi e_n2 ?_
  refine g_iconst E gdX8_isThere_6 ?_
  refine g_icmp_eq E 14 gdX8_isThere_7 (by decide) h (fun h => ?_) (fun h => ?_)
  ·
    refine g_iconst E gdX8_isThere_14 ?_
    refine g_sub E [] rfl ?_
    exact j15 0 h
  ·
    refine g_iconst E gdX8_isThere_10 ?_
    refine g_goto E 15 gdX8_isThere_11 (by decide) ?_
    refine g_sub E [] rfl ?_
    exact j15 1 h
set_option maxHeartbeats 4000000 in
set_option maxRecDepth 100000 in
theorem c_X8_present (l : Launch) (g : GG) (ad : Nat → Nat) (o : OO) (v : Int) (h : s_X8_present o = some v) : CI l g yX8_present cX8_present 3 (some .int) 1 21 (wC g ad o) [.ref (ad 4)] v (wC g ad o) := by
  refine met_I (by decide) (Nat.le_of_ble_eq_true rfl) ?_
  intro X E hQ
  show Go X 0 (wC g ad o) [(0, .ref (ad 4))] []
  have j29 : ∀ (x1 : Int), b_X8_present_29 o x1 = some v → Go X 29 (wC g ad o) [(1, iv x1)] [] := by
    intro x1 h
    unfold b_X8_present_29 at h
    refine g_iload_n E gdX8_present_29 rfl 0 rfl ?_
    exact g_iret E hQ (Option.some.inj h) rfl gdX8_present_30
  have j23 : ∀ (x1 : Int) (x2 : Int) (v : (Int × Int) ⊕ ((Int))), b_X8_present_23 o x1 x2 = some v → (∀ (x1 : Int) (x2 : Int), v = .inl (x1, x2) → Go X 4 (wC g ad o) [(0, .ref (ad 4)), (1, iv x1), (2, iv x2)] []) → (∀ (x1 : Int), v = .inr (x1) → Go X 29 (wC g ad o) [(1, iv x1)] []) → Go X 23 (wC g ad o) [(0, .ref (ad 4)), (1, iv x1), (2, iv x2)] [] := by
    intro x1 x2 v h k0 k1
    unfold b_X8_present_23 at h
    refine g_iinc E [(2, iv (x2 + 1)), (0, .ref (ad 4)), (1, iv x1)] gdX8_present_23 2 rfl (by decide) rfl ?_
    refine g_goto E 4 gdX8_present_26 (by decide) ?_
    refine g_sub E [1, 2, 0] rfl ?_
    exact k0 x1 (x2 + 1) (Option.some.inj h).symm
  have l4 : ∀  (r : (Int)) (s0 : Int × Int), loopW (fun s => l_X8_present_4 o s.1 s.2) s0 = some r → (∀ (x1 : Int), r = (x1) → Go X 29 (wC g ad o) [(1, iv x1)] []) → Go X 4 (wC g ad o) [(0, .ref (ad 4)), (1, iv s0.1), (2, iv s0.2)] [] := by
    intro r s0 h k1
    refine loop_rule (Head := fun s0 => Go X 4 (wC g ad o) [(0, .ref (ad 4)), (1, iv s0.1), (2, iv s0.2)] []) h ?_
    intro s v h kk kx
    obtain ⟨x1, x2⟩ := s
    have h : l_X8_present_4 o x1 x2 = some v := h
    have k0 : ∀ (x1 : Int) (x2 : Int), v = .inl (x1, x2) → Go X 4 (wC g ad o) [(0, .ref (ad 4)), (1, iv x1), (2, iv x2)] [] := fun x1 x2 e => kk (x1, x2) e
    have k1 : ∀ (x1 : Int), v = .inr (x1) → Go X 29 (wC g ad o) [(1, iv x1)] [] := fun x1 e => k1 x1 (kx _ e).symm
    unfold l_X8_present_4 at h
    refine g_iload_n E gdX8_present_4 rfl 2 rfl ?_
    refine g_aload_n E gdX8_present_5 rfl 0 rfl ?_
    refine g_get (T := TX8) E fw_X8 4 (wC_4 g ad o) rfl 0 (by decide) w_126 rfl rfl gdX8_present_6 ?_
    refine g_icmp_ge E 29 gdX8_present_9 (by decide) h (fun h => ?_) (fun h => ?_)
    ·
      refine g_sub E [1] rfl ?_
      exact k1 x1 (Option.some.inj h).symm
    ·
      refine g_aload_n E gdX8_present_12 rfl 0 rfl ?_
      refine g_iload_n E gdX8_present_13 rfl 2 rfl ?_
      obtain ⟨r1, hc2, h⟩ := qB_of h
      refine g_Vi (r := r1) (As := [iv x2]) (rest := []) (w := wC g ad o) E (c_X8_isThere__4 l g ad o x2 r1 hc2) okm_X8_isThere okw_X8_isThere w_1409 rfl (wC_4 g ad o) rfl rfl (Nat.le_of_ble_eq_true rfl) ⟨Nat.le_of_ble_eq_true rfl, Nat.le_of_ble_eq_true rfl⟩ gdX8_present_14 ?_
      refine g_if_eq E 23 gdX8_present_17 (by decide) h (fun h => ?_) (fun h => ?_)
      ·
        exact j23 x1 x2 v h k0 k1
      ·
        refine g_iinc E [(1, iv (x1 + 1)), (0, .ref (ad 4)), (2, iv x2)] gdX8_present_20 1 rfl (by decide) rfl ?_
        refine g_sub E [1, 0, 2] rfl ?_
        exact j23 (x1 + 1) x2 v h k0 k1
  have j4 : ∀ (x1 : Int) (x2 : Int), e_X8_present_4 o x1 x2 = some v → Go X 4 (wC g ad o) [(0, .ref (ad 4)), (1, iv x1), (2, iv x2)] [] := by
    intro x1 x2 h
    unfold e_X8_present_4 at h
    obtain ⟨r, hr, h⟩ := qB_of h
    refine l4  r _ hr ?_
    ·
      intro u0 e
      have e := e.symm
      subst e
      have h : b_X8_present_29 o u0 = some v := h
      exact j29 u0 h
  unfold s_X8_present at h
  refine g_iconst E gdX8_present_0 ?_
  refine g_istore_n E [(1, iv 0), (0, .ref (ad 4))] gdX8_present_1 rfl (by decide) rfl ?_
  refine g_iconst E gdX8_present_2 ?_
  refine g_istore_n E [(2, iv 0), (1, iv 0), (0, .ref (ad 4))] gdX8_present_3 rfl (by decide) rfl ?_
  refine g_sub E [2, 1, 0] rfl ?_
  exact j4 0 0 h
set_option maxHeartbeats 4000000 in
set_option maxRecDepth 100000 in
theorem c_X8_present__1 (l : Launch) (g : GG) (ad : Nat → Nat) (o : OO) (v : Int) (h : s_X8_present__1 o = some v) : CI l g yX8_present cX8_present 3 (some .int) 1 21 (wC g ad o) [.ref (ad 1)] v (wC g ad o) := by
  refine met_I (by decide) (Nat.le_of_ble_eq_true rfl) ?_
  intro X E hQ
  show Go X 0 (wC g ad o) [(0, .ref (ad 1))] []
  have j29 : ∀ (x1 : Int), b_X8_present__1_29 o x1 = some v → Go X 29 (wC g ad o) [(1, iv x1)] [] := by
    intro x1 h
    unfold b_X8_present__1_29 at h
    refine g_iload_n E gdX8_present_29 rfl 0 rfl ?_
    exact g_iret E hQ (Option.some.inj h) rfl gdX8_present_30
  have j23 : ∀ (x1 : Int) (x2 : Int) (v : (Int × Int) ⊕ ((Int))), b_X8_present__1_23 o x1 x2 = some v → (∀ (x1 : Int) (x2 : Int), v = .inl (x1, x2) → Go X 4 (wC g ad o) [(0, .ref (ad 1)), (1, iv x1), (2, iv x2)] []) → (∀ (x1 : Int), v = .inr (x1) → Go X 29 (wC g ad o) [(1, iv x1)] []) → Go X 23 (wC g ad o) [(0, .ref (ad 1)), (1, iv x1), (2, iv x2)] [] := by
    intro x1 x2 v h k0 k1
    unfold b_X8_present__1_23 at h
    refine g_iinc E [(2, iv (x2 + 1)), (0, .ref (ad 1)), (1, iv x1)] gdX8_present_23 2 rfl (by decide) rfl ?_
    refine g_goto E 4 gdX8_present_26 (by decide) ?_
    refine g_sub E [1, 2, 0] rfl ?_
    exact k0 x1 (x2 + 1) (Option.some.inj h).symm
  have l4 : ∀  (r : (Int)) (s0 : Int × Int), loopW (fun s => l_X8_present__1_4 o s.1 s.2) s0 = some r → (∀ (x1 : Int), r = (x1) → Go X 29 (wC g ad o) [(1, iv x1)] []) → Go X 4 (wC g ad o) [(0, .ref (ad 1)), (1, iv s0.1), (2, iv s0.2)] [] := by
    intro r s0 h k1
    refine loop_rule (Head := fun s0 => Go X 4 (wC g ad o) [(0, .ref (ad 1)), (1, iv s0.1), (2, iv s0.2)] []) h ?_
    intro s v h kk kx
    obtain ⟨x1, x2⟩ := s
    have h : l_X8_present__1_4 o x1 x2 = some v := h
    have k0 : ∀ (x1 : Int) (x2 : Int), v = .inl (x1, x2) → Go X 4 (wC g ad o) [(0, .ref (ad 1)), (1, iv x1), (2, iv x2)] [] := fun x1 x2 e => kk (x1, x2) e
    have k1 : ∀ (x1 : Int), v = .inr (x1) → Go X 29 (wC g ad o) [(1, iv x1)] [] := fun x1 e => k1 x1 (kx _ e).symm
    unfold l_X8_present__1_4 at h
    refine g_iload_n E gdX8_present_4 rfl 2 rfl ?_
    refine g_aload_n E gdX8_present_5 rfl 0 rfl ?_
    refine g_get (T := TX8) E fw_X8 1 (wC_1 g ad o) rfl 0 (by decide) w_126 rfl rfl gdX8_present_6 ?_
    refine g_icmp_ge E 29 gdX8_present_9 (by decide) h (fun h => ?_) (fun h => ?_)
    ·
      refine g_sub E [1] rfl ?_
      exact k1 x1 (Option.some.inj h).symm
    ·
      refine g_aload_n E gdX8_present_12 rfl 0 rfl ?_
      refine g_iload_n E gdX8_present_13 rfl 2 rfl ?_
      obtain ⟨r1, hc2, h⟩ := qB_of h
      refine g_Vi (r := r1) (As := [iv x2]) (rest := []) (w := wC g ad o) E (c_X8_isThere l g ad o x2 r1 hc2) okm_X8_isThere okw_X8_isThere w_1409 rfl (wC_1 g ad o) rfl rfl (Nat.le_of_ble_eq_true rfl) ⟨Nat.le_of_ble_eq_true rfl, Nat.le_of_ble_eq_true rfl⟩ gdX8_present_14 ?_
      refine g_if_eq E 23 gdX8_present_17 (by decide) h (fun h => ?_) (fun h => ?_)
      ·
        exact j23 x1 x2 v h k0 k1
      ·
        refine g_iinc E [(1, iv (x1 + 1)), (0, .ref (ad 1)), (2, iv x2)] gdX8_present_20 1 rfl (by decide) rfl ?_
        refine g_sub E [1, 0, 2] rfl ?_
        exact j23 (x1 + 1) x2 v h k0 k1
  have j4 : ∀ (x1 : Int) (x2 : Int), e_X8_present__1_4 o x1 x2 = some v → Go X 4 (wC g ad o) [(0, .ref (ad 1)), (1, iv x1), (2, iv x2)] [] := by
    intro x1 x2 h
    unfold e_X8_present__1_4 at h
    obtain ⟨r, hr, h⟩ := qB_of h
    refine l4  r _ hr ?_
    ·
      intro u0 e
      have e := e.symm
      subst e
      have h : b_X8_present__1_29 o u0 = some v := h
      exact j29 u0 h
  unfold s_X8_present__1 at h
  refine g_iconst E gdX8_present_0 ?_
  refine g_istore_n E [(1, iv 0), (0, .ref (ad 1))] gdX8_present_1 rfl (by decide) rfl ?_
  refine g_iconst E gdX8_present_2 ?_
  refine g_istore_n E [(2, iv 0), (1, iv 0), (0, .ref (ad 1))] gdX8_present_3 rfl (by decide) rfl ?_
  refine g_sub E [2, 1, 0] rfl ?_
  exact j4 0 0 h
set_option maxHeartbeats 4000000 in
set_option maxRecDepth 100000 in
theorem c_X1_tellings (l : Launch) (g : GG) (ad : Nat → Nat) (o : OO) (v : Int) (h : s_X1_tellings o = some v) : CI l g yX1_tellings cX1_tellings 1 (some .int) 0 0 (wC g ad o) [.ref (ad 10)] v (wC g ad o) := by
  refine met_I (by decide) (Nat.le_of_ble_eq_true rfl) ?_
  intro X E hQ
  show Go X 0 (wC g ad o) [(0, .ref (ad 10))] []
  unfold s_X1_tellings at h
  refine g_aload_n E gdX1_tellings_0 rfl 0 rfl ?_
  refine g_get (T := TX1) E fw_X1 10 (wC_10 g ad o) rfl 13 (by decide) w_173 rfl rfl gdX1_tellings_1 ?_
  exact g_iret E hQ (Option.some.inj h) rfl gdX1_tellings_4
set_option maxHeartbeats 4000000 in
set_option maxRecDepth 100000 in
theorem c_X7_number (l : Launch) (g : GG) (ad : Nat → Nat) (o : OO) (v : Int) (h : s_X7_number o = some v) : CI l g yX7_number cX7_number 1 (some .int) 0 0 (wC g ad o) [.ref (ad 28)] v (wC g ad o) := by
  refine met_I (by decide) (Nat.le_of_ble_eq_true rfl) ?_
  intro X E hQ
  show Go X 0 (wC g ad o) [(0, .ref (ad 28))] []
  unfold s_X7_number at h
  refine g_aload_n E gdX7_number_0 rfl 0 rfl ?_
  refine g_get (T := TX7) E fw_X7 28 (wC_28 g ad o) rfl 3 (by decide) w_235 rfl rfl gdX7_number_1 ?_
  exact g_iret E hQ (Option.some.inj h) rfl gdX7_number_4
set_option maxHeartbeats 4000000 in
set_option maxRecDepth 100000 in
theorem c_X5_homeless (l : Launch) (g : GG) (ad : Nat → Nat) (o : OO) (v : Int) (h : s_X5_homeless o = some v) : CI l g yX5_homeless cX5_homeless 3 (some .int) 0 0 (wC g ad o) [.ref (ad 23)] v (wC g ad o) := by
  refine met_I (by decide) (Nat.le_of_ble_eq_true rfl) ?_
  intro X E hQ
  show Go X 0 (wC g ad o) [(0, .ref (ad 23))] []
  have j32 : ∀ (x1 : Int), b_X5_homeless_32 o x1 = some v → Go X 32 (wC g ad o) [(1, iv x1)] [] := by
    intro x1 h
    unfold b_X5_homeless_32 at h
    refine g_iload_n E gdX5_homeless_32 rfl 0 rfl ?_
    exact g_iret E hQ (Option.some.inj h) rfl gdX5_homeless_33
  have j26 : ∀ (x1 : Int) (x2 : Int) (v : (Int × Int) ⊕ ((Int))), b_X5_homeless_26 o x1 x2 = some v → (∀ (x1 : Int) (x2 : Int), v = .inl (x1, x2) → Go X 4 (wC g ad o) [(0, .ref (ad 23)), (1, iv x1), (2, iv x2)] []) → (∀ (x1 : Int), v = .inr (x1) → Go X 32 (wC g ad o) [(1, iv x1)] []) → Go X 26 (wC g ad o) [(0, .ref (ad 23)), (1, iv x1), (2, iv x2)] [] := by
    intro x1 x2 v h k0 k1
    unfold b_X5_homeless_26 at h
    refine g_iinc E [(2, iv (x2 + 1)), (0, .ref (ad 23)), (1, iv x1)] gdX5_homeless_26 2 rfl (by decide) rfl ?_
    refine g_goto E 4 gdX5_homeless_29 (by decide) ?_
    refine g_sub E [1, 2, 0] rfl ?_
    exact k0 x1 (x2 + 1) (Option.some.inj h).symm
  have l4 : ∀  (r : (Int)) (s0 : Int × Int), loopW (fun s => l_X5_homeless_4 o s.1 s.2) s0 = some r → (∀ (x1 : Int), r = (x1) → Go X 32 (wC g ad o) [(1, iv x1)] []) → Go X 4 (wC g ad o) [(0, .ref (ad 23)), (1, iv s0.1), (2, iv s0.2)] [] := by
    intro r s0 h k1
    refine loop_rule (Head := fun s0 => Go X 4 (wC g ad o) [(0, .ref (ad 23)), (1, iv s0.1), (2, iv s0.2)] []) h ?_
    intro s v h kk kx
    obtain ⟨x1, x2⟩ := s
    have h : l_X5_homeless_4 o x1 x2 = some v := h
    have k0 : ∀ (x1 : Int) (x2 : Int), v = .inl (x1, x2) → Go X 4 (wC g ad o) [(0, .ref (ad 23)), (1, iv x1), (2, iv x2)] [] := fun x1 x2 e => kk (x1, x2) e
    have k1 : ∀ (x1 : Int), v = .inr (x1) → Go X 32 (wC g ad o) [(1, iv x1)] [] := fun x1 e => k1 x1 (kx _ e).symm
    unfold l_X5_homeless_4 at h
    refine g_iload_n E gdX5_homeless_4 rfl 2 rfl ?_
    refine g_aload_n E gdX5_homeless_5 rfl 0 rfl ?_
    refine g_get (T := TX5) E fw_X5 23 (wC_23 g ad o) rfl 4 (by decide) w_214 rfl rfl gdX5_homeless_6 ?_
    refine g_icmp_ge E 32 gdX5_homeless_9 (by decide) h (fun h => ?_) (fun h => ?_)
    ·
      refine g_sub E [1] rfl ?_
      exact k1 x1 (Option.some.inj h).symm
    ·
      refine g_aload_n E gdX5_homeless_12 rfl 0 rfl ?_
      refine g_get (T := TX5) E fw_X5 23 (wC_23 g ad o) rfl 0 (by decide) w_210 rfl rfl gdX5_homeless_13 ?_
      refine g_iload_n E gdX5_homeless_16 rfl 2 rfl ?_
      obtain ⟨hi1, h⟩ := qIn_of h
      refine g_iald E 24 (wC_24 g ad o) (by decide) hi1 gdX5_homeless_17 ?_
      obtain ⟨n2, e_n2, h⟩ := qNm_of h
      refine g_nmi e_n2 ?_
      refine g_bipush E gdX5_homeless_18 (by decide) ?_
      refine g_icmp_ne E 26 gdX5_homeless_20 (by decide) h (fun h => ?_) (fun h => ?_)
      ·
        exact j26 x1 x2 v h k0 k1
      ·
        refine g_iinc E [(1, iv (x1 + 1)), (0, .ref (ad 23)), (2, iv x2)] gdX5_homeless_23 1 rfl (by decide) rfl ?_
        refine g_sub E [1, 0, 2] rfl ?_
        exact j26 (x1 + 1) x2 v h k0 k1
  have j4 : ∀ (x1 : Int) (x2 : Int), e_X5_homeless_4 o x1 x2 = some v → Go X 4 (wC g ad o) [(0, .ref (ad 23)), (1, iv x1), (2, iv x2)] [] := by
    intro x1 x2 h
    unfold e_X5_homeless_4 at h
    obtain ⟨r, hr, h⟩ := qB_of h
    refine l4  r _ hr ?_
    ·
      intro u0 e
      have e := e.symm
      subst e
      have h : b_X5_homeless_32 o u0 = some v := h
      exact j32 u0 h
  unfold s_X5_homeless at h
  refine g_iconst E gdX5_homeless_0 ?_
  refine g_istore_n E [(1, iv 0), (0, .ref (ad 23))] gdX5_homeless_1 rfl (by decide) rfl ?_
  refine g_iconst E gdX5_homeless_2 ?_
  refine g_istore_n E [(2, iv 0), (1, iv 0), (0, .ref (ad 23))] gdX5_homeless_3 rfl (by decide) rfl ?_
  refine g_sub E [2, 1, 0] rfl ?_
  exact j4 0 0 h
set_option maxHeartbeats 4000000 in
set_option maxRecDepth 100000 in
theorem c_X5_number (l : Launch) (g : GG) (ad : Nat → Nat) (o : OO) (v : Int) (h : s_X5_number o = some v) : CI l g yX5_number cX5_number 1 (some .int) 0 0 (wC g ad o) [.ref (ad 23)] v (wC g ad o) := by
  refine met_I (by decide) (Nat.le_of_ble_eq_true rfl) ?_
  intro X E hQ
  show Go X 0 (wC g ad o) [(0, .ref (ad 23))] []
  unfold s_X5_number at h
  refine g_aload_n E gdX5_number_0 rfl 0 rfl ?_
  refine g_get (T := TX5) E fw_X5 23 (wC_23 g ad o) rfl 4 (by decide) w_214 rfl rfl gdX5_number_1 ?_
  exact g_iret E hQ (Option.some.inj h) rfl gdX5_number_4
set_option maxHeartbeats 4000000 in
set_option maxRecDepth 100000 in
theorem c_X3_bit (l : Launch) (g : GG) (ws : va_W) (x0 : Int) (v : Int64) (h : s_X3_bit x0 = some v) : CL l g yX3_bit cX3_bit 1 (some .long) 0 0 ws [iv x0] v ws := by
  refine met_L (by decide) (Nat.le_of_ble_eq_true rfl) ?_
  intro X E hQ
  show Go X 0 ws [(0, iv x0)] []
  unfold s_X3_bit at h
  refine g_lconst (v := 1) E gdX3_bit_0 (by decide) ?_
  refine g_iload_n E gdX3_bit_1 rfl 0 rfl ?_
  refine g_lshl E gdX3_bit_2 ?_
  exact g_lret E hQ (Option.some.inj h) rfl gdX3_bit_3
set_option maxHeartbeats 4000000 in
set_option maxRecDepth 100000 in
theorem c_X1_standingCells (l : Launch) (g : GG) (ad : Nat → Nat) (o : OO) (v : Int64) (h : s_X1_standingCells o = some v) : CL l g yX1_standingCells cX1_standingCells 4 (some .long) 1 20 (wC g ad o) [.ref (ad 10)] v (wC g ad o) := by
  refine met_L (by decide) (Nat.le_of_ble_eq_true rfl) ?_
  intro X E hQ
  show Go X 0 (wC g ad o) [(0, .ref (ad 10))] []
  have j39 : ∀ (z1 : Int64), b_X1_standingCells_39 o z1 = some v → Go X 39 (wC g ad o) [(1, .long z1)] [] := by
    intro z1 h
    unfold b_X1_standingCells_39 at h
    refine g_lload_n E gdX1_standingCells_39 rfl 0 rfl ?_
    exact g_lret E hQ (Option.some.inj h) rfl gdX1_standingCells_40
  have j33 : ∀ (z1 : Int64) (x3 : Int) (v : (Int64 × Int) ⊕ ((Int64))), b_X1_standingCells_33 o z1 x3 = some v → (∀ (z1 : Int64) (x3 : Int), v = .inl (z1, x3) → Go X 4 (wC g ad o) [(0, .ref (ad 10)), (1, .long z1), (3, iv x3)] []) → (∀ (z1 : Int64), v = .inr (z1) → Go X 39 (wC g ad o) [(1, .long z1)] []) → Go X 33 (wC g ad o) [(0, .ref (ad 10)), (1, .long z1), (3, iv x3)] [] := by
    intro z1 x3 v h k0 k1
    unfold b_X1_standingCells_33 at h
    refine g_iinc E [(3, iv (x3 + 1)), (0, .ref (ad 10)), (1, .long z1)] gdX1_standingCells_33 2 rfl (by decide) rfl ?_
    refine g_goto E 4 gdX1_standingCells_36 (by decide) ?_
    refine g_sub E [1, 2, 0] rfl ?_
    exact k0 z1 (x3 + 1) (Option.some.inj h).symm
  have l4 : ∀  (r : (Int64)) (s0 : Int64 × Int), loopW (fun s => l_X1_standingCells_4 o s.1 s.2) s0 = some r → (∀ (z1 : Int64), r = (z1) → Go X 39 (wC g ad o) [(1, .long z1)] []) → Go X 4 (wC g ad o) [(0, .ref (ad 10)), (1, .long s0.1), (3, iv s0.2)] [] := by
    intro r s0 h k1
    refine loop_rule (Head := fun s0 => Go X 4 (wC g ad o) [(0, .ref (ad 10)), (1, .long s0.1), (3, iv s0.2)] []) h ?_
    intro s v h kk kx
    obtain ⟨z1, x3⟩ := s
    have h : l_X1_standingCells_4 o z1 x3 = some v := h
    have k0 : ∀ (z1 : Int64) (x3 : Int), v = .inl (z1, x3) → Go X 4 (wC g ad o) [(0, .ref (ad 10)), (1, .long z1), (3, iv x3)] [] := fun z1 x3 e => kk (z1, x3) e
    have k1 : ∀ (z1 : Int64), v = .inr (z1) → Go X 39 (wC g ad o) [(1, .long z1)] [] := fun z1 e => k1 z1 (kx _ e).symm
    unfold l_X1_standingCells_4 at h
    refine g_iload_n E gdX1_standingCells_4 rfl 2 rfl ?_
    refine g_aload_n E gdX1_standingCells_5 rfl 0 rfl ?_
    refine g_get (T := TX1) E fw_X1 10 (wC_10 g ad o) rfl 12 (by decide) w_172 rfl rfl gdX1_standingCells_6 ?_
    refine g_icmp_ge E 39 gdX1_standingCells_9 (by decide) h (fun h => ?_) (fun h => ?_)
    ·
      refine g_sub E [1] rfl ?_
      exact k1 z1 (Option.some.inj h).symm
    ·
      refine g_aload_n E gdX1_standingCells_12 rfl 0 rfl ?_
      refine g_get (T := TX1) E fw_X1 10 (wC_10 g ad o) rfl 6 (by decide) w_166 rfl rfl gdX1_standingCells_13 ?_
      refine g_iload_n E gdX1_standingCells_16 rfl 2 rfl ?_
      obtain ⟨hi1, h⟩ := qIn_of h
      refine g_zald E 17 (wC_17 g ad o) (by decide) hi1 gdX1_standingCells_17 ?_
      obtain ⟨n2, e_n2, h⟩ := qNm_of h
      refine g_nmi e_n2 ?_
      refine g_if_ne E 33 gdX1_standingCells_18 (by decide) h (fun h => ?_) (fun h => ?_)
      ·
        exact j33 z1 x3 v h k0 k1
      ·
        refine g_lload_n E gdX1_standingCells_21 rfl 1 rfl ?_
        refine g_aload_n E gdX1_standingCells_22 rfl 0 rfl ?_
        refine g_get (T := TX1) E fw_X1 10 (wC_10 g ad o) rfl 0 (by decide) w_160 rfl rfl gdX1_standingCells_23 ?_
        refine g_iload_n E gdX1_standingCells_26 rfl 2 rfl ?_
        obtain ⟨hi3, h⟩ := qIn_of h
        refine g_iald E 11 (wC_11 g ad o) (by decide) hi3 gdX1_standingCells_27 ?_
        obtain ⟨n4, e_n4, h⟩ := qNm_of h
        refine g_nmi e_n4 ?_
        obtain ⟨p5, hc6, h⟩ := qB_of h
        refine g_Sl (r := p5) (As := [iv n4]) (rest := [.long z1]) (w := wC g ad o) E (c_X3_bit l g (wC g ad o) n4 p5 hc6) okm_X3_bit w_842 w_934 rfl rfl (Nat.le_of_ble_eq_true rfl) ⟨Nat.le_of_ble_eq_true rfl, Nat.le_of_ble_eq_true rfl⟩ gdX1_standingCells_28 ?_
        refine g_lor E gdX1_standingCells_31 ?_
        obtain ⟨m7, e_m7, h⟩ := qNm_of h
        refine g_nml e_m7 ?_
        refine g_lstore_n E [(1, .long m7), (0, .ref (ad 10)), (3, iv x3)] gdX1_standingCells_32 rfl (by decide) rfl ?_
        refine g_sub E [1, 0, 2] rfl ?_
        exact j33 m7 x3 v h k0 k1
  have j4 : ∀ (z1 : Int64) (x3 : Int), e_X1_standingCells_4 o z1 x3 = some v → Go X 4 (wC g ad o) [(0, .ref (ad 10)), (1, .long z1), (3, iv x3)] [] := by
    intro z1 x3 h
    unfold e_X1_standingCells_4 at h
    obtain ⟨r, hr, h⟩ := qB_of h
    refine l4  r _ hr ?_
    ·
      intro u0 e
      have e := e.symm
      subst e
      have h : b_X1_standingCells_39 o u0 = some v := h
      exact j39 u0 h
  unfold s_X1_standingCells at h
  refine g_lconst (v := 0) E gdX1_standingCells_0 (by decide) ?_
  obtain ⟨m8, e_m8, h⟩ := qNm_of h
  refine g_nml e_m8 ?_
  refine g_lstore_n E [(1, .long m8), (0, .ref (ad 10))] gdX1_standingCells_1 rfl (by decide) rfl ?_
  refine g_iconst E gdX1_standingCells_2 ?_
  refine g_istore_n E [(3, iv 0), (1, .long m8), (0, .ref (ad 10))] gdX1_standingCells_3 rfl (by decide) rfl ?_
  refine g_sub E [2, 1, 0] rfl ?_
  exact j4 m8 0 h
set_option maxHeartbeats 4000000 in
set_option maxRecDepth 100000 in
theorem c_J13_bitCount_95d88 (l : Launch) (g : GG) (ws : va_W) (z0 : Int64) (v : Int) (h : s_J13_bitCount_95d88 z0 = some v) : CI l g yJ13_bitCount_95d88 cJ13_bitCount_95d88 2 (some .int) 0 0 ws [.long z0] v ws := by
  refine met_I (by decide) (Nat.le_of_ble_eq_true rfl) ?_
  intro X E hQ
  show Go X 0 ws [(0, .long z0)] []
  unfold s_J13_bitCount_95d88 at h
  refine g_lload_n E gdJ13_bitCount_95d88_0 rfl 0 rfl ?_
  refine g_lload_n E gdJ13_bitCount_95d88_1 rfl 0 rfl ?_
  refine g_iconst E gdJ13_bitCount_95d88_2 ?_
  refine g_lushr E gdJ13_bitCount_95d88_3 ?_
  refine g_ldc2 E gdJ13_bitCount_95d88_4 w_938 ?_
  refine g_land E gdJ13_bitCount_95d88_7 ?_
  refine g_lsub E gdJ13_bitCount_95d88_8 ?_
  obtain ⟨m1, e_m1, h⟩ := qNm_of h
  refine g_nml e_m1 ?_
  refine g_lstore_n E [(0, .long m1)] gdJ13_bitCount_95d88_9 rfl (by decide) rfl ?_
  refine g_lload_n E gdJ13_bitCount_95d88_10 rfl 0 rfl ?_
  refine g_ldc2 E gdJ13_bitCount_95d88_11 w_939 ?_
  refine g_land E gdJ13_bitCount_95d88_14 ?_
  refine g_lload_n E gdJ13_bitCount_95d88_15 rfl 0 rfl ?_
  refine g_iconst E gdJ13_bitCount_95d88_16 ?_
  refine g_lushr E gdJ13_bitCount_95d88_17 ?_
  refine g_ldc2 E gdJ13_bitCount_95d88_18 w_939 ?_
  refine g_land E gdJ13_bitCount_95d88_21 ?_
  refine g_ladd E gdJ13_bitCount_95d88_22 ?_
  obtain ⟨m2, e_m2, h⟩ := qNm_of h
  refine g_nml e_m2 ?_
  refine g_lstore_n E [(0, .long m2)] gdJ13_bitCount_95d88_23 rfl (by decide) rfl ?_
  refine g_lload_n E gdJ13_bitCount_95d88_24 rfl 0 rfl ?_
  refine g_lload_n E gdJ13_bitCount_95d88_25 rfl 0 rfl ?_
  refine g_iconst E gdJ13_bitCount_95d88_26 ?_
  refine g_lushr E gdJ13_bitCount_95d88_27 ?_
  refine g_ladd E gdJ13_bitCount_95d88_28 ?_
  refine g_ldc2 E gdJ13_bitCount_95d88_29 w_940 ?_
  refine g_land E gdJ13_bitCount_95d88_32 ?_
  obtain ⟨m3, e_m3, h⟩ := qNm_of h
  refine g_nml e_m3 ?_
  refine g_lstore_n E [(0, .long m3)] gdJ13_bitCount_95d88_33 rfl (by decide) rfl ?_
  refine g_lload_n E gdJ13_bitCount_95d88_34 rfl 0 rfl ?_
  refine g_lload_n E gdJ13_bitCount_95d88_35 rfl 0 rfl ?_
  refine g_bipush E gdJ13_bitCount_95d88_36 (by decide) ?_
  refine g_lushr E gdJ13_bitCount_95d88_38 ?_
  refine g_ladd E gdJ13_bitCount_95d88_39 ?_
  obtain ⟨m4, e_m4, h⟩ := qNm_of h
  refine g_nml e_m4 ?_
  refine g_lstore_n E [(0, .long m4)] gdJ13_bitCount_95d88_40 rfl (by decide) rfl ?_
  refine g_lload_n E gdJ13_bitCount_95d88_41 rfl 0 rfl ?_
  refine g_lload_n E gdJ13_bitCount_95d88_42 rfl 0 rfl ?_
  refine g_bipush E gdJ13_bitCount_95d88_43 (by decide) ?_
  refine g_lushr E gdJ13_bitCount_95d88_45 ?_
  refine g_ladd E gdJ13_bitCount_95d88_46 ?_
  obtain ⟨m5, e_m5, h⟩ := qNm_of h
  refine g_nml e_m5 ?_
  refine g_lstore_n E [(0, .long m5)] gdJ13_bitCount_95d88_47 rfl (by decide) rfl ?_
  refine g_lload_n E gdJ13_bitCount_95d88_48 rfl 0 rfl ?_
  refine g_lload_n E gdJ13_bitCount_95d88_49 rfl 0 rfl ?_
  refine g_bipush E gdJ13_bitCount_95d88_50 (by decide) ?_
  refine g_lushr E gdJ13_bitCount_95d88_52 ?_
  refine g_ladd E gdJ13_bitCount_95d88_53 ?_
  obtain ⟨m6, e_m6, h⟩ := qNm_of h
  refine g_nml e_m6 ?_
  refine g_lstore_n E [(0, .long m6)] gdJ13_bitCount_95d88_54 rfl (by decide) rfl ?_
  refine g_lload_n E gdJ13_bitCount_95d88_55 rfl 0 rfl ?_
  refine g_l2i E gdJ13_bitCount_95d88_56 ?_
  refine g_bipush E gdJ13_bitCount_95d88_57 (by decide) ?_
  refine g_iand E gdJ13_bitCount_95d88_59 ?_
  exact g_iret E hQ (Option.some.inj h) rfl gdJ13_bitCount_95d88_60
set_option maxHeartbeats 4000000 in
set_option maxRecDepth 100000 in
theorem c_X1_standingIn (l : Launch) (g : GG) (ad : Nat → Nat) (o : OO) (z1 : Int64) (v : Int) (h : s_X1_standingIn o z1 = some v) : CI l g yX1_standingIn cX1_standingIn 3 (some .int) 2 43 (wC g ad o) [.ref (ad 10), .long z1] v (wC g ad o) := by
  refine met_I (by decide) (Nat.le_of_ble_eq_true rfl) ?_
  intro X E hQ
  show Go X 0 (wC g ad o) [(0, .ref (ad 10)), (1, .long z1)] []
  unfold s_X1_standingIn at h
  refine g_aload_n E gdX1_standingIn_0 rfl 0 rfl ?_
  obtain ⟨p1, hc2, h⟩ := qB_of h
  refine g_Vl (r := p1) (As := []) (rest := []) (w := wC g ad o) E (c_X1_standingCells l g ad o p1 hc2) okm_X1_standingCells okw_X1_standingCells w_930 rfl (wC_10 g ad o) rfl rfl (Nat.le_of_ble_eq_true rfl) ⟨Nat.le_of_ble_eq_true rfl, Nat.le_of_ble_eq_true rfl⟩ gdX1_standingIn_1 ?_
  refine g_lload_n E gdX1_standingIn_4 rfl 1 rfl ?_
  refine g_land E gdX1_standingIn_5 ?_
  obtain ⟨r3, hc4, h⟩ := qB_of h
  refine g_Si (r := r3) (As := [.long (p1 &&& z1)]) (rest := []) (w := wC g ad o) E (c_J13_bitCount_95d88 l g (wC g ad o) (p1 &&& z1) r3 hc4) okm_J13_bitCount_95d88 w_936 w_935 rfl rfl (Nat.le_of_ble_eq_true rfl) ⟨Nat.le_of_ble_eq_true rfl, Nat.le_of_ble_eq_true rfl⟩ gdX1_standingIn_6 ?_
  exact g_iret E hQ (Option.some.inj h) rfl gdX1_standingIn_9
set_option maxHeartbeats 4000000 in
set_option maxRecDepth 100000 in
theorem c_X11_count (l : Launch) (g : GG) (ad : Nat → Nat) (o : OO) (x1 : Int) (v : Int) (h : s_X11_count o x1 = some v) : CI l g yX11_count cX11_count 2 (some .int) 3 65 (wC g ad o) [.ref (ad 0), iv x1] v (wC g ad o) := by
  refine met_I (by decide) (Nat.le_of_ble_eq_true rfl) ?_
  intro X E hQ
  show Go X 0 (wC g ad o) [(0, .ref (ad 0)), (1, iv x1)] []
  unfold s_X11_count at h
  refine g_iload_n E gdX11_count_0 rfl 1 rfl ?_
  obtain ⟨h1, -, ⟨hx, h⟩ | ⟨hx0, h⟩⟩ := qEq_of h
  ·
    refine g_tabIn (kx := 0) (off := 55) E 56 gdX11_count_1 hx (by decide) (by decide) (by decide) (by decide) (by decide) ?_
    refine g_aload_n E gdX11_count_56 rfl 0 rfl ?_
    refine g_get (T := TX11) E fw_X11 0 (wC_0 g ad o) rfl 13 (by decide) w_471 rfl rfl gdX11_count_57 ?_
    exact g_iret E hQ (Option.some.inj h) rfl gdX11_count_60
  ·
    obtain ⟨h1, -, ⟨hx, h⟩ | ⟨hx1, h⟩⟩ := qEq_of h
    ·
      refine g_tabIn (kx := 1) (off := 60) E 61 gdX11_count_1 hx (by decide) (by decide) (by decide) (by decide) (by decide) ?_
      refine g_aload_n E gdX11_count_61 rfl 0 rfl ?_
      refine g_get (T := TX11) E fw_X11 0 (wC_0 g ad o) rfl 3 (by decide) w_461 rfl rfl gdX11_count_62 ?_
      refine g_ldc2 E gdX11_count_65 w_1185 ?_
      obtain ⟨r1, hc2, h⟩ := qB_of h
      refine g_Vi (r := r1) (As := [.long (-1 : Int64)]) (rest := []) (w := wC g ad o) E (c_X1_standingIn l g ad o (-1 : Int64) r1 hc2) okm_X1_standingIn okw_X1_standingIn w_926 rfl (wC_10 g ad o) rfl rfl (Nat.le_of_ble_eq_true rfl) ⟨Nat.le_of_ble_eq_true rfl, Nat.le_of_ble_eq_true rfl⟩ gdX11_count_68 ?_
      exact g_iret E hQ (Option.some.inj h) rfl gdX11_count_71
    ·
      obtain ⟨h1, -, ⟨hx, h⟩ | ⟨hx2, h⟩⟩ := qEq_of h
      ·
        refine g_tabIn (kx := 2) (off := 71) E 72 gdX11_count_1 hx (by decide) (by decide) (by decide) (by decide) (by decide) ?_
        refine g_aload_n E gdX11_count_72 rfl 0 rfl ?_
        refine g_get (T := TX11) E fw_X11 0 (wC_0 g ad o) rfl 4 (by decide) w_462 rfl rfl gdX11_count_73 ?_
        obtain ⟨r3, hc4, h⟩ := qB_of h
        refine g_Vi (r := r3) (As := []) (rest := []) (w := wC g ad o) E (c_X5_number l g ad o r3 hc4) okm_X5_number okw_X5_number w_703 rfl (wC_23 g ad o) rfl rfl (Nat.le_of_ble_eq_true rfl) ⟨Nat.le_of_ble_eq_true rfl, Nat.le_of_ble_eq_true rfl⟩ gdX11_count_76 ?_
        exact g_iret E hQ (Option.some.inj h) rfl gdX11_count_79
      ·
        obtain ⟨h1, -, ⟨hx, h⟩ | ⟨hx3, h⟩⟩ := qEq_of h
        ·
          refine g_tabIn (kx := 3) (off := 79) E 80 gdX11_count_1 hx (by decide) (by decide) (by decide) (by decide) (by decide) ?_
          refine g_aload_n E gdX11_count_80 rfl 0 rfl ?_
          refine g_get (T := TX11) E fw_X11 0 (wC_0 g ad o) rfl 4 (by decide) w_462 rfl rfl gdX11_count_81 ?_
          obtain ⟨r5, hc6, h⟩ := qB_of h
          refine g_Vi (r := r5) (As := []) (rest := []) (w := wC g ad o) E (c_X5_homeless l g ad o r5 hc6) okm_X5_homeless okw_X5_homeless w_1397 rfl (wC_23 g ad o) rfl rfl (Nat.le_of_ble_eq_true rfl) ⟨Nat.le_of_ble_eq_true rfl, Nat.le_of_ble_eq_true rfl⟩ gdX11_count_84 ?_
          exact g_iret E hQ (Option.some.inj h) rfl gdX11_count_87
        ·
          obtain ⟨h1, -, ⟨hx, h⟩ | ⟨hx4, h⟩⟩ := qEq_of h
          ·
            refine g_tabIn (kx := 4) (off := 87) E 88 gdX11_count_1 hx (by decide) (by decide) (by decide) (by decide) (by decide) ?_
            refine g_aload_n E gdX11_count_88 rfl 0 rfl ?_
            refine g_get (T := TX11) E fw_X11 0 (wC_0 g ad o) rfl 5 (by decide) w_463 rfl rfl gdX11_count_89 ?_
            obtain ⟨r7, hc8, h⟩ := qB_of h
            refine g_Vi (r := r7) (As := []) (rest := []) (w := wC g ad o) E (c_X7_number l g ad o r7 hc8) okm_X7_number okw_X7_number w_752 rfl (wC_28 g ad o) rfl rfl (Nat.le_of_ble_eq_true rfl) ⟨Nat.le_of_ble_eq_true rfl, Nat.le_of_ble_eq_true rfl⟩ gdX11_count_92 ?_
            exact g_iret E hQ (Option.some.inj h) rfl gdX11_count_95
          ·
            obtain ⟨h1, -, ⟨hx, h⟩ | ⟨hx5, h⟩⟩ := qEq_of h
            ·
              refine g_tabIn (kx := 5) (off := 95) E 96 gdX11_count_1 hx (by decide) (by decide) (by decide) (by decide) (by decide) ?_
              refine g_aload_n E gdX11_count_96 rfl 0 rfl ?_
              refine g_get (T := TX11) E fw_X11 0 (wC_0 g ad o) rfl 6 (by decide) w_464 rfl rfl gdX11_count_97 ?_
              obtain ⟨r9, hc10, h⟩ := qB_of h
              refine g_Vi (r := r9) (As := []) (rest := []) (w := wC g ad o) E (c_X4_number l g ad o r9 hc10) okm_X4_number okw_X4_number w_790 rfl (wC_32 g ad o) rfl rfl (Nat.le_of_ble_eq_true rfl) ⟨Nat.le_of_ble_eq_true rfl, Nat.le_of_ble_eq_true rfl⟩ gdX11_count_100 ?_
              exact g_iret E hQ (Option.some.inj h) rfl gdX11_count_103
            ·
              obtain ⟨h1, -, ⟨hx, h⟩ | ⟨hx6, h⟩⟩ := qEq_of h
              ·
                refine g_tabIn (kx := 6) (off := 103) E 104 gdX11_count_1 hx (by decide) (by decide) (by decide) (by decide) (by decide) ?_
                refine g_aload_n E gdX11_count_104 rfl 0 rfl ?_
                refine g_get (T := TX11) E fw_X11 0 (wC_0 g ad o) rfl 7 (by decide) w_465 rfl rfl gdX11_count_105 ?_
                obtain ⟨r11, hc12, h⟩ := qB_of h
                refine g_Vi (r := r11) (As := []) (rest := []) (w := wC g ad o) E (c_X2_buys l g ad o r11 hc12) okm_X2_buys okw_X2_buys w_1070 rfl (wC_46 g ad o) rfl rfl (Nat.le_of_ble_eq_true rfl) ⟨Nat.le_of_ble_eq_true rfl, Nat.le_of_ble_eq_true rfl⟩ gdX11_count_108 ?_
                exact g_iret E hQ (Option.some.inj h) rfl gdX11_count_111
              ·
                obtain ⟨h1, -, ⟨hx, h⟩ | ⟨hx7, h⟩⟩ := qEq_of h
                ·
                  refine g_tabIn (kx := 7) (off := 111) E 112 gdX11_count_1 hx (by decide) (by decide) (by decide) (by decide) (by decide) ?_
                  refine g_aload_n E gdX11_count_112 rfl 0 rfl ?_
                  refine g_get (T := TX11) E fw_X11 0 (wC_0 g ad o) rfl 3 (by decide) w_461 rfl rfl gdX11_count_113 ?_
                  obtain ⟨r13, hc14, h⟩ := qB_of h
                  refine g_Vi (r := r13) (As := []) (rest := []) (w := wC g ad o) E (c_X1_tellings l g ad o r13 hc14) okm_X1_tellings okw_X1_tellings w_1401 rfl (wC_10 g ad o) rfl rfl (Nat.le_of_ble_eq_true rfl) ⟨Nat.le_of_ble_eq_true rfl, Nat.le_of_ble_eq_true rfl⟩ gdX11_count_116 ?_
                  exact g_iret E hQ (Option.some.inj h) rfl gdX11_count_119
                ·
                  obtain ⟨h1, -, ⟨hx, h⟩ | ⟨hx8, h⟩⟩ := qEq_of h
                  ·
                    refine g_tabIn (kx := 8) (off := 119) E 120 gdX11_count_1 hx (by decide) (by decide) (by decide) (by decide) (by decide) ?_
                    refine g_aload_n E gdX11_count_120 rfl 0 rfl ?_
                    refine g_get (T := TX11) E fw_X11 0 (wC_0 g ad o) rfl 0 (by decide) w_458 rfl rfl gdX11_count_121 ?_
                    obtain ⟨r15, hc16, h⟩ := qB_of h
                    refine g_Vi (r := r15) (As := []) (rest := []) (w := wC g ad o) E (c_X8_present__1 l g ad o r15 hc16) okm_X8_present okw_X8_present w_1405 rfl (wC_1 g ad o) rfl rfl (Nat.le_of_ble_eq_true rfl) ⟨Nat.le_of_ble_eq_true rfl, Nat.le_of_ble_eq_true rfl⟩ gdX11_count_124 ?_
                    exact g_iret E hQ (Option.some.inj h) rfl gdX11_count_127
                  ·
                    obtain ⟨h1, -, ⟨hx, h⟩ | ⟨hx9, h⟩⟩ := qEq_of h
                    ·
                      refine g_tabIn (kx := 9) (off := 127) E 128 gdX11_count_1 hx (by decide) (by decide) (by decide) (by decide) (by decide) ?_
                      refine g_aload_n E gdX11_count_128 rfl 0 rfl ?_
                      refine g_get (T := TX11) E fw_X11 0 (wC_0 g ad o) rfl 1 (by decide) w_459 rfl rfl gdX11_count_129 ?_
                      obtain ⟨r17, hc18, h⟩ := qB_of h
                      refine g_Vi (r := r17) (As := []) (rest := []) (w := wC g ad o) E (c_X8_present l g ad o r17 hc18) okm_X8_present okw_X8_present w_1405 rfl (wC_4 g ad o) rfl rfl (Nat.le_of_ble_eq_true rfl) ⟨Nat.le_of_ble_eq_true rfl, Nat.le_of_ble_eq_true rfl⟩ gdX11_count_132 ?_
                      exact g_iret E hQ (Option.some.inj h) rfl gdX11_count_135
                    ·
                      refine g_tabOut E 136 gdX11_count_1 h1 (by omega) (by decide) ?_
                      refine g_iconst E gdX11_count_136 ?_
                      exact g_iret E hQ (Option.some.inj h) rfl gdX11_count_137
set_option maxHeartbeats 4000000 in
set_option maxRecDepth 100000 in
theorem c_X3_hash (l : Launch) (g : GG) (ad : Nat → Nat) (o : OO) (z1 : Int64) (v : Int64) (h : s_X3_hash o z1 = some v) : CL l g yX3_hash cX3_hash 4 (some .long) 0 0 (wC g ad o) [.ref (ad 7), .long z1] v (wC g ad o) := by
  refine met_L (by decide) (Nat.le_of_ble_eq_true rfl) ?_
  intro X E hQ
  show Go X 0 (wC g ad o) [(0, .ref (ad 7)), (1, .long z1)] []
  have j42 : ∀ (z1 : Int64), b_X3_hash_42 o z1 = some v → Go X 42 (wC g ad o) [(1, .long z1)] [] := by
    intro z1 h
    unfold b_X3_hash_42 at h
    refine g_lload_n E gdX3_hash_42 rfl 0 rfl ?_
    exact g_lret E hQ (Option.some.inj h) rfl gdX3_hash_43
  have l2 : ∀  (r : (Int64)) (s0 : Int64 × Int), loopW (fun s => l_X3_hash_2 o s.1 s.2) s0 = some r → (∀ (z1 : Int64), r = (z1) → Go X 42 (wC g ad o) [(1, .long z1)] []) → Go X 2 (wC g ad o) [(0, .ref (ad 7)), (1, .long s0.1), (3, iv s0.2)] [] := by
    intro r s0 h k1
    refine loop_rule (Head := fun s0 => Go X 2 (wC g ad o) [(0, .ref (ad 7)), (1, .long s0.1), (3, iv s0.2)] []) h ?_
    intro s v h kk kx
    obtain ⟨z1, x3⟩ := s
    have h : l_X3_hash_2 o z1 x3 = some v := h
    have k0 : ∀ (z1 : Int64) (x3 : Int), v = .inl (z1, x3) → Go X 2 (wC g ad o) [(0, .ref (ad 7)), (1, .long z1), (3, iv x3)] [] := fun z1 x3 e => kk (z1, x3) e
    have k1 : ∀ (z1 : Int64), v = .inr (z1) → Go X 42 (wC g ad o) [(1, .long z1)] [] := fun z1 e => k1 z1 (kx _ e).symm
    unfold l_X3_hash_2 at h
    refine g_iload_n E gdX3_hash_2 rfl 2 rfl ?_
    refine g_bipush E gdX3_hash_3 (by decide) ?_
    refine g_icmp_ge E 42 gdX3_hash_5 (by decide) h (fun h => ?_) (fun h => ?_)
    ·
      refine g_sub E [1] rfl ?_
      exact k1 z1 (Option.some.inj h).symm
    ·
      refine g_ldc2 E gdX3_hash_8 w_1429 ?_
      refine g_lload_n E gdX3_hash_11 rfl 1 rfl ?_
      refine g_lmul E gdX3_hash_12 ?_
      refine g_aload_n E gdX3_hash_13 rfl 0 rfl ?_
      refine g_get (T := TX3) E fw_X3 7 (wC_7 g ad o) rfl 0 (by decide) w_146 rfl rfl gdX3_hash_14 ?_
      refine g_iload_n E gdX3_hash_17 rfl 2 rfl ?_
      obtain ⟨hi1, h⟩ := qIn_of h
      refine g_iald E 8 (wC_8 g ad o) (by decide) hi1 gdX3_hash_18 ?_
      obtain ⟨n2, e_n2, h⟩ := qNm_of h
      refine g_nmi e_n2 ?_
      refine g_i2l E gdX3_hash_19 ?_
      refine g_ladd E gdX3_hash_20 ?_
      obtain ⟨m3, e_m3, h⟩ := qNm_of h
      refine g_nml e_m3 ?_
      refine g_lstore_n E [(1, .long m3), (0, .ref (ad 7)), (3, iv x3)] gdX3_hash_21 rfl (by decide) rfl ?_
      refine g_ldc2 E gdX3_hash_22 w_1429 ?_
      refine g_lload_n E gdX3_hash_25 rfl 0 rfl ?_
      refine g_lmul E gdX3_hash_26 ?_
      refine g_aload_n E gdX3_hash_27 rfl 1 rfl ?_
      refine g_get (T := TX3) E fw_X3 7 (wC_7 g ad o) rfl 1 (by decide) w_147 rfl rfl gdX3_hash_28 ?_
      refine g_iload_n E gdX3_hash_31 rfl 2 rfl ?_
      obtain ⟨hi4, h⟩ := qIn_of h
      refine g_iald E 9 (wC_9 g ad o) (by decide) hi4 gdX3_hash_32 ?_
      obtain ⟨n5, e_n5, h⟩ := qNm_of h
      refine g_nmi e_n5 ?_
      refine g_i2l E gdX3_hash_33 ?_
      refine g_ladd E gdX3_hash_34 ?_
      obtain ⟨m6, e_m6, h⟩ := qNm_of h
      refine g_nml e_m6 ?_
      refine g_lstore_n E [(1, .long m6), (0, .ref (ad 7)), (3, iv x3)] gdX3_hash_35 rfl (by decide) rfl ?_
      refine g_iinc E [(3, iv (x3 + 1)), (1, .long m6), (0, .ref (ad 7))] gdX3_hash_36 2 rfl (by decide) rfl ?_
      refine g_goto E 2 gdX3_hash_39 (by decide) ?_
      refine g_sub E [2, 1, 0] rfl ?_
      exact k0 m6 (x3 + 1) (Option.some.inj h).symm
  have j2 : ∀ (z1 : Int64) (x3 : Int), e_X3_hash_2 o z1 x3 = some v → Go X 2 (wC g ad o) [(0, .ref (ad 7)), (1, .long z1), (3, iv x3)] [] := by
    intro z1 x3 h
    unfold e_X3_hash_2 at h
    obtain ⟨r, hr, h⟩ := qB_of h
    refine l2  r _ hr ?_
    ·
      intro u0 e
      have e := e.symm
      subst e
      have h : b_X3_hash_42 o u0 = some v := h
      exact j42 u0 h
  unfold s_X3_hash at h
  refine g_iconst E gdX3_hash_0 ?_
  refine g_istore_n E [(3, iv 0), (0, .ref (ad 7)), (1, .long z1)] gdX3_hash_1 rfl (by decide) rfl ?_
  refine g_sub E [1, 2, 0] rfl ?_
  exact j2 z1 0 h
set_option maxHeartbeats 4000000 in
set_option maxRecDepth 100000 in
theorem c_X1_trait (l : Launch) (g : GG) (ad : Nat → Nat) (o : OO) (x1 : Int) (x2 : Int) (v : Int) (h : s_X1_trait o x1 x2 = some v) : CI l g yX1_trait cX1_trait 3 (some .int) 0 0 (wC g ad o) [.ref (ad 10), iv x1, iv x2] v (wC g ad o) := by
  refine met_I (by decide) (Nat.le_of_ble_eq_true rfl) ?_
  intro X E hQ
  show Go X 0 (wC g ad o) [(0, .ref (ad 10)), (1, iv x1), (2, iv x2)] []
  have j78 : ∀ (y0 : Int), b_X1_trait_78 o y0 = some v → Go X 78 (wC g ad o) [] [iv y0] := by
    intro y0 h
    unfold b_X1_trait_78 at h
    exact g_iret E hQ (Option.some.inj h) rfl gdX1_trait_78
  unfold s_X1_trait at h
  refine g_iload_n E gdX1_trait_0 rfl 2 rfl ?_
  obtain ⟨h1, -, ⟨hx, h⟩ | ⟨hx0, h⟩⟩ := qEq_of h
  ·
    refine g_tabIn (kx := 0) (off := 35) E 36 gdX1_trait_1 hx (by decide) (by decide) (by decide) (by decide) (by decide) ?_
    refine g_aload_n E gdX1_trait_36 rfl 0 rfl ?_
    refine g_get (T := TX1) E fw_X1 10 (wC_10 g ad o) rfl 0 (by decide) w_160 rfl rfl gdX1_trait_37 ?_
    refine g_iload_n E gdX1_trait_40 rfl 1 rfl ?_
    obtain ⟨hi1, h⟩ := qIn_of h
    refine g_iald E 11 (wC_11 g ad o) (by decide) hi1 gdX1_trait_41 ?_
    obtain ⟨n2, e_n2, h⟩ := qNm_of h
    refine g_nmi e_n2 ?_
    exact g_iret E hQ (Option.some.inj h) rfl gdX1_trait_42
  ·
    obtain ⟨h1, -, ⟨hx, h⟩ | ⟨hx1, h⟩⟩ := qEq_of h
    ·
      refine g_tabIn (kx := 1) (off := 42) E 43 gdX1_trait_1 hx (by decide) (by decide) (by decide) (by decide) (by decide) ?_
      refine g_aload_n E gdX1_trait_43 rfl 0 rfl ?_
      refine g_get (T := TX1) E fw_X1 10 (wC_10 g ad o) rfl 1 (by decide) w_161 rfl rfl gdX1_trait_44 ?_
      refine g_iload_n E gdX1_trait_47 rfl 1 rfl ?_
      obtain ⟨hi3, h⟩ := qIn_of h
      refine g_iald E 12 (wC_12 g ad o) (by decide) hi3 gdX1_trait_48 ?_
      obtain ⟨n4, e_n4, h⟩ := qNm_of h
      refine g_nmi e_n4 ?_
      exact g_iret E hQ (Option.some.inj h) rfl gdX1_trait_49
    ·
      obtain ⟨h1, -, ⟨hx, h⟩ | ⟨hx2, h⟩⟩ := qEq_of h
      ·
        refine g_tabIn (kx := 2) (off := 49) E 50 gdX1_trait_1 hx (by decide) (by decide) (by decide) (by decide) (by decide) ?_
        refine g_aload_n E gdX1_trait_50 rfl 0 rfl ?_
        refine g_get (T := TX1) E fw_X1 10 (wC_10 g ad o) rfl 2 (by decide) w_162 rfl rfl gdX1_trait_51 ?_
        refine g_iload_n E gdX1_trait_54 rfl 1 rfl ?_
        obtain ⟨hi5, h⟩ := qIn_of h
        refine g_iald E 13 (wC_13 g ad o) (by decide) hi5 gdX1_trait_55 ?_
        obtain ⟨n6, e_n6, h⟩ := qNm_of h
        refine g_nmi e_n6 ?_
        exact g_iret E hQ (Option.some.inj h) rfl gdX1_trait_56
      ·
        obtain ⟨h1, -, ⟨hx, h⟩ | ⟨hx3, h⟩⟩ := qEq_of h
        ·
          refine g_tabIn (kx := 3) (off := 56) E 57 gdX1_trait_1 hx (by decide) (by decide) (by decide) (by decide) (by decide) ?_
          refine g_aload_n E gdX1_trait_57 rfl 0 rfl ?_
          refine g_get (T := TX1) E fw_X1 10 (wC_10 g ad o) rfl 3 (by decide) w_163 rfl rfl gdX1_trait_58 ?_
          refine g_iload_n E gdX1_trait_61 rfl 1 rfl ?_
          obtain ⟨hi7, h⟩ := qIn_of h
          refine g_iald E 14 (wC_14 g ad o) (by decide) hi7 gdX1_trait_62 ?_
          obtain ⟨n8, e_n8, h⟩ := qNm_of h
          refine g_nmi e_n8 ?_
          exact g_iret E hQ (Option.some.inj h) rfl gdX1_trait_63
        ·
          obtain ⟨h1, -, ⟨hx, h⟩ | ⟨hx4, h⟩⟩ := qEq_of h
          ·
            refine g_tabIn (kx := 4) (off := 63) E 64 gdX1_trait_1 hx (by decide) (by decide) (by decide) (by decide) (by decide) ?_
            refine g_aload_n E gdX1_trait_64 rfl 0 rfl ?_
            refine g_get (T := TX1) E fw_X1 10 (wC_10 g ad o) rfl 6 (by decide) w_166 rfl rfl gdX1_trait_65 ?_
            refine g_iload_n E gdX1_trait_68 rfl 1 rfl ?_
            obtain ⟨hi9, h⟩ := qIn_of h
            refine g_zald E 17 (wC_17 g ad o) (by decide) hi9 gdX1_trait_69 ?_
            obtain ⟨n10, e_n10, h⟩ := qNm_of h
            refine g_nmi e_n10 ?_
            refine g_if_eq E 77 gdX1_trait_70 (by decide) h (fun h => ?_) (fun h => ?_)
            ·
              refine g_iconst E gdX1_trait_77 ?_
              refine g_sub E [] rfl ?_
              exact j78 0 h
            ·
              refine g_iconst E gdX1_trait_73 ?_
              refine g_goto E 78 gdX1_trait_74 (by decide) ?_
              refine g_sub E [] rfl ?_
              exact j78 1 h
          ·
            refine g_tabOut E 79 gdX1_trait_1 h1 (by omega) (by decide) ?_
            refine g_aload_n E gdX1_trait_79 rfl 0 rfl ?_
            refine g_get (T := TX1) E fw_X1 10 (wC_10 g ad o) rfl 4 (by decide) w_164 rfl rfl gdX1_trait_80 ?_
            refine g_iload_n E gdX1_trait_83 rfl 1 rfl ?_
            obtain ⟨hi11, h⟩ := qIn_of h
            refine g_iald E 15 (wC_15 g ad o) (by decide) hi11 gdX1_trait_84 ?_
            obtain ⟨n12, e_n12, h⟩ := qNm_of h
            refine g_nmi e_n12 ?_
            exact g_iret E hQ (Option.some.inj h) rfl gdX1_trait_85
set_option maxHeartbeats 4000000 in
set_option maxRecDepth 100000 in
theorem c_X1_hash (l : Launch) (g : GG) (ad : Nat → Nat) (o : OO) (z1 : Int64) (v : Int64) (h : s_X1_hash o z1 = some v) : CL l g yX1_hash cX1_hash 5 (some .long) 1 22 (wC g ad o) [.ref (ad 10), .long z1] v (wC g ad o) := by
  refine met_L (by decide) (Nat.le_of_ble_eq_true rfl) ?_
  intro X E hQ
  show Go X 0 (wC g ad o) [(0, .ref (ad 10)), (1, .long z1)] []
  have j60 : ∀ (z1 : Int64), b_X1_hash_60 o z1 = some v → Go X 60 (wC g ad o) [(1, .long z1)] [] := by
    intro z1 h
    unfold b_X1_hash_60 at h
    refine g_lload_n E gdX1_hash_60 rfl 0 rfl ?_
    exact g_lret E hQ (Option.some.inj h) rfl gdX1_hash_61
  have j40 : ∀ (z1 : Int64) (x3 : Int) (v : (Int64 × Int) ⊕ ((Int64))), b_X1_hash_40 o z1 x3 = some v → (∀ (z1 : Int64) (x3 : Int), v = .inl (z1, x3) → Go X 2 (wC g ad o) [(0, .ref (ad 10)), (1, .long z1), (3, iv x3)] []) → (∀ (z1 : Int64), v = .inr (z1) → Go X 60 (wC g ad o) [(1, .long z1)] []) → Go X 40 (wC g ad o) [(0, .ref (ad 10)), (1, .long z1), (3, iv x3)] [] := by
    intro z1 x3 v h k0 k1
    unfold b_X1_hash_40 at h
    refine g_ldc2 E gdX1_hash_40 w_1434 ?_
    refine g_lload_n E gdX1_hash_43 rfl 1 rfl ?_
    refine g_lmul E gdX1_hash_44 ?_
    refine g_aload_n E gdX1_hash_45 rfl 0 rfl ?_
    refine g_get (T := TX1) E fw_X1 10 (wC_10 g ad o) rfl 5 (by decide) w_165 rfl rfl gdX1_hash_46 ?_
    refine g_iload_n E gdX1_hash_49 rfl 2 rfl ?_
    obtain ⟨hi1, h⟩ := qIn_of h
    refine g_iald E 16 (wC_16 g ad o) (by decide) hi1 gdX1_hash_50 ?_
    obtain ⟨n2, e_n2, h⟩ := qNm_of h
    refine g_nmi e_n2 ?_
    refine g_i2l E gdX1_hash_51 ?_
    refine g_ladd E gdX1_hash_52 ?_
    obtain ⟨m3, e_m3, h⟩ := qNm_of h
    refine g_nml e_m3 ?_
    refine g_lstore_n E [(1, .long m3), (0, .ref (ad 10)), (3, iv x3)] gdX1_hash_53 rfl (by decide) rfl ?_
    refine g_iinc E [(3, iv (x3 + 1)), (1, .long m3), (0, .ref (ad 10))] gdX1_hash_54 2 rfl (by decide) rfl ?_
    refine g_goto E 2 gdX1_hash_57 (by decide) ?_
    refine g_sub E [2, 1, 0] rfl ?_
    exact k0 m3 (x3 + 1) (Option.some.inj h).symm
  have l13 : ∀ (x3 : Int) (r : (Int64)) (s0 : Int64 × Int), loopW (fun s => l_X1_hash_13 o x3 s.1 s.2) s0 = some r → (∀ (z1 : Int64), r = (z1) → Go X 40 (wC g ad o) [(0, .ref (ad 10)), (1, .long z1), (3, iv x3)] []) → Go X 13 (wC g ad o) [(0, .ref (ad 10)), (1, .long s0.1), (3, iv x3), (4, iv s0.2)] [] := by
    intro x3 r s0 h k1
    refine loop_rule (Head := fun s0 => Go X 13 (wC g ad o) [(0, .ref (ad 10)), (1, .long s0.1), (3, iv x3), (4, iv s0.2)] []) h ?_
    intro s v h kk kx
    obtain ⟨z1, x4⟩ := s
    have h : l_X1_hash_13 o x3 z1 x4 = some v := h
    have k0 : ∀ (z1 : Int64) (x4 : Int), v = .inl (z1, x4) → Go X 13 (wC g ad o) [(0, .ref (ad 10)), (1, .long z1), (3, iv x3), (4, iv x4)] [] := fun z1 x4 e => kk (z1, x4) e
    have k1 : ∀ (z1 : Int64), v = .inr (z1) → Go X 40 (wC g ad o) [(0, .ref (ad 10)), (1, .long z1), (3, iv x3)] [] := fun z1 e => k1 z1 (kx _ e).symm
    unfold l_X1_hash_13 at h
    refine g_iload E gdX1_hash_13 3 rfl ?_
    refine g_iconst E gdX1_hash_15 ?_
    refine g_icmp_gt E 40 gdX1_hash_16 (by decide) h (fun h => ?_) (fun h => ?_)
    ·
      refine g_sub E [0, 1, 2] rfl ?_
      exact k1 z1 (Option.some.inj h).symm
    ·
      refine g_ldc2 E gdX1_hash_19 w_1434 ?_
      refine g_lload_n E gdX1_hash_22 rfl 1 rfl ?_
      refine g_lmul E gdX1_hash_23 ?_
      refine g_aload_n E gdX1_hash_24 rfl 0 rfl ?_
      refine g_iload_n E gdX1_hash_25 rfl 2 rfl ?_
      refine g_iload E gdX1_hash_26 3 rfl ?_
      obtain ⟨r4, hc5, h⟩ := qB_of h
      refine g_Vi (r := r4) (As := [iv x3, iv x4]) (rest := [.long ((31 : Int64) * z1)]) (w := wC g ad o) E (c_X1_trait l g ad o x3 x4 r4 hc5) okm_X1_trait okw_X1_trait w_1435 rfl (wC_10 g ad o) rfl rfl (Nat.le_of_ble_eq_true rfl) ⟨Nat.le_of_ble_eq_true rfl, Nat.le_of_ble_eq_true rfl⟩ gdX1_hash_28 ?_
      refine g_i2l E gdX1_hash_31 ?_
      refine g_ladd E gdX1_hash_32 ?_
      obtain ⟨m6, e_m6, h⟩ := qNm_of h
      refine g_nml e_m6 ?_
      refine g_lstore_n E [(1, .long m6), (0, .ref (ad 10)), (3, iv x3), (4, iv x4)] gdX1_hash_33 rfl (by decide) rfl ?_
      refine g_iinc E [(4, iv (x4 + 1)), (1, .long m6), (0, .ref (ad 10)), (3, iv x3)] gdX1_hash_34 3 rfl (by decide) rfl ?_
      refine g_goto E 13 gdX1_hash_37 (by decide) ?_
      refine g_sub E [2, 1, 3, 0] rfl ?_
      exact k0 m6 (x4 + 1) (Option.some.inj h).symm
  have j13 : ∀ (z1 : Int64) (x3 : Int) (x4 : Int) (v : (Int64 × Int) ⊕ ((Int64))), e_X1_hash_13 o z1 x3 x4 = some v → (∀ (z1 : Int64) (x3 : Int), v = .inl (z1, x3) → Go X 2 (wC g ad o) [(0, .ref (ad 10)), (1, .long z1), (3, iv x3)] []) → (∀ (z1 : Int64), v = .inr (z1) → Go X 60 (wC g ad o) [(1, .long z1)] []) → Go X 13 (wC g ad o) [(0, .ref (ad 10)), (1, .long z1), (3, iv x3), (4, iv x4)] [] := by
    intro z1 x3 x4 v h k0 k1
    unfold e_X1_hash_13 at h
    obtain ⟨r, hr, h⟩ := qB_of h
    refine l13 x3 r _ hr ?_
    ·
      intro u0 e
      have e := e.symm
      subst e
      have h : b_X1_hash_40 o u0 x3 = some v := h
      exact j40 u0 x3 v h k0 k1
  have l2 : ∀  (r : (Int64)) (s0 : Int64 × Int), loopW (fun s => l_X1_hash_2 o s.1 s.2) s0 = some r → (∀ (z1 : Int64), r = (z1) → Go X 60 (wC g ad o) [(1, .long z1)] []) → Go X 2 (wC g ad o) [(0, .ref (ad 10)), (1, .long s0.1), (3, iv s0.2)] [] := by
    intro r s0 h k1
    refine loop_rule (Head := fun s0 => Go X 2 (wC g ad o) [(0, .ref (ad 10)), (1, .long s0.1), (3, iv s0.2)] []) h ?_
    intro s v h kk kx
    obtain ⟨z1, x3⟩ := s
    have h : l_X1_hash_2 o z1 x3 = some v := h
    have k0 : ∀ (z1 : Int64) (x3 : Int), v = .inl (z1, x3) → Go X 2 (wC g ad o) [(0, .ref (ad 10)), (1, .long z1), (3, iv x3)] [] := fun z1 x3 e => kk (z1, x3) e
    have k1 : ∀ (z1 : Int64), v = .inr (z1) → Go X 60 (wC g ad o) [(1, .long z1)] [] := fun z1 e => k1 z1 (kx _ e).symm
    unfold l_X1_hash_2 at h
    refine g_iload_n E gdX1_hash_2 rfl 2 rfl ?_
    refine g_aload_n E gdX1_hash_3 rfl 0 rfl ?_
    refine g_get (T := TX1) E fw_X1 10 (wC_10 g ad o) rfl 12 (by decide) w_172 rfl rfl gdX1_hash_4 ?_
    refine g_icmp_ge E 60 gdX1_hash_7 (by decide) h (fun h => ?_) (fun h => ?_)
    ·
      refine g_sub E [1] rfl ?_
      exact k1 z1 (Option.some.inj h).symm
    ·
      refine g_iconst E gdX1_hash_10 ?_
      refine g_istore E [(4, iv 0), (0, .ref (ad 10)), (1, .long z1), (3, iv x3)] gdX1_hash_11 (by decide) rfl ?_
      refine g_sub E [1, 2, 3, 0] rfl ?_
      exact j13 z1 x3 0 v h k0 k1
  have j2 : ∀ (z1 : Int64) (x3 : Int), e_X1_hash_2 o z1 x3 = some v → Go X 2 (wC g ad o) [(0, .ref (ad 10)), (1, .long z1), (3, iv x3)] [] := by
    intro z1 x3 h
    unfold e_X1_hash_2 at h
    obtain ⟨r, hr, h⟩ := qB_of h
    refine l2  r _ hr ?_
    ·
      intro u0 e
      have e := e.symm
      subst e
      have h : b_X1_hash_60 o u0 = some v := h
      exact j60 u0 h
  unfold s_X1_hash at h
  refine g_iconst E gdX1_hash_0 ?_
  refine g_istore_n E [(3, iv 0), (0, .ref (ad 10)), (1, .long z1)] gdX1_hash_1 rfl (by decide) rfl ?_
  refine g_sub E [1, 2, 0] rfl ?_
  exact j2 z1 0 h
set_option maxHeartbeats 4000000 in
set_option maxRecDepth 100000 in
theorem c_X5_trait (l : Launch) (g : GG) (ad : Nat → Nat) (o : OO) (x1 : Int) (x2 : Int) (v : Int) (h : s_X5_trait o x1 x2 = some v) : CI l g yX5_trait cX5_trait 3 (some .int) 0 0 (wC g ad o) [.ref (ad 23), iv x1, iv x2] v (wC g ad o) := by
  refine met_I (by decide) (Nat.le_of_ble_eq_true rfl) ?_
  intro X E hQ
  show Go X 0 (wC g ad o) [(0, .ref (ad 23)), (1, iv x1), (2, iv x2)] []
  have j56 : ∀ (y0 : Int), b_X5_trait_56 o y0 = some v → Go X 56 (wC g ad o) [] [iv y0] := by
    intro y0 h
    unfold b_X5_trait_56 at h
    exact g_iret E hQ (Option.some.inj h) rfl gdX5_trait_56
  unfold s_X5_trait at h
  refine g_iload_n E gdX5_trait_0 rfl 2 rfl ?_
  obtain ⟨h1, -, ⟨hx, h⟩ | ⟨hx0, h⟩⟩ := qEq_of h
  ·
    refine g_tabIn (kx := 0) (off := 27) E 28 gdX5_trait_1 hx (by decide) (by decide) (by decide) (by decide) (by decide) ?_
    refine g_aload_n E gdX5_trait_28 rfl 0 rfl ?_
    refine g_get (T := TX5) E fw_X5 23 (wC_23 g ad o) rfl 0 (by decide) w_210 rfl rfl gdX5_trait_29 ?_
    refine g_iload_n E gdX5_trait_32 rfl 1 rfl ?_
    obtain ⟨hi1, h⟩ := qIn_of h
    refine g_iald E 24 (wC_24 g ad o) (by decide) hi1 gdX5_trait_33 ?_
    obtain ⟨n2, e_n2, h⟩ := qNm_of h
    refine g_nmi e_n2 ?_
    exact g_iret E hQ (Option.some.inj h) rfl gdX5_trait_34
  ·
    obtain ⟨h1, -, ⟨hx, h⟩ | ⟨hx1, h⟩⟩ := qEq_of h
    ·
      refine g_tabIn (kx := 1) (off := 34) E 35 gdX5_trait_1 hx (by decide) (by decide) (by decide) (by decide) (by decide) ?_
      refine g_aload_n E gdX5_trait_35 rfl 0 rfl ?_
      refine g_get (T := TX5) E fw_X5 23 (wC_23 g ad o) rfl 1 (by decide) w_211 rfl rfl gdX5_trait_36 ?_
      refine g_iload_n E gdX5_trait_39 rfl 1 rfl ?_
      obtain ⟨hi3, h⟩ := qIn_of h
      refine g_iald E 25 (wC_25 g ad o) (by decide) hi3 gdX5_trait_40 ?_
      obtain ⟨n4, e_n4, h⟩ := qNm_of h
      refine g_nmi e_n4 ?_
      exact g_iret E hQ (Option.some.inj h) rfl gdX5_trait_41
    ·
      obtain ⟨h1, -, ⟨hx, h⟩ | ⟨hx2, h⟩⟩ := qEq_of h
      ·
        refine g_tabIn (kx := 2) (off := 41) E 42 gdX5_trait_1 hx (by decide) (by decide) (by decide) (by decide) (by decide) ?_
        refine g_aload_n E gdX5_trait_42 rfl 0 rfl ?_
        refine g_get (T := TX5) E fw_X5 23 (wC_23 g ad o) rfl 2 (by decide) w_212 rfl rfl gdX5_trait_43 ?_
        refine g_iload_n E gdX5_trait_46 rfl 1 rfl ?_
        obtain ⟨hi5, h⟩ := qIn_of h
        refine g_zald E 26 (wC_26 g ad o) (by decide) hi5 gdX5_trait_47 ?_
        obtain ⟨n6, e_n6, h⟩ := qNm_of h
        refine g_nmi e_n6 ?_
        refine g_if_eq E 55 gdX5_trait_48 (by decide) h (fun h => ?_) (fun h => ?_)
        ·
          refine g_iconst E gdX5_trait_55 ?_
          refine g_sub E [] rfl ?_
          exact j56 0 h
        ·
          refine g_iconst E gdX5_trait_51 ?_
          refine g_goto E 56 gdX5_trait_52 (by decide) ?_
          refine g_sub E [] rfl ?_
          exact j56 1 h
      ·
        refine g_tabOut E 57 gdX5_trait_1 h1 (by omega) (by decide) ?_
        refine g_aload_n E gdX5_trait_57 rfl 0 rfl ?_
        refine g_get (T := TX5) E fw_X5 23 (wC_23 g ad o) rfl 3 (by decide) w_213 rfl rfl gdX5_trait_58 ?_
        refine g_iload_n E gdX5_trait_61 rfl 1 rfl ?_
        obtain ⟨hi7, h⟩ := qIn_of h
        refine g_iald E 27 (wC_27 g ad o) (by decide) hi7 gdX5_trait_62 ?_
        obtain ⟨n8, e_n8, h⟩ := qNm_of h
        refine g_nmi e_n8 ?_
        exact g_iret E hQ (Option.some.inj h) rfl gdX5_trait_63
set_option maxHeartbeats 4000000 in
set_option maxRecDepth 100000 in
theorem c_X5_hash (l : Launch) (g : GG) (ad : Nat → Nat) (o : OO) (z1 : Int64) (v : Int64) (h : s_X5_hash o z1 = some v) : CL l g yX5_hash cX5_hash 5 (some .long) 1 22 (wC g ad o) [.ref (ad 23), .long z1] v (wC g ad o) := by
  refine met_L (by decide) (Nat.le_of_ble_eq_true rfl) ?_
  intro X E hQ
  show Go X 0 (wC g ad o) [(0, .ref (ad 23)), (1, .long z1)] []
  have j46 : ∀ (z1 : Int64), b_X5_hash_46 o z1 = some v → Go X 46 (wC g ad o) [(1, .long z1)] [] := by
    intro z1 h
    unfold b_X5_hash_46 at h
    refine g_lload_n E gdX5_hash_46 rfl 0 rfl ?_
    exact g_lret E hQ (Option.some.inj h) rfl gdX5_hash_47
  have j40 : ∀ (z1 : Int64) (x3 : Int) (v : (Int64 × Int) ⊕ ((Int64))), b_X5_hash_40 o z1 x3 = some v → (∀ (z1 : Int64) (x3 : Int), v = .inl (z1, x3) → Go X 2 (wC g ad o) [(0, .ref (ad 23)), (1, .long z1), (3, iv x3)] []) → (∀ (z1 : Int64), v = .inr (z1) → Go X 46 (wC g ad o) [(1, .long z1)] []) → Go X 40 (wC g ad o) [(0, .ref (ad 23)), (1, .long z1), (3, iv x3)] [] := by
    intro z1 x3 v h k0 k1
    unfold b_X5_hash_40 at h
    refine g_iinc E [(3, iv (x3 + 1)), (0, .ref (ad 23)), (1, .long z1)] gdX5_hash_40 2 rfl (by decide) rfl ?_
    refine g_goto E 2 gdX5_hash_43 (by decide) ?_
    refine g_sub E [1, 2, 0] rfl ?_
    exact k0 z1 (x3 + 1) (Option.some.inj h).symm
  have l13 : ∀ (x3 : Int) (r : (Int64)) (s0 : Int64 × Int), loopW (fun s => l_X5_hash_13 o x3 s.1 s.2) s0 = some r → (∀ (z1 : Int64), r = (z1) → Go X 40 (wC g ad o) [(0, .ref (ad 23)), (1, .long z1), (3, iv x3)] []) → Go X 13 (wC g ad o) [(0, .ref (ad 23)), (1, .long s0.1), (3, iv x3), (4, iv s0.2)] [] := by
    intro x3 r s0 h k1
    refine loop_rule (Head := fun s0 => Go X 13 (wC g ad o) [(0, .ref (ad 23)), (1, .long s0.1), (3, iv x3), (4, iv s0.2)] []) h ?_
    intro s v h kk kx
    obtain ⟨z1, x4⟩ := s
    have h : l_X5_hash_13 o x3 z1 x4 = some v := h
    have k0 : ∀ (z1 : Int64) (x4 : Int), v = .inl (z1, x4) → Go X 13 (wC g ad o) [(0, .ref (ad 23)), (1, .long z1), (3, iv x3), (4, iv x4)] [] := fun z1 x4 e => kk (z1, x4) e
    have k1 : ∀ (z1 : Int64), v = .inr (z1) → Go X 40 (wC g ad o) [(0, .ref (ad 23)), (1, .long z1), (3, iv x3)] [] := fun z1 e => k1 z1 (kx _ e).symm
    unfold l_X5_hash_13 at h
    refine g_iload E gdX5_hash_13 3 rfl ?_
    refine g_iconst E gdX5_hash_15 ?_
    refine g_icmp_gt E 40 gdX5_hash_16 (by decide) h (fun h => ?_) (fun h => ?_)
    ·
      refine g_sub E [0, 1, 2] rfl ?_
      exact k1 z1 (Option.some.inj h).symm
    ·
      refine g_ldc2 E gdX5_hash_19 w_1440 ?_
      refine g_lload_n E gdX5_hash_22 rfl 1 rfl ?_
      refine g_lmul E gdX5_hash_23 ?_
      refine g_aload_n E gdX5_hash_24 rfl 0 rfl ?_
      refine g_iload_n E gdX5_hash_25 rfl 2 rfl ?_
      refine g_iload E gdX5_hash_26 3 rfl ?_
      obtain ⟨r1, hc2, h⟩ := qB_of h
      refine g_Vi (r := r1) (As := [iv x3, iv x4]) (rest := [.long ((31 : Int64) * z1)]) (w := wC g ad o) E (c_X5_trait l g ad o x3 x4 r1 hc2) okm_X5_trait okw_X5_trait w_1441 rfl (wC_23 g ad o) rfl rfl (Nat.le_of_ble_eq_true rfl) ⟨Nat.le_of_ble_eq_true rfl, Nat.le_of_ble_eq_true rfl⟩ gdX5_hash_28 ?_
      refine g_i2l E gdX5_hash_31 ?_
      refine g_ladd E gdX5_hash_32 ?_
      obtain ⟨m3, e_m3, h⟩ := qNm_of h
      refine g_nml e_m3 ?_
      refine g_lstore_n E [(1, .long m3), (0, .ref (ad 23)), (3, iv x3), (4, iv x4)] gdX5_hash_33 rfl (by decide) rfl ?_
      refine g_iinc E [(4, iv (x4 + 1)), (1, .long m3), (0, .ref (ad 23)), (3, iv x3)] gdX5_hash_34 3 rfl (by decide) rfl ?_
      refine g_goto E 13 gdX5_hash_37 (by decide) ?_
      refine g_sub E [2, 1, 3, 0] rfl ?_
      exact k0 m3 (x4 + 1) (Option.some.inj h).symm
  have j13 : ∀ (z1 : Int64) (x3 : Int) (x4 : Int) (v : (Int64 × Int) ⊕ ((Int64))), e_X5_hash_13 o z1 x3 x4 = some v → (∀ (z1 : Int64) (x3 : Int), v = .inl (z1, x3) → Go X 2 (wC g ad o) [(0, .ref (ad 23)), (1, .long z1), (3, iv x3)] []) → (∀ (z1 : Int64), v = .inr (z1) → Go X 46 (wC g ad o) [(1, .long z1)] []) → Go X 13 (wC g ad o) [(0, .ref (ad 23)), (1, .long z1), (3, iv x3), (4, iv x4)] [] := by
    intro z1 x3 x4 v h k0 k1
    unfold e_X5_hash_13 at h
    obtain ⟨r, hr, h⟩ := qB_of h
    refine l13 x3 r _ hr ?_
    ·
      intro u0 e
      have e := e.symm
      subst e
      have h : b_X5_hash_40 o u0 x3 = some v := h
      exact j40 u0 x3 v h k0 k1
  have l2 : ∀  (r : (Int64)) (s0 : Int64 × Int), loopW (fun s => l_X5_hash_2 o s.1 s.2) s0 = some r → (∀ (z1 : Int64), r = (z1) → Go X 46 (wC g ad o) [(1, .long z1)] []) → Go X 2 (wC g ad o) [(0, .ref (ad 23)), (1, .long s0.1), (3, iv s0.2)] [] := by
    intro r s0 h k1
    refine loop_rule (Head := fun s0 => Go X 2 (wC g ad o) [(0, .ref (ad 23)), (1, .long s0.1), (3, iv s0.2)] []) h ?_
    intro s v h kk kx
    obtain ⟨z1, x3⟩ := s
    have h : l_X5_hash_2 o z1 x3 = some v := h
    have k0 : ∀ (z1 : Int64) (x3 : Int), v = .inl (z1, x3) → Go X 2 (wC g ad o) [(0, .ref (ad 23)), (1, .long z1), (3, iv x3)] [] := fun z1 x3 e => kk (z1, x3) e
    have k1 : ∀ (z1 : Int64), v = .inr (z1) → Go X 46 (wC g ad o) [(1, .long z1)] [] := fun z1 e => k1 z1 (kx _ e).symm
    unfold l_X5_hash_2 at h
    refine g_iload_n E gdX5_hash_2 rfl 2 rfl ?_
    refine g_aload_n E gdX5_hash_3 rfl 0 rfl ?_
    refine g_get (T := TX5) E fw_X5 23 (wC_23 g ad o) rfl 4 (by decide) w_214 rfl rfl gdX5_hash_4 ?_
    refine g_icmp_ge E 46 gdX5_hash_7 (by decide) h (fun h => ?_) (fun h => ?_)
    ·
      refine g_sub E [1] rfl ?_
      exact k1 z1 (Option.some.inj h).symm
    ·
      refine g_iconst E gdX5_hash_10 ?_
      refine g_istore E [(4, iv 0), (0, .ref (ad 23)), (1, .long z1), (3, iv x3)] gdX5_hash_11 (by decide) rfl ?_
      refine g_sub E [1, 2, 3, 0] rfl ?_
      exact j13 z1 x3 0 v h k0 k1
  have j2 : ∀ (z1 : Int64) (x3 : Int), e_X5_hash_2 o z1 x3 = some v → Go X 2 (wC g ad o) [(0, .ref (ad 23)), (1, .long z1), (3, iv x3)] [] := by
    intro z1 x3 h
    unfold e_X5_hash_2 at h
    obtain ⟨r, hr, h⟩ := qB_of h
    refine l2  r _ hr ?_
    ·
      intro u0 e
      have e := e.symm
      subst e
      have h : b_X5_hash_46 o u0 = some v := h
      exact j46 u0 h
  unfold s_X5_hash at h
  refine g_iconst E gdX5_hash_0 ?_
  refine g_istore_n E [(3, iv 0), (0, .ref (ad 23)), (1, .long z1)] gdX5_hash_1 rfl (by decide) rfl ?_
  refine g_sub E [1, 2, 0] rfl ?_
  exact j2 z1 0 h
set_option maxHeartbeats 4000000 in
set_option maxRecDepth 100000 in
theorem c_X7_hash (l : Launch) (g : GG) (ad : Nat → Nat) (o : OO) (z1 : Int64) (v : Int64) (h : s_X7_hash o z1 = some v) : CL l g yX7_hash cX7_hash 4 (some .long) 0 0 (wC g ad o) [.ref (ad 28), .long z1] v (wC g ad o) := by
  refine met_L (by decide) (Nat.le_of_ble_eq_true rfl) ?_
  intro X E hQ
  show Go X 0 (wC g ad o) [(0, .ref (ad 28)), (1, .long z1)] []
  have j44 : ∀ (z1 : Int64), b_X7_hash_44 o z1 = some v → Go X 44 (wC g ad o) [(1, .long z1)] [] := by
    intro z1 h
    unfold b_X7_hash_44 at h
    refine g_lload_n E gdX7_hash_44 rfl 0 rfl ?_
    exact g_lret E hQ (Option.some.inj h) rfl gdX7_hash_45
  have l2 : ∀  (r : (Int64)) (s0 : Int64 × Int), loopW (fun s => l_X7_hash_2 o s.1 s.2) s0 = some r → (∀ (z1 : Int64), r = (z1) → Go X 44 (wC g ad o) [(1, .long z1)] []) → Go X 2 (wC g ad o) [(0, .ref (ad 28)), (1, .long s0.1), (3, iv s0.2)] [] := by
    intro r s0 h k1
    refine loop_rule (Head := fun s0 => Go X 2 (wC g ad o) [(0, .ref (ad 28)), (1, .long s0.1), (3, iv s0.2)] []) h ?_
    intro s v h kk kx
    obtain ⟨z1, x3⟩ := s
    have h : l_X7_hash_2 o z1 x3 = some v := h
    have k0 : ∀ (z1 : Int64) (x3 : Int), v = .inl (z1, x3) → Go X 2 (wC g ad o) [(0, .ref (ad 28)), (1, .long z1), (3, iv x3)] [] := fun z1 x3 e => kk (z1, x3) e
    have k1 : ∀ (z1 : Int64), v = .inr (z1) → Go X 44 (wC g ad o) [(1, .long z1)] [] := fun z1 e => k1 z1 (kx _ e).symm
    unfold l_X7_hash_2 at h
    refine g_iload_n E gdX7_hash_2 rfl 2 rfl ?_
    refine g_aload_n E gdX7_hash_3 rfl 0 rfl ?_
    refine g_get (T := TX7) E fw_X7 28 (wC_28 g ad o) rfl 3 (by decide) w_235 rfl rfl gdX7_hash_4 ?_
    refine g_icmp_ge E 44 gdX7_hash_7 (by decide) h (fun h => ?_) (fun h => ?_)
    ·
      refine g_sub E [1] rfl ?_
      exact k1 z1 (Option.some.inj h).symm
    ·
      refine g_ldc2 E gdX7_hash_10 w_1446 ?_
      refine g_lload_n E gdX7_hash_13 rfl 1 rfl ?_
      refine g_lmul E gdX7_hash_14 ?_
      refine g_aload_n E gdX7_hash_15 rfl 0 rfl ?_
      refine g_get (T := TX7) E fw_X7 28 (wC_28 g ad o) rfl 0 (by decide) w_232 rfl rfl gdX7_hash_16 ?_
      refine g_iload_n E gdX7_hash_19 rfl 2 rfl ?_
      obtain ⟨hi1, h⟩ := qIn_of h
      refine g_iald E 29 (wC_29 g ad o) (by decide) hi1 gdX7_hash_20 ?_
      obtain ⟨n2, e_n2, h⟩ := qNm_of h
      refine g_nmi e_n2 ?_
      refine g_i2l E gdX7_hash_21 ?_
      refine g_ladd E gdX7_hash_22 ?_
      obtain ⟨m3, e_m3, h⟩ := qNm_of h
      refine g_nml e_m3 ?_
      refine g_lstore_n E [(1, .long m3), (0, .ref (ad 28)), (3, iv x3)] gdX7_hash_23 rfl (by decide) rfl ?_
      refine g_ldc2 E gdX7_hash_24 w_1446 ?_
      refine g_lload_n E gdX7_hash_27 rfl 0 rfl ?_
      refine g_lmul E gdX7_hash_28 ?_
      refine g_aload_n E gdX7_hash_29 rfl 1 rfl ?_
      refine g_get (T := TX7) E fw_X7 28 (wC_28 g ad o) rfl 1 (by decide) w_233 rfl rfl gdX7_hash_30 ?_
      refine g_iload_n E gdX7_hash_33 rfl 2 rfl ?_
      obtain ⟨hi4, h⟩ := qIn_of h
      refine g_iald E 30 (wC_30 g ad o) (by decide) hi4 gdX7_hash_34 ?_
      obtain ⟨n5, e_n5, h⟩ := qNm_of h
      refine g_nmi e_n5 ?_
      refine g_i2l E gdX7_hash_35 ?_
      refine g_ladd E gdX7_hash_36 ?_
      obtain ⟨m6, e_m6, h⟩ := qNm_of h
      refine g_nml e_m6 ?_
      refine g_lstore_n E [(1, .long m6), (0, .ref (ad 28)), (3, iv x3)] gdX7_hash_37 rfl (by decide) rfl ?_
      refine g_iinc E [(3, iv (x3 + 1)), (1, .long m6), (0, .ref (ad 28))] gdX7_hash_38 2 rfl (by decide) rfl ?_
      refine g_goto E 2 gdX7_hash_41 (by decide) ?_
      refine g_sub E [2, 1, 0] rfl ?_
      exact k0 m6 (x3 + 1) (Option.some.inj h).symm
  have j2 : ∀ (z1 : Int64) (x3 : Int), e_X7_hash_2 o z1 x3 = some v → Go X 2 (wC g ad o) [(0, .ref (ad 28)), (1, .long z1), (3, iv x3)] [] := by
    intro z1 x3 h
    unfold e_X7_hash_2 at h
    obtain ⟨r, hr, h⟩ := qB_of h
    refine l2  r _ hr ?_
    ·
      intro u0 e
      have e := e.symm
      subst e
      have h : b_X7_hash_44 o u0 = some v := h
      exact j44 u0 h
  unfold s_X7_hash at h
  refine g_iconst E gdX7_hash_0 ?_
  refine g_istore_n E [(3, iv 0), (0, .ref (ad 28)), (1, .long z1)] gdX7_hash_1 rfl (by decide) rfl ?_
  refine g_sub E [1, 2, 0] rfl ?_
  exact j2 z1 0 h
set_option maxHeartbeats 4000000 in
set_option maxRecDepth 100000 in
theorem c_X4_trait (l : Launch) (g : GG) (ad : Nat → Nat) (o : OO) (x1 : Int) (x2 : Int) (v : Int) (h : s_X4_trait o x1 x2 = some v) : CI l g yX4_trait cX4_trait 3 (some .int) 0 0 (wC g ad o) [.ref (ad 32), iv x1, iv x2] v (wC g ad o) := by
  refine met_I (by decide) (Nat.le_of_ble_eq_true rfl) ?_
  intro X E hQ
  show Go X 0 (wC g ad o) [(0, .ref (ad 32)), (1, iv x1), (2, iv x2)] []
  unfold s_X4_trait at h
  refine g_iload_n E gdX4_trait_0 rfl 2 rfl ?_
  obtain ⟨h1, -, ⟨hx, h⟩ | ⟨hx0, h⟩⟩ := qEq_of h
  ·
    refine g_look E (off := 27) 28 gdX4_trait_1 h1 (by decide) (by rw [hx]; decide) (by decide) ?_
    refine g_aload_n E gdX4_trait_28 rfl 0 rfl ?_
    refine g_get (T := TX4) E fw_X4 32 (wC_32 g ad o) rfl 0 (by decide) w_251 rfl rfl gdX4_trait_29 ?_
    refine g_iload_n E gdX4_trait_32 rfl 1 rfl ?_
    obtain ⟨hi1, h⟩ := qIn_of h
    refine g_iald E 33 (wC_33 g ad o) (by decide) hi1 gdX4_trait_33 ?_
    obtain ⟨n2, e_n2, h⟩ := qNm_of h
    refine g_nmi e_n2 ?_
    exact g_iret E hQ (Option.some.inj h) rfl gdX4_trait_34
  ·
    obtain ⟨h1, -, ⟨hx, h⟩ | ⟨hx1, h⟩⟩ := qEq_of h
    ·
      refine g_look E (off := 34) 35 gdX4_trait_1 h1 (by decide) (by rw [hx]; decide) (by decide) ?_
      refine g_aload_n E gdX4_trait_35 rfl 0 rfl ?_
      refine g_get (T := TX4) E fw_X4 32 (wC_32 g ad o) rfl 1 (by decide) w_252 rfl rfl gdX4_trait_36 ?_
      refine g_iload_n E gdX4_trait_39 rfl 1 rfl ?_
      obtain ⟨hi3, h⟩ := qIn_of h
      refine g_iald E 34 (wC_34 g ad o) (by decide) hi3 gdX4_trait_40 ?_
      obtain ⟨n4, e_n4, h⟩ := qNm_of h
      refine g_nmi e_n4 ?_
      exact g_iret E hQ (Option.some.inj h) rfl gdX4_trait_41
    ·
      refine g_look E (off := 41) 42 gdX4_trait_1 h1 (by decide) (by show Op.lookupswitch.offset ([(0, 27), (1, 34)] : List (Int × Int)) 41 x2 = 41; rw [Op.lookupswitch.offset_cons, if_neg (fun q => hx0 q.symm), Op.lookupswitch.offset_cons, if_neg (fun q => hx1 q.symm)]; rfl) (by decide) ?_
      refine g_aload_n E gdX4_trait_42 rfl 0 rfl ?_
      refine g_get (T := TX4) E fw_X4 32 (wC_32 g ad o) rfl 2 (by decide) w_253 rfl rfl gdX4_trait_43 ?_
      refine g_iload_n E gdX4_trait_46 rfl 1 rfl ?_
      obtain ⟨hi5, h⟩ := qIn_of h
      refine g_iald E 35 (wC_35 g ad o) (by decide) hi5 gdX4_trait_47 ?_
      obtain ⟨n6, e_n6, h⟩ := qNm_of h
      refine g_nmi e_n6 ?_
      exact g_iret E hQ (Option.some.inj h) rfl gdX4_trait_48
set_option maxHeartbeats 4000000 in
set_option maxRecDepth 100000 in
theorem c_X4_hash (l : Launch) (g : GG) (ad : Nat → Nat) (o : OO) (z1 : Int64) (v : Int64) (h : s_X4_hash o z1 = some v) : CL l g yX4_hash cX4_hash 5 (some .long) 1 23 (wC g ad o) [.ref (ad 32), .long z1] v (wC g ad o) := by
  refine met_L (by decide) (Nat.le_of_ble_eq_true rfl) ?_
  intro X E hQ
  show Go X 0 (wC g ad o) [(0, .ref (ad 32)), (1, .long z1)] []
  have j121 : ∀ (z1 : Int64), b_X4_hash_121 o z1 = some v → Go X 121 (wC g ad o) [(1, .long z1)] [] := by
    intro z1 h
    unfold b_X4_hash_121 at h
    refine g_lload_n E gdX4_hash_121 rfl 0 rfl ?_
    exact g_lret E hQ (Option.some.inj h) rfl gdX4_hash_122
  have j115 : ∀ (z1 : Int64) (x3 : Int) (v : (Int64 × Int) ⊕ ((Int64))), b_X4_hash_115 o z1 x3 = some v → (∀ (z1 : Int64) (x3 : Int), v = .inl (z1, x3) → Go X 2 (wC g ad o) [(0, .ref (ad 32)), (1, .long z1), (3, iv x3)] []) → (∀ (z1 : Int64), v = .inr (z1) → Go X 121 (wC g ad o) [(1, .long z1)] []) → Go X 115 (wC g ad o) [(0, .ref (ad 32)), (1, .long z1), (3, iv x3)] [] := by
    intro z1 x3 v h k0 k1
    unfold b_X4_hash_115 at h
    refine g_iinc E [(3, iv (x3 + 1)), (0, .ref (ad 32)), (1, .long z1)] gdX4_hash_115 2 rfl (by decide) rfl ?_
    refine g_goto E 2 gdX4_hash_118 (by decide) ?_
    refine g_sub E [1, 2, 0] rfl ?_
    exact k0 z1 (x3 + 1) (Option.some.inj h).symm
  have l83 : ∀ (x3 : Int) (r : (Int64)) (s0 : Int64 × Int), loopW (fun s => l_X4_hash_83 o x3 s.1 s.2) s0 = some r → (∀ (z1 : Int64), r = (z1) → Go X 115 (wC g ad o) [(0, .ref (ad 32)), (1, .long z1), (3, iv x3)] []) → Go X 83 (wC g ad o) [(0, .ref (ad 32)), (1, .long s0.1), (3, iv x3), (4, iv s0.2)] [] := by
    intro x3 r s0 h k1
    refine loop_rule (Head := fun s0 => Go X 83 (wC g ad o) [(0, .ref (ad 32)), (1, .long s0.1), (3, iv x3), (4, iv s0.2)] []) h ?_
    intro s v h kk kx
    obtain ⟨z1, x4⟩ := s
    have h : l_X4_hash_83 o x3 z1 x4 = some v := h
    have k0 : ∀ (z1 : Int64) (x4 : Int), v = .inl (z1, x4) → Go X 83 (wC g ad o) [(0, .ref (ad 32)), (1, .long z1), (3, iv x3), (4, iv x4)] [] := fun z1 x4 e => kk (z1, x4) e
    have k1 : ∀ (z1 : Int64), v = .inr (z1) → Go X 115 (wC g ad o) [(0, .ref (ad 32)), (1, .long z1), (3, iv x3)] [] := fun z1 e => k1 z1 (kx _ e).symm
    unfold l_X4_hash_83 at h
    refine g_iload E gdX4_hash_83 3 rfl ?_
    refine g_aload_n E gdX4_hash_85 rfl 0 rfl ?_
    refine g_get (T := TX4) E fw_X4 32 (wC_32 g ad o) rfl 3 (by decide) w_254 rfl rfl gdX4_hash_86 ?_
    refine g_iload_n E gdX4_hash_89 rfl 2 rfl ?_
    obtain ⟨hi1, h⟩ := qIn_of h
    refine g_iald E 36 (wC_36 g ad o) (by decide) hi1 gdX4_hash_90 ?_
    obtain ⟨n2, e_n2, h⟩ := qNm_of h
    refine g_nmi e_n2 ?_
    refine g_icmp_ge E 115 gdX4_hash_91 (by decide) h (fun h => ?_) (fun h => ?_)
    ·
      refine g_sub E [0, 1, 2] rfl ?_
      exact k1 z1 (Option.some.inj h).symm
    ·
      refine g_ldc2 E gdX4_hash_94 w_1451 ?_
      refine g_lload_n E gdX4_hash_97 rfl 1 rfl ?_
      refine g_lmul E gdX4_hash_98 ?_
      refine g_aload_n E gdX4_hash_99 rfl 0 rfl ?_
      refine g_iload_n E gdX4_hash_100 rfl 2 rfl ?_
      refine g_iload E gdX4_hash_101 3 rfl ?_
      obtain ⟨r3, hc4, h⟩ := qB_of h
      refine g_Vi (r := r3) (As := [iv x3, iv x4]) (rest := [.long ((31 : Int64) * z1)]) (w := wC g ad o) E (c_X4_cellAt l g ad o x3 x4 r3 hc4) okm_X4_cellAt okw_X4_cellAt w_1454 rfl (wC_32 g ad o) rfl rfl (Nat.le_of_ble_eq_true rfl) ⟨Nat.le_of_ble_eq_true rfl, Nat.le_of_ble_eq_true rfl⟩ gdX4_hash_103 ?_
      refine g_i2l E gdX4_hash_106 ?_
      refine g_ladd E gdX4_hash_107 ?_
      obtain ⟨m5, e_m5, h⟩ := qNm_of h
      refine g_nml e_m5 ?_
      refine g_lstore_n E [(1, .long m5), (0, .ref (ad 32)), (3, iv x3), (4, iv x4)] gdX4_hash_108 rfl (by decide) rfl ?_
      refine g_iinc E [(4, iv (x4 + 1)), (1, .long m5), (0, .ref (ad 32)), (3, iv x3)] gdX4_hash_109 3 rfl (by decide) rfl ?_
      refine g_goto E 83 gdX4_hash_112 (by decide) ?_
      refine g_sub E [2, 1, 3, 0] rfl ?_
      exact k0 m5 (x4 + 1) (Option.some.inj h).symm
  have j83 : ∀ (z1 : Int64) (x3 : Int) (x4 : Int) (v : (Int64 × Int) ⊕ ((Int64))), e_X4_hash_83 o z1 x3 x4 = some v → (∀ (z1 : Int64) (x3 : Int), v = .inl (z1, x3) → Go X 2 (wC g ad o) [(0, .ref (ad 32)), (1, .long z1), (3, iv x3)] []) → (∀ (z1 : Int64), v = .inr (z1) → Go X 121 (wC g ad o) [(1, .long z1)] []) → Go X 83 (wC g ad o) [(0, .ref (ad 32)), (1, .long z1), (3, iv x3), (4, iv x4)] [] := by
    intro z1 x3 x4 v h k0 k1
    unfold e_X4_hash_83 at h
    obtain ⟨r, hr, h⟩ := qB_of h
    refine l83 x3 r _ hr ?_
    ·
      intro u0 e
      have e := e.symm
      subst e
      have h : b_X4_hash_115 o u0 x3 = some v := h
      exact j115 u0 x3 v h k0 k1
  have j40 : ∀ (z1 : Int64) (x3 : Int) (v : (Int64 × Int) ⊕ ((Int64))), b_X4_hash_40 o z1 x3 = some v → (∀ (z1 : Int64) (x3 : Int), v = .inl (z1, x3) → Go X 2 (wC g ad o) [(0, .ref (ad 32)), (1, .long z1), (3, iv x3)] []) → (∀ (z1 : Int64), v = .inr (z1) → Go X 121 (wC g ad o) [(1, .long z1)] []) → Go X 40 (wC g ad o) [(0, .ref (ad 32)), (1, .long z1), (3, iv x3)] [] := by
    intro z1 x3 v h k0 k1
    unfold b_X4_hash_40 at h
    refine g_aload_n E gdX4_hash_40 rfl 0 rfl ?_
    refine g_iload_n E gdX4_hash_41 rfl 2 rfl ?_
    refine g_iconst E gdX4_hash_42 ?_
    obtain ⟨r6, hc7, h⟩ := qB_of h
    refine g_Vi (r := r6) (As := [iv x3, iv 1]) (rest := []) (w := wC g ad o) E (c_X4_isOf l g ad o x3 1 r6 hc7) okm_X4_isOf okw_X4_isOf w_1453 rfl (wC_32 g ad o) rfl rfl (Nat.le_of_ble_eq_true rfl) ⟨Nat.le_of_ble_eq_true rfl, Nat.le_of_ble_eq_true rfl⟩ gdX4_hash_43 ?_
    refine g_if_ne E 52 gdX4_hash_46 (by decide) h (fun h => ?_) (fun h => ?_)
    ·
      refine g_ldc2 E gdX4_hash_52 w_1451 ?_
      refine g_lload_n E gdX4_hash_55 rfl 1 rfl ?_
      refine g_lmul E gdX4_hash_56 ?_
      refine g_aload_n E gdX4_hash_57 rfl 0 rfl ?_
      refine g_get (T := TX4) E fw_X4 32 (wC_32 g ad o) rfl 6 (by decide) w_257 rfl rfl gdX4_hash_58 ?_
      refine g_iload_n E gdX4_hash_61 rfl 2 rfl ?_
      obtain ⟨hi8, h⟩ := qIn_of h
      refine g_iald E 39 (wC_39 g ad o) (by decide) hi8 gdX4_hash_62 ?_
      obtain ⟨n9, e_n9, h⟩ := qNm_of h
      refine g_nmi e_n9 ?_
      refine g_i2l E gdX4_hash_63 ?_
      refine g_ladd E gdX4_hash_64 ?_
      obtain ⟨m10, e_m10, h⟩ := qNm_of h
      refine g_nml e_m10 ?_
      refine g_lstore_n E [(1, .long m10), (0, .ref (ad 32)), (3, iv x3)] gdX4_hash_65 rfl (by decide) rfl ?_
      refine g_ldc2 E gdX4_hash_66 w_1451 ?_
      refine g_lload_n E gdX4_hash_69 rfl 0 rfl ?_
      refine g_lmul E gdX4_hash_70 ?_
      refine g_aload_n E gdX4_hash_71 rfl 1 rfl ?_
      refine g_get (T := TX4) E fw_X4 32 (wC_32 g ad o) rfl 7 (by decide) w_258 rfl rfl gdX4_hash_72 ?_
      refine g_iload_n E gdX4_hash_75 rfl 2 rfl ?_
      obtain ⟨hi11, h⟩ := qIn_of h
      refine g_iald E 40 (wC_40 g ad o) (by decide) hi11 gdX4_hash_76 ?_
      obtain ⟨n12, e_n12, h⟩ := qNm_of h
      refine g_nmi e_n12 ?_
      refine g_i2l E gdX4_hash_77 ?_
      refine g_ladd E gdX4_hash_78 ?_
      obtain ⟨m13, e_m13, h⟩ := qNm_of h
      refine g_nml e_m13 ?_
      refine g_lstore_n E [(1, .long m13), (0, .ref (ad 32)), (3, iv x3)] gdX4_hash_79 rfl (by decide) rfl ?_
      refine g_iconst E gdX4_hash_80 ?_
      refine g_istore E [(4, iv 0), (1, .long m13), (0, .ref (ad 32)), (3, iv x3)] gdX4_hash_81 (by decide) rfl ?_
      refine g_sub E [2, 1, 3, 0] rfl ?_
      exact j83 m13 x3 0 v h k0 k1
    ·
      refine g_goto E 115 gdX4_hash_49 (by decide) ?_
      exact j115 z1 x3 v h k0 k1
  have l13 : ∀ (x3 : Int) (r : (Int64)) (s0 : Int64 × Int), loopW (fun s => l_X4_hash_13 o x3 s.1 s.2) s0 = some r → (∀ (z1 : Int64), r = (z1) → Go X 40 (wC g ad o) [(0, .ref (ad 32)), (1, .long z1), (3, iv x3)] []) → Go X 13 (wC g ad o) [(0, .ref (ad 32)), (1, .long s0.1), (3, iv x3), (4, iv s0.2)] [] := by
    intro x3 r s0 h k1
    refine loop_rule (Head := fun s0 => Go X 13 (wC g ad o) [(0, .ref (ad 32)), (1, .long s0.1), (3, iv x3), (4, iv s0.2)] []) h ?_
    intro s v h kk kx
    obtain ⟨z1, x4⟩ := s
    have h : l_X4_hash_13 o x3 z1 x4 = some v := h
    have k0 : ∀ (z1 : Int64) (x4 : Int), v = .inl (z1, x4) → Go X 13 (wC g ad o) [(0, .ref (ad 32)), (1, .long z1), (3, iv x3), (4, iv x4)] [] := fun z1 x4 e => kk (z1, x4) e
    have k1 : ∀ (z1 : Int64), v = .inr (z1) → Go X 40 (wC g ad o) [(0, .ref (ad 32)), (1, .long z1), (3, iv x3)] [] := fun z1 e => k1 z1 (kx _ e).symm
    unfold l_X4_hash_13 at h
    refine g_iload E gdX4_hash_13 3 rfl ?_
    refine g_iconst E gdX4_hash_15 ?_
    refine g_icmp_gt E 40 gdX4_hash_16 (by decide) h (fun h => ?_) (fun h => ?_)
    ·
      refine g_sub E [0, 1, 2] rfl ?_
      exact k1 z1 (Option.some.inj h).symm
    ·
      refine g_ldc2 E gdX4_hash_19 w_1451 ?_
      refine g_lload_n E gdX4_hash_22 rfl 1 rfl ?_
      refine g_lmul E gdX4_hash_23 ?_
      refine g_aload_n E gdX4_hash_24 rfl 0 rfl ?_
      refine g_iload_n E gdX4_hash_25 rfl 2 rfl ?_
      refine g_iload E gdX4_hash_26 3 rfl ?_
      obtain ⟨r14, hc15, h⟩ := qB_of h
      refine g_Vi (r := r14) (As := [iv x3, iv x4]) (rest := [.long ((31 : Int64) * z1)]) (w := wC g ad o) E (c_X4_trait l g ad o x3 x4 r14 hc15) okm_X4_trait okw_X4_trait w_1452 rfl (wC_32 g ad o) rfl rfl (Nat.le_of_ble_eq_true rfl) ⟨Nat.le_of_ble_eq_true rfl, Nat.le_of_ble_eq_true rfl⟩ gdX4_hash_28 ?_
      refine g_i2l E gdX4_hash_31 ?_
      refine g_ladd E gdX4_hash_32 ?_
      obtain ⟨m16, e_m16, h⟩ := qNm_of h
      refine g_nml e_m16 ?_
      refine g_lstore_n E [(1, .long m16), (0, .ref (ad 32)), (3, iv x3), (4, iv x4)] gdX4_hash_33 rfl (by decide) rfl ?_
      refine g_iinc E [(4, iv (x4 + 1)), (1, .long m16), (0, .ref (ad 32)), (3, iv x3)] gdX4_hash_34 3 rfl (by decide) rfl ?_
      refine g_goto E 13 gdX4_hash_37 (by decide) ?_
      refine g_sub E [2, 1, 3, 0] rfl ?_
      exact k0 m16 (x4 + 1) (Option.some.inj h).symm
  have j13 : ∀ (z1 : Int64) (x3 : Int) (x4 : Int) (v : (Int64 × Int) ⊕ ((Int64))), e_X4_hash_13 o z1 x3 x4 = some v → (∀ (z1 : Int64) (x3 : Int), v = .inl (z1, x3) → Go X 2 (wC g ad o) [(0, .ref (ad 32)), (1, .long z1), (3, iv x3)] []) → (∀ (z1 : Int64), v = .inr (z1) → Go X 121 (wC g ad o) [(1, .long z1)] []) → Go X 13 (wC g ad o) [(0, .ref (ad 32)), (1, .long z1), (3, iv x3), (4, iv x4)] [] := by
    intro z1 x3 x4 v h k0 k1
    unfold e_X4_hash_13 at h
    obtain ⟨r, hr, h⟩ := qB_of h
    refine l13 x3 r _ hr ?_
    ·
      intro u0 e
      have e := e.symm
      subst e
      have h : b_X4_hash_40 o u0 x3 = some v := h
      exact j40 u0 x3 v h k0 k1
  have l2 : ∀  (r : (Int64)) (s0 : Int64 × Int), loopW (fun s => l_X4_hash_2 o s.1 s.2) s0 = some r → (∀ (z1 : Int64), r = (z1) → Go X 121 (wC g ad o) [(1, .long z1)] []) → Go X 2 (wC g ad o) [(0, .ref (ad 32)), (1, .long s0.1), (3, iv s0.2)] [] := by
    intro r s0 h k1
    refine loop_rule (Head := fun s0 => Go X 2 (wC g ad o) [(0, .ref (ad 32)), (1, .long s0.1), (3, iv s0.2)] []) h ?_
    intro s v h kk kx
    obtain ⟨z1, x3⟩ := s
    have h : l_X4_hash_2 o z1 x3 = some v := h
    have k0 : ∀ (z1 : Int64) (x3 : Int), v = .inl (z1, x3) → Go X 2 (wC g ad o) [(0, .ref (ad 32)), (1, .long z1), (3, iv x3)] [] := fun z1 x3 e => kk (z1, x3) e
    have k1 : ∀ (z1 : Int64), v = .inr (z1) → Go X 121 (wC g ad o) [(1, .long z1)] [] := fun z1 e => k1 z1 (kx _ e).symm
    unfold l_X4_hash_2 at h
    refine g_iload_n E gdX4_hash_2 rfl 2 rfl ?_
    refine g_aload_n E gdX4_hash_3 rfl 0 rfl ?_
    refine g_get (T := TX4) E fw_X4 32 (wC_32 g ad o) rfl 13 (by decide) w_264 rfl rfl gdX4_hash_4 ?_
    refine g_icmp_ge E 121 gdX4_hash_7 (by decide) h (fun h => ?_) (fun h => ?_)
    ·
      refine g_sub E [1] rfl ?_
      exact k1 z1 (Option.some.inj h).symm
    ·
      refine g_iconst E gdX4_hash_10 ?_
      refine g_istore E [(4, iv 0), (0, .ref (ad 32)), (1, .long z1), (3, iv x3)] gdX4_hash_11 (by decide) rfl ?_
      refine g_sub E [1, 2, 3, 0] rfl ?_
      exact j13 z1 x3 0 v h k0 k1
  have j2 : ∀ (z1 : Int64) (x3 : Int), e_X4_hash_2 o z1 x3 = some v → Go X 2 (wC g ad o) [(0, .ref (ad 32)), (1, .long z1), (3, iv x3)] [] := by
    intro z1 x3 h
    unfold e_X4_hash_2 at h
    obtain ⟨r, hr, h⟩ := qB_of h
    refine l2  r _ hr ?_
    ·
      intro u0 e
      have e := e.symm
      subst e
      have h : b_X4_hash_121 o u0 = some v := h
      exact j121 u0 h
  unfold s_X4_hash at h
  refine g_iconst E gdX4_hash_0 ?_
  refine g_istore_n E [(3, iv 0), (0, .ref (ad 32)), (1, .long z1)] gdX4_hash_1 rfl (by decide) rfl ?_
  refine g_sub E [1, 2, 0] rfl ?_
  exact j2 z1 0 h
set_option maxHeartbeats 4000000 in
set_option maxRecDepth 100000 in
theorem c_X8_hash (l : Launch) (g : GG) (ad : Nat → Nat) (o : OO) (z1 : Int64) (v : Int64) (h : s_X8_hash o z1 = some v) : CL l g yX8_hash cX8_hash 5 (some .long) 1 22 (wC g ad o) [.ref (ad 1), .long z1] v (wC g ad o) := by
  refine met_L (by decide) (Nat.le_of_ble_eq_true rfl) ?_
  intro X E hQ
  show Go X 0 (wC g ad o) [(0, .ref (ad 1)), (1, .long z1)] []
  have j65 : ∀ (z1 : Int64), b_X8_hash_65 o z1 = some v → Go X 65 (wC g ad o) [(1, .long z1)] [] := by
    intro z1 h
    unfold b_X8_hash_65 at h
    refine g_lload_n E gdX8_hash_65 rfl 0 rfl ?_
    exact g_lret E hQ (Option.some.inj h) rfl gdX8_hash_66
  have j59 : ∀ (z1 : Int64) (x3 : Int) (v : (Int64 × Int) ⊕ ((Int64))), b_X8_hash_59 o z1 x3 = some v → (∀ (z1 : Int64) (x3 : Int), v = .inl (z1, x3) → Go X 2 (wC g ad o) [(0, .ref (ad 1)), (1, .long z1), (3, iv x3)] []) → (∀ (z1 : Int64), v = .inr (z1) → Go X 65 (wC g ad o) [(1, .long z1)] []) → Go X 59 (wC g ad o) [(0, .ref (ad 1)), (1, .long z1), (3, iv x3)] [] := by
    intro z1 x3 v h k0 k1
    unfold b_X8_hash_59 at h
    refine g_iinc E [(3, iv (x3 + 1)), (0, .ref (ad 1)), (1, .long z1)] gdX8_hash_59 2 rfl (by decide) rfl ?_
    refine g_goto E 2 gdX8_hash_62 (by decide) ?_
    refine g_sub E [1, 2, 0] rfl ?_
    exact k0 z1 (x3 + 1) (Option.some.inj h).symm
  have l27 : ∀ (x3 : Int) (r : (Int64)) (s0 : Int64 × Int), loopW (fun s => l_X8_hash_27 o x3 s.1 s.2) s0 = some r → (∀ (z1 : Int64), r = (z1) → Go X 59 (wC g ad o) [(0, .ref (ad 1)), (1, .long z1), (3, iv x3)] []) → Go X 27 (wC g ad o) [(0, .ref (ad 1)), (1, .long s0.1), (3, iv x3), (4, iv s0.2)] [] := by
    intro x3 r s0 h k1
    refine loop_rule (Head := fun s0 => Go X 27 (wC g ad o) [(0, .ref (ad 1)), (1, .long s0.1), (3, iv x3), (4, iv s0.2)] []) h ?_
    intro s v h kk kx
    obtain ⟨z1, x4⟩ := s
    have h : l_X8_hash_27 o x3 z1 x4 = some v := h
    have k0 : ∀ (z1 : Int64) (x4 : Int), v = .inl (z1, x4) → Go X 27 (wC g ad o) [(0, .ref (ad 1)), (1, .long z1), (3, iv x3), (4, iv x4)] [] := fun z1 x4 e => kk (z1, x4) e
    have k1 : ∀ (z1 : Int64), v = .inr (z1) → Go X 59 (wC g ad o) [(0, .ref (ad 1)), (1, .long z1), (3, iv x3)] [] := fun z1 e => k1 z1 (kx _ e).symm
    unfold l_X8_hash_27 at h
    refine g_iload E gdX8_hash_27 3 rfl ?_
    refine g_aload_n E gdX8_hash_29 rfl 0 rfl ?_
    refine g_get (T := TX8) E fw_X8 1 (wC_1 g ad o) rfl 2 (by decide) w_128 rfl rfl gdX8_hash_30 ?_
    refine g_iload_n E gdX8_hash_33 rfl 2 rfl ?_
    obtain ⟨hi1, h⟩ := qIn_of h
    refine g_iald E 2 (wC_2 g ad o) (by decide) hi1 gdX8_hash_34 ?_
    obtain ⟨n2, e_n2, h⟩ := qNm_of h
    refine g_nmi e_n2 ?_
    refine g_icmp_ge E 59 gdX8_hash_35 (by decide) h (fun h => ?_) (fun h => ?_)
    ·
      refine g_sub E [0, 1, 2] rfl ?_
      exact k1 z1 (Option.some.inj h).symm
    ·
      refine g_ldc2 E gdX8_hash_38 w_1459 ?_
      refine g_lload_n E gdX8_hash_41 rfl 1 rfl ?_
      refine g_lmul E gdX8_hash_42 ?_
      refine g_aload_n E gdX8_hash_43 rfl 0 rfl ?_
      refine g_iload_n E gdX8_hash_44 rfl 2 rfl ?_
      refine g_iload E gdX8_hash_45 3 rfl ?_
      obtain ⟨r3, hc4, h⟩ := qB_of h
      refine g_Vi (r := r3) (As := [iv x3, iv x4]) (rest := [.long ((31 : Int64) * z1)]) (w := wC g ad o) E (c_X8_at l g ad o x3 x4 r3 hc4) okm_X8_at okw_X8_at w_799 rfl (wC_1 g ad o) rfl rfl (Nat.le_of_ble_eq_true rfl) ⟨Nat.le_of_ble_eq_true rfl, Nat.le_of_ble_eq_true rfl⟩ gdX8_hash_47 ?_
      refine g_i2l E gdX8_hash_50 ?_
      refine g_ladd E gdX8_hash_51 ?_
      obtain ⟨m5, e_m5, h⟩ := qNm_of h
      refine g_nml e_m5 ?_
      refine g_lstore_n E [(1, .long m5), (0, .ref (ad 1)), (3, iv x3), (4, iv x4)] gdX8_hash_52 rfl (by decide) rfl ?_
      refine g_iinc E [(4, iv (x4 + 1)), (1, .long m5), (0, .ref (ad 1)), (3, iv x3)] gdX8_hash_53 3 rfl (by decide) rfl ?_
      refine g_goto E 27 gdX8_hash_56 (by decide) ?_
      refine g_sub E [2, 1, 3, 0] rfl ?_
      exact k0 m5 (x4 + 1) (Option.some.inj h).symm
  have j27 : ∀ (z1 : Int64) (x3 : Int) (x4 : Int) (v : (Int64 × Int) ⊕ ((Int64))), e_X8_hash_27 o z1 x3 x4 = some v → (∀ (z1 : Int64) (x3 : Int), v = .inl (z1, x3) → Go X 2 (wC g ad o) [(0, .ref (ad 1)), (1, .long z1), (3, iv x3)] []) → (∀ (z1 : Int64), v = .inr (z1) → Go X 65 (wC g ad o) [(1, .long z1)] []) → Go X 27 (wC g ad o) [(0, .ref (ad 1)), (1, .long z1), (3, iv x3), (4, iv x4)] [] := by
    intro z1 x3 x4 v h k0 k1
    unfold e_X8_hash_27 at h
    obtain ⟨r, hr, h⟩ := qB_of h
    refine l27 x3 r _ hr ?_
    ·
      intro u0 e
      have e := e.symm
      subst e
      have h : b_X8_hash_59 o u0 x3 = some v := h
      exact j59 u0 x3 v h k0 k1
  have l2 : ∀  (r : (Int64)) (s0 : Int64 × Int), loopW (fun s => l_X8_hash_2 o s.1 s.2) s0 = some r → (∀ (z1 : Int64), r = (z1) → Go X 65 (wC g ad o) [(1, .long z1)] []) → Go X 2 (wC g ad o) [(0, .ref (ad 1)), (1, .long s0.1), (3, iv s0.2)] [] := by
    intro r s0 h k1
    refine loop_rule (Head := fun s0 => Go X 2 (wC g ad o) [(0, .ref (ad 1)), (1, .long s0.1), (3, iv s0.2)] []) h ?_
    intro s v h kk kx
    obtain ⟨z1, x3⟩ := s
    have h : l_X8_hash_2 o z1 x3 = some v := h
    have k0 : ∀ (z1 : Int64) (x3 : Int), v = .inl (z1, x3) → Go X 2 (wC g ad o) [(0, .ref (ad 1)), (1, .long z1), (3, iv x3)] [] := fun z1 x3 e => kk (z1, x3) e
    have k1 : ∀ (z1 : Int64), v = .inr (z1) → Go X 65 (wC g ad o) [(1, .long z1)] [] := fun z1 e => k1 z1 (kx _ e).symm
    unfold l_X8_hash_2 at h
    refine g_iload_n E gdX8_hash_2 rfl 2 rfl ?_
    refine g_aload_n E gdX8_hash_3 rfl 0 rfl ?_
    refine g_get (T := TX8) E fw_X8 1 (wC_1 g ad o) rfl 0 (by decide) w_126 rfl rfl gdX8_hash_4 ?_
    refine g_icmp_ge E 65 gdX8_hash_7 (by decide) h (fun h => ?_) (fun h => ?_)
    ·
      refine g_sub E [1] rfl ?_
      exact k1 z1 (Option.some.inj h).symm
    ·
      refine g_ldc2 E gdX8_hash_10 w_1459 ?_
      refine g_lload_n E gdX8_hash_13 rfl 1 rfl ?_
      refine g_lmul E gdX8_hash_14 ?_
      refine g_aload_n E gdX8_hash_15 rfl 0 rfl ?_
      refine g_get (T := TX8) E fw_X8 1 (wC_1 g ad o) rfl 2 (by decide) w_128 rfl rfl gdX8_hash_16 ?_
      refine g_iload_n E gdX8_hash_19 rfl 2 rfl ?_
      obtain ⟨hi6, h⟩ := qIn_of h
      refine g_iald E 2 (wC_2 g ad o) (by decide) hi6 gdX8_hash_20 ?_
      obtain ⟨n7, e_n7, h⟩ := qNm_of h
      refine g_nmi e_n7 ?_
      refine g_i2l E gdX8_hash_21 ?_
      refine g_ladd E gdX8_hash_22 ?_
      obtain ⟨m8, e_m8, h⟩ := qNm_of h
      refine g_nml e_m8 ?_
      refine g_lstore_n E [(1, .long m8), (0, .ref (ad 1)), (3, iv x3)] gdX8_hash_23 rfl (by decide) rfl ?_
      refine g_iconst E gdX8_hash_24 ?_
      refine g_istore E [(4, iv 0), (1, .long m8), (0, .ref (ad 1)), (3, iv x3)] gdX8_hash_25 (by decide) rfl ?_
      refine g_sub E [2, 1, 3, 0] rfl ?_
      exact j27 m8 x3 0 v h k0 k1
  have j2 : ∀ (z1 : Int64) (x3 : Int), e_X8_hash_2 o z1 x3 = some v → Go X 2 (wC g ad o) [(0, .ref (ad 1)), (1, .long z1), (3, iv x3)] [] := by
    intro z1 x3 h
    unfold e_X8_hash_2 at h
    obtain ⟨r, hr, h⟩ := qB_of h
    refine l2  r _ hr ?_
    ·
      intro u0 e
      have e := e.symm
      subst e
      have h : b_X8_hash_65 o u0 = some v := h
      exact j65 u0 h
  unfold s_X8_hash at h
  refine g_iconst E gdX8_hash_0 ?_
  refine g_istore_n E [(3, iv 0), (0, .ref (ad 1)), (1, .long z1)] gdX8_hash_1 rfl (by decide) rfl ?_
  refine g_sub E [1, 2, 0] rfl ?_
  exact j2 z1 0 h
set_option maxHeartbeats 4000000 in
set_option maxRecDepth 100000 in
theorem c_X8_at__4 (l : Launch) (g : GG) (ad : Nat → Nat) (o : OO) (x1 : Int) (x2 : Int) (v : Int) (h : s_X8_at__4 o x1 x2 = some v) : CI l g yX8_at cX8_at 3 (some .int) 0 0 (wC g ad o) [.ref (ad 4), iv x1, iv x2] v (wC g ad o) := by
  refine met_I (by decide) (Nat.le_of_ble_eq_true rfl) ?_
  intro X E hQ
  show Go X 0 (wC g ad o) [(0, .ref (ad 4)), (1, iv x1), (2, iv x2)] []
  unfold s_X8_at__4 at h
  refine g_aload_n E gdX8_at_0 rfl 0 rfl ?_
  refine g_get (T := TX8) E fw_X8 4 (wC_4 g ad o) rfl 3 (by decide) w_129 rfl rfl gdX8_at_1 ?_
  refine g_iload_n E gdX8_at_4 rfl 1 rfl ?_
  refine g_bipush E gdX8_at_5 (by decide) ?_
  refine g_imul E gdX8_at_7 ?_
  refine g_iload_n E gdX8_at_8 rfl 2 rfl ?_
  refine g_iadd E gdX8_at_9 ?_
  obtain ⟨hi1, h⟩ := qIn_of h
  refine g_iald E 6 (wC_6 g ad o) (by decide) hi1 gdX8_at_10 ?_
  obtain ⟨n2, e_n2, h⟩ := qNm_of h
  refine g_nmi e_n2 ?_
  exact g_iret E hQ (Option.some.inj h) rfl gdX8_at_11
