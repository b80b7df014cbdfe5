set_option maxRecDepth 200000 in
theorem w_1508 : Cond.fieldLink "CityRoadModel" 110 "CityRoadModel" "lived" "[J" ∈ tb := tb_mem 1508 (by decide +kernel) rfl
set_option maxRecDepth 200000 in
theorem w_1846 : Cond.code yX12_hasRoom cX12_hasRoom 2 (some .boolean) ∈ tb := tb_mem 1846 (by rfl) rfl
set_option maxRecDepth 200000 in
theorem w_1845 : Cond.instanceMethod yX12_hasRoom ∈ tb := tb_mem 1845 (by decide +kernel) rfl
set_option maxRecDepth 200000 in
theorem w_50 : Cond.selects "CityRoadModel" yX12_hasRoom yX12_hasRoom ∈ tb := tb_mem 50 (by decide +kernel) rfl
set_option maxRecDepth 200000 in
theorem w_1843 : Cond.methodLink "CityRoadModel" 293 yX12_hasRoom ∈ tb := tb_mem 1843 (by decide +kernel) rfl
set_option maxRecDepth 200000 in
theorem w_1936 : Cond.code yX12_isNear cX12_isNear 6 (some .boolean) ∈ tb := tb_mem 1936 (by rfl) rfl
set_option maxRecDepth 200000 in
theorem w_1935 : Cond.instanceMethod yX12_isNear ∈ tb := tb_mem 1935 (by decide +kernel) rfl
set_option maxRecDepth 200000 in
theorem w_64 : Cond.selects "CityRoadModel" yX12_isNear yX12_isNear ∈ tb := tb_mem 64 (by decide +kernel) rfl
set_option maxRecDepth 200000 in
theorem w_1933 : Cond.methodLink "CityRoadModel" 351 yX12_isNear ∈ tb := tb_mem 1933 (by decide +kernel) rfl
set_option maxRecDepth 200000 in
theorem w_1537 : Cond.fieldLink "CityRoadModel" 187 "CityRoadModel" "isBarred" "[Z" ∈ tb := tb_mem 1537 (by decide +kernel) rfl
set_option maxRecDepth 200000 in
theorem w_1540 : Cond.fieldLink "CityRoadModel" 196 "CityRoadModel" "cameFrom" "[I" ∈ tb := tb_mem 1540 (by decide +kernel) rfl
set_option maxRecDepth 200000 in
theorem w_1541 : Cond.fieldLink "CityRoadModel" 199 "CityRoadModel" "queue" "[I" ∈ tb := tb_mem 1541 (by decide +kernel) rfl
set_option maxRecDepth 200000 in
theorem w_1538 : Cond.fieldLink "CityRoadModel" 190 "CityRoadModel" "through" "[I" ∈ tb := tb_mem 1538 (by decide +kernel) rfl
set_option maxRecDepth 200000 in
theorem w_1539 : Cond.fieldLink "CityRoadModel" 193 "CityRoadModel" "along" "[I" ∈ tb := tb_mem 1539 (by decide +kernel) rfl
theorem gdX12_hasRoom_37 : decode cX12_hasRoom 37 = .ok (.ireturn, 1) := by decide +kernel
theorem gdX12_hasRoom_36 : decode cX12_hasRoom 36 = .ok (.iconst 0, 1) := by decide +kernel
theorem gdX12_hasRoom_0 : decode cX12_hasRoom 0 = .ok (.aload_n 0, 1) := by decide +kernel
theorem gdX12_hasRoom_1 : decode cX12_hasRoom 1 = .ok (.getfield 49, 3) := by decide +kernel
theorem gdX12_hasRoom_4 : decode cX12_hasRoom 4 = .ok (.iload_n 1, 1) := by decide +kernel
theorem gdX12_hasRoom_5 : decode cX12_hasRoom 5 = .ok (.iaload, 1) := by decide +kernel
theorem gdX12_hasRoom_6 : decode cX12_hasRoom 6 = .ok (.ifCond .ne 30, 3) := by decide +kernel
theorem gdX12_hasRoom_9 : decode cX12_hasRoom 9 = .ok (.aload_n 0, 1) := by decide +kernel
theorem gdX12_hasRoom_10 : decode cX12_hasRoom 10 = .ok (.getfield 55, 3) := by decide +kernel
theorem gdX12_hasRoom_13 : decode cX12_hasRoom 13 = .ok (.iload_n 1, 1) := by decide +kernel
theorem gdX12_hasRoom_14 : decode cX12_hasRoom 14 = .ok (.baload, 1) := by decide +kernel
theorem gdX12_hasRoom_15 : decode cX12_hasRoom 15 = .ok (.ifCond .ne 21, 3) := by decide +kernel
theorem gdX12_hasRoom_18 : decode cX12_hasRoom 18 = .ok (.aload_n 0, 1) := by decide +kernel
theorem gdX12_hasRoom_19 : decode cX12_hasRoom 19 = .ok (.iload_n 1, 1) := by decide +kernel
theorem gdX12_hasRoom_20 : decode cX12_hasRoom 20 = .ok (.invokevirtual 284, 3) := by decide +kernel
theorem gdX12_hasRoom_23 : decode cX12_hasRoom 23 = .ok (.aload_n 0, 1) := by decide +kernel
theorem gdX12_hasRoom_24 : decode cX12_hasRoom 24 = .ok (.getfield 52, 3) := by decide +kernel
theorem gdX12_hasRoom_27 : decode cX12_hasRoom 27 = .ok (.iload_n 1, 1) := by decide +kernel
theorem gdX12_hasRoom_28 : decode cX12_hasRoom 28 = .ok (.iaload, 1) := by decide +kernel
theorem gdX12_hasRoom_29 : decode cX12_hasRoom 29 = .ok (.if_icmp .ge 7, 3) := by decide +kernel
theorem gdX12_hasRoom_32 : decode cX12_hasRoom 32 = .ok (.iconst 1, 1) := by decide +kernel
theorem gdX12_hasRoom_33 : decode cX12_hasRoom 33 = .ok (.goto 4, 3) := by decide +kernel
theorem gdX12_moved_24 : decode cX12_moved 24 = .ok (.iconst (-1), 1) := by decide +kernel
theorem gdX12_moved_25 : decode cX12_moved 25 = .ok (.ireturn, 1) := by decide +kernel
theorem gdX12_moved_84 : decode cX12_moved 84 = .ok (.bipush (-4), 2) := by decide +kernel
theorem gdX12_moved_86 : decode cX12_moved 86 = .ok (.ireturn, 1) := by decide +kernel
theorem gdX12_moved_0 : decode cX12_moved 0 = .ok (.aload_n 0, 1) := by decide +kernel
theorem gdX12_moved_1 : decode cX12_moved 1 = .ok (.iload_n 1, 1) := by decide +kernel
theorem gdX12_moved_2 : decode cX12_moved 2 = .ok (.invokevirtual 308, 3) := by decide +kernel
theorem gdX12_moved_5 : decode cX12_moved 5 = .ok (.ifCond .eq 19, 3) := by decide +kernel
theorem gdX12_moved_8 : decode cX12_moved 8 = .ok (.aload_n 0, 1) := by decide +kernel
theorem gdX12_moved_9 : decode cX12_moved 9 = .ok (.iload_n 2, 1) := by decide +kernel
theorem gdX12_moved_10 : decode cX12_moved 10 = .ok (.invokevirtual 296, 3) := by decide +kernel
theorem gdX12_moved_13 : decode cX12_moved 13 = .ok (.ifCond .eq 11, 3) := by decide +kernel
theorem gdX12_moved_16 : decode cX12_moved 16 = .ok (.aload_n 0, 1) := by decide +kernel
theorem gdX12_moved_17 : decode cX12_moved 17 = .ok (.iload_n 3, 1) := by decide +kernel
theorem gdX12_moved_18 : decode cX12_moved 18 = .ok (.invokevirtual 274, 3) := by decide +kernel
theorem gdX12_moved_21 : decode cX12_moved 21 = .ok (.ifCond .ne 5, 3) := by decide +kernel
theorem gdX12_moved_26 : decode cX12_moved 26 = .ok (.aload_n 0, 1) := by decide +kernel
theorem gdX12_moved_27 : decode cX12_moved 27 = .ok (.getfield 305, 3) := by decide +kernel
theorem gdX12_moved_30 : decode cX12_moved 30 = .ok (.bipush 24, 2) := by decide +kernel
theorem gdX12_moved_32 : decode cX12_moved 32 = .ok (.if_icmp .ne 6, 3) := by decide +kernel
theorem gdX12_moved_38 : decode cX12_moved 38 = .ok (.aload_n 0, 1) := by decide +kernel
theorem gdX12_moved_39 : decode cX12_moved 39 = .ok (.getfield 83, 3) := by decide +kernel
theorem gdX12_moved_42 : decode cX12_moved 42 = .ok (.iload_n 1, 1) := by decide +kernel
theorem gdX12_moved_43 : decode cX12_moved 43 = .ok (.iaload, 1) := by decide +kernel
theorem gdX12_moved_44 : decode cX12_moved 44 = .ok (.iconst 3, 1) := by decide +kernel
theorem gdX12_moved_45 : decode cX12_moved 45 = .ok (.if_icmp .eq 9, 3) := by decide +kernel
theorem gdX12_moved_54 : decode cX12_moved 54 = .ok (.aload_n 0, 1) := by decide +kernel
theorem gdX12_moved_55 : decode cX12_moved 55 = .ok (.getfield 110, 3) := by decide +kernel
theorem gdX12_moved_58 : decode cX12_moved 58 = .ok (.iload_n 1, 1) := by decide +kernel
theorem gdX12_moved_59 : decode cX12_moved 59 = .ok (.laload, 1) := by decide +kernel
theorem gdX12_moved_60 : decode cX12_moved 60 = .ok (.iload_n 2, 1) := by decide +kernel
theorem gdX12_moved_61 : decode cX12_moved 61 = .ok (.invokestatic 344, 3) := by decide +kernel
theorem gdX12_moved_64 : decode cX12_moved 64 = .ok (.ifCond .eq 20, 3) := by decide +kernel
theorem gdX12_moved_67 : decode cX12_moved 67 = .ok (.aload_n 0, 1) := by decide +kernel
theorem gdX12_moved_68 : decode cX12_moved 68 = .ok (.getfield 71, 3) := by decide +kernel
theorem gdX12_moved_71 : decode cX12_moved 71 = .ok (.iload_n 2, 1) := by decide +kernel
theorem gdX12_moved_72 : decode cX12_moved 72 = .ok (.iaload, 1) := by decide +kernel
theorem gdX12_moved_73 : decode cX12_moved 73 = .ok (.ifCond .ge 11, 3) := by decide +kernel
theorem gdX12_moved_76 : decode cX12_moved 76 = .ok (.aload_n 0, 1) := by decide +kernel
theorem gdX12_moved_77 : decode cX12_moved 77 = .ok (.iload_n 3, 1) := by decide +kernel
theorem gdX12_moved_78 : decode cX12_moved 78 = .ok (.invokevirtual 293, 3) := by decide +kernel
theorem gdX12_moved_81 : decode cX12_moved 81 = .ok (.ifCond .ne 6, 3) := by decide +kernel
theorem gdX12_moved_87 : decode cX12_moved 87 = .ok (.aload_n 0, 1) := by decide +kernel
theorem gdX12_moved_88 : decode cX12_moved 88 = .ok (.iconst 4, 1) := by decide +kernel
theorem gdX12_moved_89 : decode cX12_moved 89 = .ok (.iload_n 1, 1) := by decide +kernel
theorem gdX12_moved_90 : decode cX12_moved 90 = .ok (.invokevirtual 334, 3) := by decide +kernel
theorem gdX12_moved_93 : decode cX12_moved 93 = .ok (.istore 4, 2) := by decide +kernel
theorem gdX12_moved_95 : decode cX12_moved 95 = .ok (.aload_n 0, 1) := by decide +kernel
theorem gdX12_moved_96 : decode cX12_moved 96 = .ok (.getfield 104, 3) := by decide +kernel
theorem gdX12_moved_99 : decode cX12_moved 99 = .ok (.iload 4, 2) := by decide +kernel
theorem gdX12_moved_101 : decode cX12_moved 101 = .ok (.aload_n 0, 1) := by decide +kernel
theorem gdX12_moved_102 : decode cX12_moved 102 = .ok (.iconst 3, 1) := by decide +kernel
theorem gdX12_moved_103 : decode cX12_moved 103 = .ok (.invokevirtual 328, 3) := by decide +kernel
theorem gdX12_moved_106 : decode cX12_moved 106 = .ok (.iastore, 1) := by decide +kernel
theorem gdX12_moved_107 : decode cX12_moved 107 = .ok (.aload_n 0, 1) := by decide +kernel
theorem gdX12_moved_108 : decode cX12_moved 108 = .ok (.getfield 107, 3) := by decide +kernel
theorem gdX12_moved_111 : decode cX12_moved 111 = .ok (.iload 4, 2) := by decide +kernel
theorem gdX12_moved_113 : decode cX12_moved 113 = .ok (.iload_n 2, 1) := by decide +kernel
theorem gdX12_moved_114 : decode cX12_moved 114 = .ok (.iastore, 1) := by decide +kernel
theorem gdX12_moved_115 : decode cX12_moved 115 = .ok (.aload_n 0, 1) := by decide +kernel
theorem gdX12_moved_116 : decode cX12_moved 116 = .ok (.getfield 71, 3) := by decide +kernel
theorem gdX12_moved_119 : decode cX12_moved 119 = .ok (.iload_n 2, 1) := by decide +kernel
theorem gdX12_moved_120 : decode cX12_moved 120 = .ok (.iload_n 3, 1) := by decide +kernel
theorem gdX12_moved_121 : decode cX12_moved 121 = .ok (.iastore, 1) := by decide +kernel
theorem gdX12_moved_122 : decode cX12_moved 122 = .ok (.aload_n 0, 1) := by decide +kernel
theorem gdX12_moved_123 : decode cX12_moved 123 = .ok (.aload_n 0, 1) := by decide +kernel
theorem gdX12_moved_124 : decode cX12_moved 124 = .ok (.getfield 104, 3) := by decide +kernel
theorem gdX12_moved_127 : decode cX12_moved 127 = .ok (.iload 4, 2) := by decide +kernel
theorem gdX12_moved_129 : decode cX12_moved 129 = .ok (.iaload, 1) := by decide +kernel
theorem gdX12_moved_130 : decode cX12_moved 130 = .ok (.iload 4, 2) := by decide +kernel
theorem gdX12_moved_132 : decode cX12_moved 132 = .ok (.invokevirtual 290, 3) := by decide +kernel
theorem gdX12_moved_135 : decode cX12_moved 135 = .ok (.ireturn, 1) := by decide +kernel
theorem gdX12_moved_48 : decode cX12_moved 48 = .ok (.aload_n 0, 1) := by decide +kernel
theorem gdX12_moved_49 : decode cX12_moved 49 = .ok (.iconst 3, 1) := by decide +kernel
theorem gdX12_moved_50 : decode cX12_moved 50 = .ok (.invokevirtual 216, 3) := by decide +kernel
theorem gdX12_moved_53 : decode cX12_moved 53 = .ok (.ireturn, 1) := by decide +kernel
theorem gdX12_moved_35 : decode cX12_moved 35 = .ok (.bipush (-2), 2) := by decide +kernel
theorem gdX12_moved_37 : decode cX12_moved 37 = .ok (.ireturn, 1) := by decide +kernel
theorem gdX12_noise_15 : decode cX12_noise 15 = .ok (.iconst (-1), 1) := by decide +kernel
theorem gdX12_noise_16 : decode cX12_noise 16 = .ok (.ireturn, 1) := by decide +kernel
theorem gdX12_noise_66 : decode cX12_noise 66 = .ok (.ireturn, 1) := by decide +kernel
theorem gdX12_noise_0 : decode cX12_noise 0 = .ok (.aload_n 0, 1) := by decide +kernel
theorem gdX12_noise_1 : decode cX12_noise 1 = .ok (.iload_n 1, 1) := by decide +kernel
theorem gdX12_noise_2 : decode cX12_noise 2 = .ok (.invokevirtual 308, 3) := by decide +kernel
theorem gdX12_noise_5 : decode cX12_noise 5 = .ok (.ifCond .eq 10, 3) := by decide +kernel
theorem gdX12_noise_8 : decode cX12_noise 8 = .ok (.iload_n 2, 1) := by decide +kernel
theorem gdX12_noise_9 : decode cX12_noise 9 = .ok (.invokestatic 212, 3) := by decide +kernel
theorem gdX12_noise_12 : decode cX12_noise 12 = .ok (.ifCond .ne 5, 3) := by decide +kernel
theorem gdX12_noise_17 : decode cX12_noise 17 = .ok (.aload_n 0, 1) := by decide +kernel
theorem gdX12_noise_18 : decode cX12_noise 18 = .ok (.iload_n 1, 1) := by decide +kernel
theorem gdX12_noise_19 : decode cX12_noise 19 = .ok (.invokevirtual 311, 3) := by decide +kernel
theorem gdX12_noise_22 : decode cX12_noise 22 = .ok (.ifCond .ne 9, 3) := by decide +kernel
theorem gdX12_noise_31 : decode cX12_noise 31 = .ok (.aload_n 0, 1) := by decide +kernel
theorem gdX12_noise_32 : decode cX12_noise 32 = .ok (.getfield 13, 3) := by decide +kernel
theorem gdX12_noise_35 : decode cX12_noise 35 = .ok (.iload_n 2, 1) := by decide +kernel
theorem gdX12_noise_36 : decode cX12_noise 36 = .ok (.iaload, 1) := by decide +kernel
theorem gdX12_noise_37 : decode cX12_noise 37 = .ok (.ifCond .ge 11, 3) := by decide +kernel
theorem gdX12_noise_48 : decode cX12_noise 48 = .ok (.aload_n 0, 1) := by decide +kernel
theorem gdX12_noise_49 : decode cX12_noise 49 = .ok (.aload_n 0, 1) := by decide +kernel
theorem gdX12_noise_50 : decode cX12_noise 50 = .ok (.iload_n 1, 1) := by decide +kernel
theorem gdX12_noise_51 : decode cX12_noise 51 = .ok (.iload_n 2, 1) := by decide +kernel
theorem gdX12_noise_52 : decode cX12_noise 52 = .ok (.iconst 1, 1) := by decide +kernel
theorem gdX12_noise_53 : decode cX12_noise 53 = .ok (.invokevirtual 400, 3) := by decide +kernel
theorem gdX12_noise_56 : decode cX12_noise 56 = .ok (.aload_n 0, 1) := by decide +kernel
theorem gdX12_noise_57 : decode cX12_noise 57 = .ok (.iload_n 1, 1) := by decide +kernel
theorem gdX12_noise_58 : decode cX12_noise 58 = .ok (.iload_n 2, 1) := by decide +kernel
theorem gdX12_noise_59 : decode cX12_noise 59 = .ok (.iconst 0, 1) := by decide +kernel
theorem gdX12_noise_60 : decode cX12_noise 60 = .ok (.invokevirtual 400, 3) := by decide +kernel
theorem gdX12_noise_63 : decode cX12_noise 63 = .ok (.invokevirtual 290, 3) := by decide +kernel
theorem gdX12_noise_40 : decode cX12_noise 40 = .ok (.aload_n 0, 1) := by decide +kernel
theorem gdX12_noise_41 : decode cX12_noise 41 = .ok (.iconst 1, 1) := by decide +kernel
theorem gdX12_noise_42 : decode cX12_noise 42 = .ok (.invokevirtual 216, 3) := by decide +kernel
theorem gdX12_noise_45 : decode cX12_noise 45 = .ok (.goto 21, 3) := by decide +kernel
theorem gdX12_noise_25 : decode cX12_noise 25 = .ok (.aload_n 0, 1) := by decide +kernel
theorem gdX12_noise_26 : decode cX12_noise 26 = .ok (.iconst 3, 1) := by decide +kernel
theorem gdX12_noise_27 : decode cX12_noise 27 = .ok (.invokevirtual 216, 3) := by decide +kernel
theorem gdX12_noise_30 : decode cX12_noise 30 = .ok (.ireturn, 1) := by decide +kernel
theorem gdX12_over_0 : decode cX12_over 0 = .ok (.aload_n 0, 1) := by decide +kernel
theorem gdX12_over_1 : decode cX12_over 1 = .ok (.iload_n 1, 1) := by decide +kernel
theorem gdX12_over_2 : decode cX12_over 2 = .ok (.invokevirtual 348, 3) := by decide +kernel
theorem gdX12_over_5 : decode cX12_over 5 = .ok (.istore_n 2, 1) := by decide +kernel
theorem gdX12_over_6 : decode cX12_over 6 = .ok (.iload_n 2, 1) := by decide +kernel
theorem gdX12_over_7 : decode cX12_over 7 = .ok (.ifCond .ge 5, 3) := by decide +kernel
theorem gdX12_over_12 : decode cX12_over 12 = .ok (.aload_n 0, 1) := by decide +kernel
theorem gdX12_over_13 : decode cX12_over 13 = .ok (.aload_n 0, 1) := by decide +kernel
theorem gdX12_over_14 : decode cX12_over 14 = .ok (.iload_n 1, 1) := by decide +kernel
theorem gdX12_over_15 : decode cX12_over 15 = .ok (.invokevirtual 340, 3) := by decide +kernel
theorem gdX12_over_18 : decode cX12_over 18 = .ok (.putfield 364, 3) := by decide +kernel
theorem gdX12_over_21 : decode cX12_over 21 = .ok (.aload_n 0, 1) := by decide +kernel
theorem gdX12_over_22 : decode cX12_over 22 = .ok (.getfield 98, 3) := by decide +kernel
theorem gdX12_over_25 : decode cX12_over 25 = .ok (.iload_n 1, 1) := by decide +kernel
theorem gdX12_over_26 : decode cX12_over 26 = .ok (.iaload, 1) := by decide +kernel
theorem gdX12_over_27 : decode cX12_over 27 = .ok (.ireturn, 1) := by decide +kernel
theorem gdX12_over_10 : decode cX12_over 10 = .ok (.iload_n 2, 1) := by decide +kernel
theorem gdX12_over_11 : decode cX12_over 11 = .ok (.ireturn, 1) := by decide +kernel
theorem gdX12_owed_89 : decode cX12_owed 89 = .ok (.iload_n 1, 1) := by decide +kernel
theorem gdX12_owed_90 : decode cX12_owed 90 = .ok (.ireturn, 1) := by decide +kernel
theorem gdX12_owed_81 : decode cX12_owed 81 = .ok (.iadd, 1) := by decide +kernel
theorem gdX12_owed_82 : decode cX12_owed 82 = .ok (.istore_n 1, 1) := by decide +kernel
theorem gdX12_owed_83 : decode cX12_owed 83 = .ok (.iinc 2 1, 3) := by decide +kernel
theorem gdX12_owed_86 : decode cX12_owed 86 = .ok (.goto (-77), 3) := by decide +kernel
theorem gdX12_owed_80 : decode cX12_owed 80 = .ok (.iconst 0, 1) := by decide +kernel
theorem gdX12_owed_53 : decode cX12_owed 53 = .ok (.ladd, 1) := by decide +kernel
theorem gdX12_owed_54 : decode cX12_owed 54 = .ok (.putfield 413, 3) := by decide +kernel
theorem gdX12_owed_57 : decode cX12_owed 57 = .ok (.iload_n 1, 1) := by decide +kernel
theorem gdX12_owed_58 : decode cX12_owed 58 = .ok (.aload_n 0, 1) := by decide +kernel
theorem gdX12_owed_59 : decode cX12_owed 59 = .ok (.getfield 83, 3) := by decide +kernel
theorem gdX12_owed_62 : decode cX12_owed 62 = .ok (.iload_n 2, 1) := by decide +kernel
theorem gdX12_owed_63 : decode cX12_owed 63 = .ok (.iaload, 1) := by decide +kernel
theorem gdX12_owed_64 : decode cX12_owed 64 = .ok (.iconst 3, 1) := by decide +kernel
theorem gdX12_owed_65 : decode cX12_owed 65 = .ok (.if_icmp .ne 15, 3) := by decide +kernel
theorem gdX12_owed_68 : decode cX12_owed 68 = .ok (.aload_n 0, 1) := by decide +kernel
theorem gdX12_owed_69 : decode cX12_owed 69 = .ok (.iload_n 2, 1) := by decide +kernel
theorem gdX12_owed_70 : decode cX12_owed 70 = .ok (.invokevirtual 410, 3) := by decide +kernel
theorem gdX12_owed_73 : decode cX12_owed 73 = .ok (.ifCond .eq 7, 3) := by decide +kernel
theorem gdX12_owed_76 : decode cX12_owed 76 = .ok (.iconst 1, 1) := by decide +kernel
theorem gdX12_owed_77 : decode cX12_owed 77 = .ok (.goto 4, 3) := by decide +kernel
theorem gdX12_owed_42 : decode cX12_owed 42 = .ok (.aload_n 0, 1) := by decide +kernel
theorem gdX12_owed_43 : decode cX12_owed 43 = .ok (.getfield 104, 3) := by decide +kernel
theorem gdX12_owed_46 : decode cX12_owed 46 = .ok (.iload_n 2, 1) := by decide +kernel
theorem gdX12_owed_47 : decode cX12_owed 47 = .ok (.iaload, 1) := by decide +kernel
theorem gdX12_owed_48 : decode cX12_owed 48 = .ok (.i2l, 1) := by decide +kernel
theorem gdX12_owed_49 : decode cX12_owed 49 = .ok (.goto 4, 3) := by decide +kernel
theorem gdX12_owed_9 : decode cX12_owed 9 = .ok (.iload_n 2, 1) := by decide +kernel
theorem gdX12_owed_10 : decode cX12_owed 10 = .ok (.aload_n 0, 1) := by decide +kernel
theorem gdX12_owed_11 : decode cX12_owed 11 = .ok (.getfield 305, 3) := by decide +kernel
theorem gdX12_owed_14 : decode cX12_owed 14 = .ok (.if_icmp .ge 75, 3) := by decide +kernel
theorem gdX12_owed_17 : decode cX12_owed 17 = .ok (.aload_n 0, 1) := by decide +kernel
theorem gdX12_owed_18 : decode cX12_owed 18 = .ok (.dup, 1) := by decide +kernel
theorem gdX12_owed_19 : decode cX12_owed 19 = .ok (.getfield 413, 3) := by decide +kernel
theorem gdX12_owed_22 : decode cX12_owed 22 = .ok (.aload_n 0, 1) := by decide +kernel
theorem gdX12_owed_23 : decode cX12_owed 23 = .ok (.getfield 83, 3) := by decide +kernel
theorem gdX12_owed_26 : decode cX12_owed 26 = .ok (.iload_n 2, 1) := by decide +kernel
theorem gdX12_owed_27 : decode cX12_owed 27 = .ok (.iaload, 1) := by decide +kernel
theorem gdX12_owed_28 : decode cX12_owed 28 = .ok (.iconst 3, 1) := by decide +kernel
theorem gdX12_owed_29 : decode cX12_owed 29 = .ok (.if_icmp .eq 13, 3) := by decide +kernel
theorem gdX12_owed_32 : decode cX12_owed 32 = .ok (.aload_n 0, 1) := by decide +kernel
theorem gdX12_owed_33 : decode cX12_owed 33 = .ok (.getfield 83, 3) := by decide +kernel
theorem gdX12_owed_36 : decode cX12_owed 36 = .ok (.iload_n 2, 1) := by decide +kernel
theorem gdX12_owed_37 : decode cX12_owed 37 = .ok (.iaload, 1) := by decide +kernel
theorem gdX12_owed_38 : decode cX12_owed 38 = .ok (.iconst 4, 1) := by decide +kernel
theorem gdX12_owed_39 : decode cX12_owed 39 = .ok (.if_icmp .ne 13, 3) := by decide +kernel
theorem gdX12_owed_52 : decode cX12_owed 52 = .ok (.lconst 0, 1) := by decide +kernel
theorem gdX12_owed_0 : decode cX12_owed 0 = .ok (.iconst 0, 1) := by decide +kernel
theorem gdX12_owed_1 : decode cX12_owed 1 = .ok (.istore_n 1, 1) := by decide +kernel
theorem gdX12_owed_2 : decode cX12_owed 2 = .ok (.aload_n 0, 1) := by decide +kernel
theorem gdX12_owed_3 : decode cX12_owed 3 = .ok (.lconst 0, 1) := by decide +kernel
theorem gdX12_owed_4 : decode cX12_owed 4 = .ok (.putfield 413, 3) := by decide +kernel
theorem gdX12_owed_7 : decode cX12_owed 7 = .ok (.iconst 0, 1) := by decide +kernel
theorem gdX12_owed_8 : decode cX12_owed 8 = .ok (.istore_n 2, 1) := by decide +kernel
theorem gdX12_park_42 : decode cX12_park 42 = .ok (.ireturn, 1) := by decide +kernel
theorem gdX12_park_39 : decode cX12_park 39 = .ok (.invokevirtual 290, 3) := by decide +kernel
theorem gdX12_park_0 : decode cX12_park 0 = .ok (.aload_n 0, 1) := by decide +kernel
theorem gdX12_park_1 : decode cX12_park 1 = .ok (.iload_n 1, 1) := by decide +kernel
theorem gdX12_park_2 : decode cX12_park 2 = .ok (.invokevirtual 348, 3) := by decide +kernel
theorem gdX12_park_5 : decode cX12_park 5 = .ok (.istore_n 2, 1) := by decide +kernel
theorem gdX12_park_6 : decode cX12_park 6 = .ok (.iload_n 2, 1) := by decide +kernel
theorem gdX12_park_7 : decode cX12_park 7 = .ok (.ifCond .ge 7, 3) := by decide +kernel
theorem gdX12_park_14 : decode cX12_park 14 = .ok (.aload_n 0, 1) := by decide +kernel
theorem gdX12_park_15 : decode cX12_park 15 = .ok (.aload_n 0, 1) := by decide +kernel
theorem gdX12_park_16 : decode cX12_park 16 = .ok (.iload_n 1, 1) := by decide +kernel
theorem gdX12_park_17 : decode cX12_park 17 = .ok (.invokevirtual 404, 3) := by decide +kernel
theorem gdX12_park_20 : decode cX12_park 20 = .ok (.aload_n 0, 1) := by decide +kernel
theorem gdX12_park_21 : decode cX12_park 21 = .ok (.iload_n 1, 1) := by decide +kernel
theorem gdX12_park_22 : decode cX12_park 22 = .ok (.invokevirtual 404, 3) := by decide +kernel
theorem gdX12_park_25 : decode cX12_park 25 = .ok (.aload_n 0, 1) := by decide +kernel
theorem gdX12_park_26 : decode cX12_park 26 = .ok (.bipush 6, 2) := by decide +kernel
theorem gdX12_park_28 : decode cX12_park 28 = .ok (.invokevirtual 328, 3) := by decide +kernel
theorem gdX12_park_31 : decode cX12_park 31 = .ok (.if_icmp .gt 7, 3) := by decide +kernel
theorem gdX12_park_38 : decode cX12_park 38 = .ok (.iconst 0, 1) := by decide +kernel
theorem gdX12_park_34 : decode cX12_park 34 = .ok (.iconst 1, 1) := by decide +kernel
theorem gdX12_park_35 : decode cX12_park 35 = .ok (.goto 4, 3) := by decide +kernel
theorem gdX12_park_10 : decode cX12_park 10 = .ok (.iload_n 2, 1) := by decide +kernel
theorem gdX12_park_11 : decode cX12_park 11 = .ok (.goto 31, 3) := by decide +kernel
theorem gdX12_person_38 : decode cX12_person 38 = .ok (.iconst (-1), 1) := by decide +kernel
theorem gdX12_person_39 : decode cX12_person 39 = .ok (.ireturn, 1) := by decide +kernel
theorem gdX12_person_69 : decode cX12_person 69 = .ok (.aload_n 0, 1) := by decide +kernel
theorem gdX12_person_70 : decode cX12_person 70 = .ok (.getfield 71, 3) := by decide +kernel
theorem gdX12_person_73 : decode cX12_person 73 = .ok (.aload_n 0, 1) := by decide +kernel
theorem gdX12_person_74 : decode cX12_person 74 = .ok (.getfield 281, 3) := by decide +kernel
theorem gdX12_person_77 : decode cX12_person 77 = .ok (.iload_n 1, 1) := by decide +kernel
theorem gdX12_person_78 : decode cX12_person 78 = .ok (.iastore, 1) := by decide +kernel
theorem gdX12_person_79 : decode cX12_person 79 = .ok (.aload_n 0, 1) := by decide +kernel
theorem gdX12_person_80 : decode cX12_person 80 = .ok (.getfield 74, 3) := by decide +kernel
theorem gdX12_person_83 : decode cX12_person 83 = .ok (.aload_n 0, 1) := by decide +kernel
theorem gdX12_person_84 : decode cX12_person 84 = .ok (.getfield 281, 3) := by decide +kernel
theorem gdX12_person_87 : decode cX12_person 87 = .ok (.iload_n 2, 1) := by decide +kernel
theorem gdX12_person_88 : decode cX12_person 88 = .ok (.iastore, 1) := by decide +kernel
theorem gdX12_person_89 : decode cX12_person 89 = .ok (.aload_n 0, 1) := by decide +kernel
theorem gdX12_person_90 : decode cX12_person 90 = .ok (.getfield 77, 3) := by decide +kernel
theorem gdX12_person_93 : decode cX12_person 93 = .ok (.aload_n 0, 1) := by decide +kernel
theorem gdX12_person_94 : decode cX12_person 94 = .ok (.getfield 281, 3) := by decide +kernel
theorem gdX12_person_97 : decode cX12_person 97 = .ok (.iload_n 3, 1) := by decide +kernel
theorem gdX12_person_98 : decode cX12_person 98 = .ok (.bastore, 1) := by decide +kernel
theorem gdX12_person_99 : decode cX12_person 99 = .ok (.aload_n 0, 1) := by decide +kernel
theorem gdX12_person_100 : decode cX12_person 100 = .ok (.getfield 80, 3) := by decide +kernel
theorem gdX12_person_103 : decode cX12_person 103 = .ok (.aload_n 0, 1) := by decide +kernel
theorem gdX12_person_104 : decode cX12_person 104 = .ok (.getfield 281, 3) := by decide +kernel
theorem gdX12_person_107 : decode cX12_person 107 = .ok (.iload 4, 2) := by decide +kernel
theorem gdX12_person_109 : decode cX12_person 109 = .ok (.iastore, 1) := by decide +kernel
theorem gdX12_person_110 : decode cX12_person 110 = .ok (.aload_n 0, 1) := by decide +kernel
theorem gdX12_person_111 : decode cX12_person 111 = .ok (.dup, 1) := by decide +kernel
theorem gdX12_person_112 : decode cX12_person 112 = .ok (.getfield 281, 3) := by decide +kernel
theorem gdX12_person_115 : decode cX12_person 115 = .ok (.iconst 1, 1) := by decide +kernel
theorem gdX12_person_116 : decode cX12_person 116 = .ok (.iadd, 1) := by decide +kernel
theorem gdX12_person_117 : decode cX12_person 117 = .ok (.putfield 281, 3) := by decide +kernel
theorem gdX12_person_120 : decode cX12_person 120 = .ok (.aload_n 0, 1) := by decide +kernel
theorem gdX12_person_121 : decode cX12_person 121 = .ok (.getfield 281, 3) := by decide +kernel
theorem gdX12_person_124 : decode cX12_person 124 = .ok (.iconst 1, 1) := by decide +kernel
theorem gdX12_person_125 : decode cX12_person 125 = .ok (.isub, 1) := by decide +kernel
theorem gdX12_person_126 : decode cX12_person 126 = .ok (.ireturn, 1) := by decide +kernel
theorem gdX12_person_27 : decode cX12_person 27 = .ok (.iload 4, 2) := by decide +kernel
theorem gdX12_person_29 : decode cX12_person 29 = .ok (.iconst 0, 1) := by decide +kernel
theorem gdX12_person_30 : decode cX12_person 30 = .ok (.bipush 9, 2) := by decide +kernel
theorem gdX12_person_32 : decode cX12_person 32 = .ok (.invokestatic 208, 3) := by decide +kernel
theorem gdX12_person_35 : decode cX12_person 35 = .ok (.ifCond .ne 5, 3) := by decide +kernel
theorem gdX12_person_40 : decode cX12_person 40 = .ok (.aload_n 0, 1) := by decide +kernel
theorem gdX12_person_41 : decode cX12_person 41 = .ok (.getfield 281, 3) := by decide +kernel
theorem gdX12_person_44 : decode cX12_person 44 = .ok (.bipush 40, 2) := by decide +kernel
theorem gdX12_person_46 : decode cX12_person 46 = .ok (.if_icmp .ne 6, 3) := by decide +kernel
theorem gdX12_person_52 : decode cX12_person 52 = .ok (.iload_n 1, 1) := by decide +kernel
theorem gdX12_person_53 : decode cX12_person 53 = .ok (.bipush (-9), 2) := by decide +kernel
theorem gdX12_person_55 : decode cX12_person 55 = .ok (.if_icmp .eq 14, 3) := by decide +kernel
theorem gdX12_person_58 : decode cX12_person 58 = .ok (.aload_n 0, 1) := by decide +kernel
theorem gdX12_person_59 : decode cX12_person 59 = .ok (.iload_n 1, 1) := by decide +kernel
theorem gdX12_person_60 : decode cX12_person 60 = .ok (.invokevirtual 293, 3) := by decide +kernel
theorem gdX12_person_63 : decode cX12_person 63 = .ok (.ifCond .ne 6, 3) := by decide +kernel
theorem gdX12_person_66 : decode cX12_person 66 = .ok (.bipush (-4), 2) := by decide +kernel
theorem gdX12_person_68 : decode cX12_person 68 = .ok (.ireturn, 1) := by decide +kernel
theorem gdX12_person_49 : decode cX12_person 49 = .ok (.bipush (-2), 2) := by decide +kernel
theorem gdX12_person_51 : decode cX12_person 51 = .ok (.ireturn, 1) := by decide +kernel
theorem gdX12_person_14 : decode cX12_person 14 = .ok (.iload_n 2, 1) := by decide +kernel
theorem gdX12_person_15 : decode cX12_person 15 = .ok (.bipush (-9), 2) := by decide +kernel
theorem gdX12_person_17 : decode cX12_person 17 = .ok (.if_icmp .eq 10, 3) := by decide +kernel
theorem gdX12_person_20 : decode cX12_person 20 = .ok (.iload_n 2, 1) := by decide +kernel
theorem gdX12_person_21 : decode cX12_person 21 = .ok (.invokestatic 257, 3) := by decide +kernel
theorem gdX12_person_24 : decode cX12_person 24 = .ok (.ifCond .eq 14, 3) := by decide +kernel
theorem gdX12_person_0 : decode cX12_person 0 = .ok (.iload_n 1, 1) := by decide +kernel
theorem gdX12_person_1 : decode cX12_person 1 = .ok (.bipush (-9), 2) := by decide +kernel
theorem gdX12_person_3 : decode cX12_person 3 = .ok (.if_icmp .eq 11, 3) := by decide +kernel
theorem gdX12_person_6 : decode cX12_person 6 = .ok (.aload_n 0, 1) := by decide +kernel
theorem gdX12_person_7 : decode cX12_person 7 = .ok (.iload_n 1, 1) := by decide +kernel
theorem gdX12_person_8 : decode cX12_person 8 = .ok (.invokevirtual 274, 3) := by decide +kernel
theorem gdX12_person_11 : decode cX12_person 11 = .ok (.ifCond .eq 27, 3) := by decide +kernel
theorem gdX12_put_0 : decode cX12_put 0 = .ok (.aload_n 0, 1) := by decide +kernel
theorem gdX12_put_1 : decode cX12_put 1 = .ok (.iload_n 1, 1) := by decide +kernel
theorem gdX12_put_2 : decode cX12_put 2 = .ok (.invokevirtual 226, 3) := by decide +kernel
theorem gdX12_put_5 : decode cX12_put 5 = .ok (.istore 4, 2) := by decide +kernel
theorem gdX12_put_7 : decode cX12_put 7 = .ok (.iload 4, 2) := by decide +kernel
theorem gdX12_put_9 : decode cX12_put 9 = .ok (.ifCond .ge 6, 3) := by decide +kernel
theorem gdX12_put_15 : decode cX12_put 15 = .ok (.iload_n 2, 1) := by decide +kernel
theorem gdX12_put_16 : decode cX12_put 16 = .ok (.iconst 0, 1) := by decide +kernel
theorem gdX12_put_17 : decode cX12_put 17 = .ok (.aload_n 0, 1) := by decide +kernel
theorem gdX12_put_18 : decode cX12_put 18 = .ok (.getfield 22, 3) := by decide +kernel
theorem gdX12_put_21 : decode cX12_put 21 = .ok (.iload_n 1, 1) := by decide +kernel
theorem gdX12_put_22 : decode cX12_put 22 = .ok (.iaload, 1) := by decide +kernel
theorem gdX12_put_23 : decode cX12_put 23 = .ok (.iconst 1, 1) := by decide +kernel
theorem gdX12_put_24 : decode cX12_put 24 = .ok (.isub, 1) := by decide +kernel
theorem gdX12_put_25 : decode cX12_put 25 = .ok (.invokestatic 208, 3) := by decide +kernel
theorem gdX12_put_28 : decode cX12_put 28 = .ok (.ifCond .ne 9, 3) := by decide +kernel
theorem gdX12_put_37 : decode cX12_put 37 = .ok (.aload_n 0, 1) := by decide +kernel
theorem gdX12_put_38 : decode cX12_put 38 = .ok (.getfield 25, 3) := by decide +kernel
theorem gdX12_put_41 : decode cX12_put 41 = .ok (.bipush 40, 2) := by decide +kernel
theorem gdX12_put_43 : decode cX12_put 43 = .ok (.iload_n 1, 1) := by decide +kernel
theorem gdX12_put_44 : decode cX12_put 44 = .ok (.imul, 1) := by decide +kernel
theorem gdX12_put_45 : decode cX12_put 45 = .ok (.iload_n 2, 1) := by decide +kernel
theorem gdX12_put_46 : decode cX12_put 46 = .ok (.iadd, 1) := by decide +kernel
theorem gdX12_put_47 : decode cX12_put 47 = .ok (.iaload, 1) := by decide +kernel
theorem gdX12_put_48 : decode cX12_put 48 = .ok (.istore 5, 2) := by decide +kernel
theorem gdX12_put_50 : decode cX12_put 50 = .ok (.aload_n 0, 1) := by decide +kernel
theorem gdX12_put_51 : decode cX12_put 51 = .ok (.getfield 25, 3) := by decide +kernel
theorem gdX12_put_54 : decode cX12_put 54 = .ok (.bipush 40, 2) := by decide +kernel
theorem gdX12_put_56 : decode cX12_put 56 = .ok (.iload_n 1, 1) := by decide +kernel
theorem gdX12_put_57 : decode cX12_put 57 = .ok (.imul, 1) := by decide +kernel
theorem gdX12_put_58 : decode cX12_put 58 = .ok (.iload_n 2, 1) := by decide +kernel
theorem gdX12_put_59 : decode cX12_put 59 = .ok (.iadd, 1) := by decide +kernel
theorem gdX12_put_60 : decode cX12_put 60 = .ok (.iload_n 3, 1) := by decide +kernel
theorem gdX12_put_61 : decode cX12_put 61 = .ok (.i2b, 1) := by decide +kernel
theorem gdX12_put_62 : decode cX12_put 62 = .ok (.iastore, 1) := by decide +kernel
theorem gdX12_put_63 : decode cX12_put 63 = .ok (.iload 5, 2) := by decide +kernel
theorem gdX12_put_65 : decode cX12_put 65 = .ok (.sipush 1000, 3) := by decide +kernel
theorem gdX12_put_68 : decode cX12_put 68 = .ok (.iadd, 1) := by decide +kernel
theorem gdX12_put_69 : decode cX12_put 69 = .ok (.ireturn, 1) := by decide +kernel
theorem gdX12_put_31 : decode cX12_put 31 = .ok (.aload_n 0, 1) := by decide +kernel
theorem gdX12_put_32 : decode cX12_put 32 = .ok (.iconst 2, 1) := by decide +kernel
theorem gdX12_put_33 : decode cX12_put 33 = .ok (.invokevirtual 216, 3) := by decide +kernel
theorem gdX12_put_36 : decode cX12_put 36 = .ok (.ireturn, 1) := by decide +kernel
theorem gdX12_put_12 : decode cX12_put 12 = .ok (.iload 4, 2) := by decide +kernel
theorem gdX12_put_14 : decode cX12_put 14 = .ok (.ireturn, 1) := by decide +kernel
theorem gdX12_ramp_15 : decode cX12_ramp 15 = .ok (.iconst (-1), 1) := by decide +kernel
theorem gdX12_ramp_16 : decode cX12_ramp 16 = .ok (.ireturn, 1) := by decide +kernel
theorem gdX12_ramp_121 : decode cX12_ramp 121 = .ok (.bipush (-4), 2) := by decide +kernel
theorem gdX12_ramp_123 : decode cX12_ramp 123 = .ok (.ireturn, 1) := by decide +kernel
theorem gdX12_ramp_95 : decode cX12_ramp 95 = .ok (.aload_n 0, 1) := by decide +kernel
theorem gdX12_ramp_96 : decode cX12_ramp 96 = .ok (.getfield 40, 3) := by decide +kernel
theorem gdX12_ramp_99 : decode cX12_ramp 99 = .ok (.iload_n 2, 1) := by decide +kernel
theorem gdX12_ramp_100 : decode cX12_ramp 100 = .ok (.iaload, 1) := by decide +kernel
theorem gdX12_ramp_101 : decode cX12_ramp 101 = .ok (.iconst 4, 1) := by decide +kernel
theorem gdX12_ramp_102 : decode cX12_ramp 102 = .ok (.if_icmp .eq 19, 3) := by decide +kernel
theorem gdX12_ramp_105 : decode cX12_ramp 105 = .ok (.iload_n 3, 1) := by decide +kernel
theorem gdX12_ramp_106 : decode cX12_ramp 106 = .ok (.ifCond .eq 15, 3) := by decide +kernel
theorem gdX12_ramp_109 : decode cX12_ramp 109 = .ok (.aload_n 0, 1) := by decide +kernel
theorem gdX12_ramp_110 : decode cX12_ramp 110 = .ok (.iload_n 1, 1) := by decide +kernel
theorem gdX12_ramp_111 : decode cX12_ramp 111 = .ok (.invokevirtual 340, 3) := by decide +kernel
theorem gdX12_ramp_114 : decode cX12_ramp 114 = .ok (.iload_n 2, 1) := by decide +kernel
theorem gdX12_ramp_115 : decode cX12_ramp 115 = .ok (.invokestatic 344, 3) := by decide +kernel
theorem gdX12_ramp_118 : decode cX12_ramp 118 = .ok (.ifCond .eq 6, 3) := by decide +kernel
theorem gdX12_ramp_124 : decode cX12_ramp 124 = .ok (.aload_n 0, 1) := by decide +kernel
theorem gdX12_ramp_125 : decode cX12_ramp 125 = .ok (.iconst 2, 1) := by decide +kernel
theorem gdX12_ramp_126 : decode cX12_ramp 126 = .ok (.iload_n 1, 1) := by decide +kernel
theorem gdX12_ramp_127 : decode cX12_ramp 127 = .ok (.invokevirtual 334, 3) := by decide +kernel
theorem gdX12_ramp_130 : decode cX12_ramp 130 = .ok (.istore 4, 2) := by decide +kernel
theorem gdX12_ramp_132 : decode cX12_ramp 132 = .ok (.aload_n 0, 1) := by decide +kernel
theorem gdX12_ramp_133 : decode cX12_ramp 133 = .ok (.getfield 92, 3) := by decide +kernel
theorem gdX12_ramp_136 : decode cX12_ramp 136 = .ok (.iload 4, 2) := by decide +kernel
theorem gdX12_ramp_138 : decode cX12_ramp 138 = .ok (.iconst 0, 1) := by decide +kernel
theorem gdX12_ramp_139 : decode cX12_ramp 139 = .ok (.iastore, 1) := by decide +kernel
theorem gdX12_ramp_140 : decode cX12_ramp 140 = .ok (.aload_n 0, 1) := by decide +kernel
theorem gdX12_ramp_141 : decode cX12_ramp 141 = .ok (.getfield 101, 3) := by decide +kernel
theorem gdX12_ramp_144 : decode cX12_ramp 144 = .ok (.bipush 64, 2) := by decide +kernel
theorem gdX12_ramp_146 : decode cX12_ramp 146 = .ok (.iload 4, 2) := by decide +kernel
theorem gdX12_ramp_148 : decode cX12_ramp 148 = .ok (.imul, 1) := by decide +kernel
theorem gdX12_ramp_149 : decode cX12_ramp 149 = .ok (.iload_n 2, 1) := by decide +kernel
theorem gdX12_ramp_150 : decode cX12_ramp 150 = .ok (.iastore, 1) := by decide +kernel
theorem gdX12_ramp_151 : decode cX12_ramp 151 = .ok (.aload_n 0, 1) := by decide +kernel
theorem gdX12_ramp_152 : decode cX12_ramp 152 = .ok (.getfield 98, 3) := by decide +kernel
theorem gdX12_ramp_155 : decode cX12_ramp 155 = .ok (.iload 4, 2) := by decide +kernel
theorem gdX12_ramp_157 : decode cX12_ramp 157 = .ok (.iconst 1, 1) := by decide +kernel
theorem gdX12_ramp_158 : decode cX12_ramp 158 = .ok (.iastore, 1) := by decide +kernel
theorem gdX12_ramp_159 : decode cX12_ramp 159 = .ok (.iload 4, 2) := by decide +kernel
theorem gdX12_ramp_161 : decode cX12_ramp 161 = .ok (.ireturn, 1) := by decide +kernel
theorem gdX12_ramp_88 : decode cX12_ramp 88 = .ok (.istore_n 3, 1) := by decide +kernel
theorem gdX12_ramp_89 : decode cX12_ramp 89 = .ok (.iinc 4 1, 3) := by decide +kernel
theorem gdX12_ramp_92 : decode cX12_ramp 92 = .ok (.goto (-44), 3) := by decide +kernel
theorem gdX12_ramp_83 : decode cX12_ramp 83 = .ok (.iconst 1, 1) := by decide +kernel
theorem gdX12_ramp_84 : decode cX12_ramp 84 = .ok (.goto 4, 3) := by decide +kernel
theorem gdX12_ramp_48 : decode cX12_ramp 48 = .ok (.iload 4, 2) := by decide +kernel
theorem gdX12_ramp_50 : decode cX12_ramp 50 = .ok (.aload_n 0, 1) := by decide +kernel
theorem gdX12_ramp_51 : decode cX12_ramp 51 = .ok (.getfield 98, 3) := by decide +kernel
theorem gdX12_ramp_54 : decode cX12_ramp 54 = .ok (.iload_n 1, 1) := by decide +kernel
theorem gdX12_ramp_55 : decode cX12_ramp 55 = .ok (.iaload, 1) := by decide +kernel
theorem gdX12_ramp_56 : decode cX12_ramp 56 = .ok (.if_icmp .ge 39, 3) := by decide +kernel
theorem gdX12_ramp_59 : decode cX12_ramp 59 = .ok (.iload_n 3, 1) := by decide +kernel
theorem gdX12_ramp_60 : decode cX12_ramp 60 = .ok (.ifCond .ne 23, 3) := by decide +kernel
theorem gdX12_ramp_63 : decode cX12_ramp 63 = .ok (.aload_n 0, 1) := by decide +kernel
theorem gdX12_ramp_64 : decode cX12_ramp 64 = .ok (.getfield 101, 3) := by decide +kernel
theorem gdX12_ramp_67 : decode cX12_ramp 67 = .ok (.bipush 64, 2) := by decide +kernel
theorem gdX12_ramp_69 : decode cX12_ramp 69 = .ok (.iload_n 1, 1) := by decide +kernel
theorem gdX12_ramp_70 : decode cX12_ramp 70 = .ok (.imul, 1) := by decide +kernel
theorem gdX12_ramp_71 : decode cX12_ramp 71 = .ok (.iload 4, 2) := by decide +kernel
theorem gdX12_ramp_73 : decode cX12_ramp 73 = .ok (.iadd, 1) := by decide +kernel
theorem gdX12_ramp_74 : decode cX12_ramp 74 = .ok (.iaload, 1) := by decide +kernel
theorem gdX12_ramp_75 : decode cX12_ramp 75 = .ok (.iload_n 2, 1) := by decide +kernel
theorem gdX12_ramp_76 : decode cX12_ramp 76 = .ok (.invokestatic 337, 3) := by decide +kernel
theorem gdX12_ramp_79 : decode cX12_ramp 79 = .ok (.iconst 1, 1) := by decide +kernel
theorem gdX12_ramp_80 : decode cX12_ramp 80 = .ok (.if_icmp .ne 7, 3) := by decide +kernel
theorem gdX12_ramp_87 : decode cX12_ramp 87 = .ok (.iconst 0, 1) := by decide +kernel
theorem gdX12_ramp_0 : decode cX12_ramp 0 = .ok (.aload_n 0, 1) := by decide +kernel
theorem gdX12_ramp_1 : decode cX12_ramp 1 = .ok (.iload_n 1, 1) := by decide +kernel
theorem gdX12_ramp_2 : decode cX12_ramp 2 = .ok (.invokevirtual 308, 3) := by decide +kernel
theorem gdX12_ramp_5 : decode cX12_ramp 5 = .ok (.ifCond .eq 10, 3) := by decide +kernel
theorem gdX12_ramp_8 : decode cX12_ramp 8 = .ok (.iload_n 2, 1) := by decide +kernel
theorem gdX12_ramp_9 : decode cX12_ramp 9 = .ok (.invokestatic 257, 3) := by decide +kernel
theorem gdX12_ramp_12 : decode cX12_ramp 12 = .ok (.ifCond .ne 5, 3) := by decide +kernel
theorem gdX12_ramp_17 : decode cX12_ramp 17 = .ok (.aload_n 0, 1) := by decide +kernel
theorem gdX12_ramp_18 : decode cX12_ramp 18 = .ok (.getfield 305, 3) := by decide +kernel
theorem gdX12_ramp_21 : decode cX12_ramp 21 = .ok (.bipush 24, 2) := by decide +kernel
theorem gdX12_ramp_23 : decode cX12_ramp 23 = .ok (.if_icmp .ne 6, 3) := by decide +kernel
theorem gdX12_ramp_29 : decode cX12_ramp 29 = .ok (.aload_n 0, 1) := by decide +kernel
theorem gdX12_ramp_30 : decode cX12_ramp 30 = .ok (.iload_n 1, 1) := by decide +kernel
theorem gdX12_ramp_31 : decode cX12_ramp 31 = .ok (.invokevirtual 311, 3) := by decide +kernel
theorem gdX12_ramp_34 : decode cX12_ramp 34 = .ok (.ifCond .ne 9, 3) := by decide +kernel
theorem gdX12_ramp_43 : decode cX12_ramp 43 = .ok (.iconst 0, 1) := by decide +kernel
theorem gdX12_ramp_44 : decode cX12_ramp 44 = .ok (.istore_n 3, 1) := by decide +kernel
theorem gdX12_ramp_45 : decode cX12_ramp 45 = .ok (.iconst 0, 1) := by decide +kernel
theorem gdX12_ramp_46 : decode cX12_ramp 46 = .ok (.istore 4, 2) := by decide +kernel
theorem gdX12_ramp_37 : decode cX12_ramp 37 = .ok (.aload_n 0, 1) := by decide +kernel
theorem gdX12_ramp_38 : decode cX12_ramp 38 = .ok (.iconst 3, 1) := by decide +kernel
theorem gdX12_ramp_39 : decode cX12_ramp 39 = .ok (.invokevirtual 216, 3) := by decide +kernel
theorem gdX12_ramp_42 : decode cX12_ramp 42 = .ok (.ireturn, 1) := by decide +kernel
theorem gdX12_ramp_26 : decode cX12_ramp 26 = .ok (.bipush (-2), 2) := by decide +kernel
theorem gdX12_ramp_28 : decode cX12_ramp 28 = .ok (.ireturn, 1) := by decide +kernel
theorem gdX12_row_13 : decode cX12_row 13 = .ok (.iconst (-1), 1) := by decide +kernel
theorem gdX12_row_14 : decode cX12_row 14 = .ok (.ireturn, 1) := by decide +kernel
theorem gdX12_row_58 : decode cX12_row 58 = .ok (.iload_n 2, 1) := by decide +kernel
theorem gdX12_row_59 : decode cX12_row 59 = .ok (.ireturn, 1) := by decide +kernel
theorem gdX12_row_34 : decode cX12_row 34 = .ok (.iload_n 3, 1) := by decide +kernel
theorem gdX12_row_35 : decode cX12_row 35 = .ok (.bipush 40, 2) := by decide +kernel
theorem gdX12_row_37 : decode cX12_row 37 = .ok (.if_icmp .ge 21, 3) := by decide +kernel
theorem gdX12_row_40 : decode cX12_row 40 = .ok (.aload_n 0, 1) := by decide +kernel
theorem gdX12_row_41 : decode cX12_row 41 = .ok (.getfield 16, 3) := by decide +kernel
theorem gdX12_row_44 : decode cX12_row 44 = .ok (.bipush 40, 2) := by decide +kernel
theorem gdX12_row_46 : decode cX12_row 46 = .ok (.iload_n 1, 1) := by decide +kernel
theorem gdX12_row_47 : decode cX12_row 47 = .ok (.imul, 1) := by decide +kernel
theorem gdX12_row_48 : decode cX12_row 48 = .ok (.iload_n 3, 1) := by decide +kernel
theorem gdX12_row_49 : decode cX12_row 49 = .ok (.iadd, 1) := by decide +kernel
theorem gdX12_row_50 : decode cX12_row 50 = .ok (.iconst 0, 1) := by decide +kernel
theorem gdX12_row_51 : decode cX12_row 51 = .ok (.iastore, 1) := by decide +kernel
theorem gdX12_row_52 : decode cX12_row 52 = .ok (.iinc 3 1, 3) := by decide +kernel
theorem gdX12_row_55 : decode cX12_row 55 = .ok (.goto (-21), 3) := by decide +kernel
theorem gdX12_row_0 : decode cX12_row 0 = .ok (.iload_n 1, 1) := by decide +kernel
theorem gdX12_row_1 : decode cX12_row 1 = .ok (.invokestatic 212, 3) := by decide +kernel
theorem gdX12_row_4 : decode cX12_row 4 = .ok (.ifCond .eq 9, 3) := by decide +kernel
theorem gdX12_row_7 : decode cX12_row 7 = .ok (.iload_n 2, 1) := by decide +kernel
theorem gdX12_row_8 : decode cX12_row 8 = .ok (.bipush 40, 2) := by decide +kernel
theorem gdX12_row_10 : decode cX12_row 10 = .ok (.if_icmp .le 5, 3) := by decide +kernel
theorem gdX12_row_15 : decode cX12_row 15 = .ok (.iload_n 2, 1) := by decide +kernel
theorem gdX12_row_16 : decode cX12_row 16 = .ok (.ifCond .ge 9, 3) := by decide +kernel
theorem gdX12_row_25 : decode cX12_row 25 = .ok (.aload_n 0, 1) := by decide +kernel
theorem gdX12_row_26 : decode cX12_row 26 = .ok (.getfield 13, 3) := by decide +kernel
theorem gdX12_row_29 : decode cX12_row 29 = .ok (.iload_n 1, 1) := by decide +kernel
theorem gdX12_row_30 : decode cX12_row 30 = .ok (.iload_n 2, 1) := by decide +kernel
theorem gdX12_row_31 : decode cX12_row 31 = .ok (.iastore, 1) := by decide +kernel
theorem gdX12_row_32 : decode cX12_row 32 = .ok (.iconst 0, 1) := by decide +kernel
theorem gdX12_row_33 : decode cX12_row 33 = .ok (.istore_n 3, 1) := by decide +kernel
theorem gdX12_row_19 : decode cX12_row 19 = .ok (.aload_n 0, 1) := by decide +kernel
theorem gdX12_row_20 : decode cX12_row 20 = .ok (.iconst 5, 1) := by decide +kernel
theorem gdX12_row_21 : decode cX12_row 21 = .ok (.invokevirtual 216, 3) := by decide +kernel
theorem gdX12_row_24 : decode cX12_row 24 = .ok (.ireturn, 1) := by decide +kernel
theorem gdX12_rule_14 : decode cX12_rule 14 = .ok (.iconst (-1), 1) := by decide +kernel
theorem gdX12_rule_15 : decode cX12_rule 15 = .ok (.ireturn, 1) := by decide +kernel
theorem gdX12_rule_113 : decode cX12_rule 113 = .ok (.aload_n 0, 1) := by decide +kernel
theorem gdX12_rule_114 : decode cX12_rule 114 = .ok (.dup, 1) := by decide +kernel
theorem gdX12_rule_115 : decode cX12_rule 115 = .ok (.getfield 241, 3) := by decide +kernel
theorem gdX12_rule_118 : decode cX12_rule 118 = .ok (.iconst 1, 1) := by decide +kernel
theorem gdX12_rule_119 : decode cX12_rule 119 = .ok (.iadd, 1) := by decide +kernel
theorem gdX12_rule_120 : decode cX12_rule 120 = .ok (.putfield 241, 3) := by decide +kernel
theorem gdX12_rule_123 : decode cX12_rule 123 = .ok (.aload_n 0, 1) := by decide +kernel
theorem gdX12_rule_124 : decode cX12_rule 124 = .ok (.getfield 241, 3) := by decide +kernel
theorem gdX12_rule_127 : decode cX12_rule 127 = .ok (.iconst 1, 1) := by decide +kernel
theorem gdX12_rule_128 : decode cX12_rule 128 = .ok (.isub, 1) := by decide +kernel
theorem gdX12_rule_129 : decode cX12_rule 129 = .ok (.ireturn, 1) := by decide +kernel
theorem gdX12_rule_81 : decode cX12_rule 81 = .ok (.iload_n 3, 1) := by decide +kernel
theorem gdX12_rule_82 : decode cX12_rule 82 = .ok (.bipush 8, 2) := by decide +kernel
theorem gdX12_rule_84 : decode cX12_rule 84 = .ok (.if_icmp .ge 29, 3) := by decide +kernel
theorem gdX12_rule_87 : decode cX12_rule 87 = .ok (.aload_n 0, 1) := by decide +kernel
theorem gdX12_rule_88 : decode cX12_rule 88 = .ok (.getfield 34, 3) := by decide +kernel
theorem gdX12_rule_91 : decode cX12_rule 91 = .ok (.bipush 8, 2) := by decide +kernel
theorem gdX12_rule_93 : decode cX12_rule 93 = .ok (.aload_n 0, 1) := by decide +kernel
theorem gdX12_rule_94 : decode cX12_rule 94 = .ok (.getfield 241, 3) := by decide +kernel
theorem gdX12_rule_97 : decode cX12_rule 97 = .ok (.imul, 1) := by decide +kernel
theorem gdX12_rule_98 : decode cX12_rule 98 = .ok (.iload_n 3, 1) := by decide +kernel
theorem gdX12_rule_99 : decode cX12_rule 99 = .ok (.iadd, 1) := by decide +kernel
theorem gdX12_rule_100 : decode cX12_rule 100 = .ok (.aload_n 0, 1) := by decide +kernel
theorem gdX12_rule_101 : decode cX12_rule 101 = .ok (.getfield 37, 3) := by decide +kernel
theorem gdX12_rule_104 : decode cX12_rule 104 = .ok (.iload_n 3, 1) := by decide +kernel
theorem gdX12_rule_105 : decode cX12_rule 105 = .ok (.iaload, 1) := by decide +kernel
theorem gdX12_rule_106 : decode cX12_rule 106 = .ok (.iastore, 1) := by decide +kernel
theorem gdX12_rule_107 : decode cX12_rule 107 = .ok (.iinc 3 1, 3) := by decide +kernel
theorem gdX12_rule_110 : decode cX12_rule 110 = .ok (.goto (-29), 3) := by decide +kernel
theorem gdX12_rule_0 : decode cX12_rule 0 = .ok (.iload_n 1, 1) := by decide +kernel
theorem gdX12_rule_1 : decode cX12_rule 1 = .ok (.invokestatic 220, 3) := by decide +kernel
theorem gdX12_rule_4 : decode cX12_rule 4 = .ok (.ifCond .eq 10, 3) := by decide +kernel
theorem gdX12_rule_7 : decode cX12_rule 7 = .ok (.iload_n 2, 1) := by decide +kernel
theorem gdX12_rule_8 : decode cX12_rule 8 = .ok (.invokestatic 238, 3) := by decide +kernel
theorem gdX12_rule_11 : decode cX12_rule 11 = .ok (.ifCond .ne 5, 3) := by decide +kernel
theorem gdX12_rule_16 : decode cX12_rule 16 = .ok (.aload_n 0, 1) := by decide +kernel
theorem gdX12_rule_17 : decode cX12_rule 17 = .ok (.getfield 241, 3) := by decide +kernel
theorem gdX12_rule_20 : decode cX12_rule 20 = .ok (.bipush 16, 2) := by decide +kernel
theorem gdX12_rule_22 : decode cX12_rule 22 = .ok (.if_icmp .ne 6, 3) := by decide +kernel
theorem gdX12_rule_28 : decode cX12_rule 28 = .ok (.aload_n 0, 1) := by decide +kernel
theorem gdX12_rule_29 : decode cX12_rule 29 = .ok (.getfield 22, 3) := by decide +kernel
theorem gdX12_rule_32 : decode cX12_rule 32 = .ok (.iload_n 1, 1) := by decide +kernel
theorem gdX12_rule_33 : decode cX12_rule 33 = .ok (.iaload, 1) := by decide +kernel
theorem gdX12_rule_34 : decode cX12_rule 34 = .ok (.ifCond .ge 9, 3) := by decide +kernel
theorem gdX12_rule_43 : decode cX12_rule 43 = .ok (.aload_n 0, 1) := by decide +kernel
theorem gdX12_rule_44 : decode cX12_rule 44 = .ok (.iload_n 1, 1) := by decide +kernel
theorem gdX12_rule_45 : decode cX12_rule 45 = .ok (.invokevirtual 235, 3) := by decide +kernel
theorem gdX12_rule_48 : decode cX12_rule 48 = .ok (.bipush (-9), 2) := by decide +kernel
theorem gdX12_rule_50 : decode cX12_rule 50 = .ok (.if_icmp .eq 6, 3) := by decide +kernel
theorem gdX12_rule_56 : decode cX12_rule 56 = .ok (.aload_n 0, 1) := by decide +kernel
theorem gdX12_rule_57 : decode cX12_rule 57 = .ok (.getfield 28, 3) := by decide +kernel
theorem gdX12_rule_60 : decode cX12_rule 60 = .ok (.aload_n 0, 1) := by decide +kernel
theorem gdX12_rule_61 : decode cX12_rule 61 = .ok (.getfield 241, 3) := by decide +kernel
theorem gdX12_rule_64 : decode cX12_rule 64 = .ok (.aload_n 0, 1) := by decide +kernel
theorem gdX12_rule_65 : decode cX12_rule 65 = .ok (.getfield 229, 3) := by decide +kernel
theorem gdX12_rule_68 : decode cX12_rule 68 = .ok (.iastore, 1) := by decide +kernel
theorem gdX12_rule_69 : decode cX12_rule 69 = .ok (.aload_n 0, 1) := by decide +kernel
theorem gdX12_rule_70 : decode cX12_rule 70 = .ok (.getfield 31, 3) := by decide +kernel
theorem gdX12_rule_73 : decode cX12_rule 73 = .ok (.aload_n 0, 1) := by decide +kernel
theorem gdX12_rule_74 : decode cX12_rule 74 = .ok (.getfield 241, 3) := by decide +kernel
theorem gdX12_rule_77 : decode cX12_rule 77 = .ok (.iload_n 2, 1) := by decide +kernel
theorem gdX12_rule_78 : decode cX12_rule 78 = .ok (.iastore, 1) := by decide +kernel
theorem gdX12_rule_79 : decode cX12_rule 79 = .ok (.iconst 0, 1) := by decide +kernel
theorem gdX12_rule_80 : decode cX12_rule 80 = .ok (.istore_n 3, 1) := by decide +kernel
theorem gdX12_rule_53 : decode cX12_rule 53 = .ok (.bipush (-4), 2) := by decide +kernel
theorem gdX12_rule_55 : decode cX12_rule 55 = .ok (.ireturn, 1) := by decide +kernel
theorem gdX12_rule_37 : decode cX12_rule 37 = .ok (.aload_n 0, 1) := by decide +kernel
theorem gdX12_rule_38 : decode cX12_rule 38 = .ok (.iconst 1, 1) := by decide +kernel
theorem gdX12_rule_39 : decode cX12_rule 39 = .ok (.invokevirtual 216, 3) := by decide +kernel
theorem gdX12_rule_42 : decode cX12_rule 42 = .ok (.ireturn, 1) := by decide +kernel
theorem gdX12_rule_25 : decode cX12_rule 25 = .ok (.bipush (-2), 2) := by decide +kernel
theorem gdX12_rule_27 : decode cX12_rule 27 = .ok (.ireturn, 1) := by decide +kernel
theorem gdX12_set_0 : decode cX12_set 0 = .ok (.aload_n 0, 1) := by decide +kernel
theorem gdX12_set_1 : decode cX12_set 1 = .ok (.getfield 364, 3) := by decide +kernel
theorem gdX12_set_4 : decode cX12_set 4 = .ok (.lreturn, 1) := by decide +kernel
theorem gdX12_isNear_84 : decode cX12_isNear 84 = .ok (.iload_n 3, 1) := by decide +kernel
theorem gdX12_isNear_85 : decode cX12_isNear 85 = .ok (.ireturn, 1) := by decide +kernel
theorem gdX12_isNear_77 : decode cX12_isNear 77 = .ok (.istore_n 3, 1) := by decide +kernel
theorem gdX12_isNear_78 : decode cX12_isNear 78 = .ok (.iinc 4 1, 3) := by decide +kernel
theorem gdX12_isNear_81 : decode cX12_isNear 81 = .ok (.goto (-76), 3) := by decide +kernel
theorem gdX12_isNear_72 : decode cX12_isNear 72 = .ok (.iconst 1, 1) := by decide +kernel
theorem gdX12_isNear_73 : decode cX12_isNear 73 = .ok (.goto 4, 3) := by decide +kernel
theorem gdX12_isNear_76 : decode cX12_isNear 76 = .ok (.iconst 0, 1) := by decide +kernel
theorem gdX12_isNear_5 : decode cX12_isNear 5 = .ok (.iload 4, 2) := by decide +kernel
theorem gdX12_isNear_7 : decode cX12_isNear 7 = .ok (.aload_n 0, 1) := by decide +kernel
theorem gdX12_isNear_8 : decode cX12_isNear 8 = .ok (.getfield 98, 3) := by decide +kernel
theorem gdX12_isNear_11 : decode cX12_isNear 11 = .ok (.iload_n 1, 1) := by decide +kernel
theorem gdX12_isNear_12 : decode cX12_isNear 12 = .ok (.iaload, 1) := by decide +kernel
theorem gdX12_isNear_13 : decode cX12_isNear 13 = .ok (.if_icmp .ge 71, 3) := by decide +kernel
theorem gdX12_isNear_16 : decode cX12_isNear 16 = .ok (.aload_n 0, 1) := by decide +kernel
theorem gdX12_isNear_17 : decode cX12_isNear 17 = .ok (.getfield 101, 3) := by decide +kernel
theorem gdX12_isNear_20 : decode cX12_isNear 20 = .ok (.bipush 64, 2) := by decide +kernel
theorem gdX12_isNear_22 : decode cX12_isNear 22 = .ok (.iload_n 1, 1) := by decide +kernel
theorem gdX12_isNear_23 : decode cX12_isNear 23 = .ok (.imul, 1) := by decide +kernel
theorem gdX12_isNear_24 : decode cX12_isNear 24 = .ok (.iload 4, 2) := by decide +kernel
theorem gdX12_isNear_26 : decode cX12_isNear 26 = .ok (.iadd, 1) := by decide +kernel
theorem gdX12_isNear_27 : decode cX12_isNear 27 = .ok (.iaload, 1) := by decide +kernel
theorem gdX12_isNear_28 : decode cX12_isNear 28 = .ok (.istore 5, 2) := by decide +kernel
theorem gdX12_isNear_30 : decode cX12_isNear 30 = .ok (.iload_n 3, 1) := by decide +kernel
theorem gdX12_isNear_31 : decode cX12_isNear 31 = .ok (.ifCond .ne 41, 3) := by decide +kernel
theorem gdX12_isNear_34 : decode cX12_isNear 34 = .ok (.iload_n 2, 1) := by decide +kernel
theorem gdX12_isNear_35 : decode cX12_isNear 35 = .ok (.bipush 8, 2) := by decide +kernel
theorem gdX12_isNear_37 : decode cX12_isNear 37 = .ok (.irem, 1) := by decide +kernel
theorem gdX12_isNear_38 : decode cX12_isNear 38 = .ok (.iload 5, 2) := by decide +kernel
theorem gdX12_isNear_40 : decode cX12_isNear 40 = .ok (.bipush 8, 2) := by decide +kernel
theorem gdX12_isNear_42 : decode cX12_isNear 42 = .ok (.irem, 1) := by decide +kernel
theorem gdX12_isNear_43 : decode cX12_isNear 43 = .ok (.isub, 1) := by decide +kernel
theorem gdX12_isNear_44 : decode cX12_isNear 44 = .ok (.bipush (-2), 2) := by decide +kernel
theorem gdX12_isNear_46 : decode cX12_isNear 46 = .ok (.iconst 2, 1) := by decide +kernel
theorem gdX12_isNear_47 : decode cX12_isNear 47 = .ok (.invokestatic 208, 3) := by decide +kernel
theorem gdX12_isNear_50 : decode cX12_isNear 50 = .ok (.ifCond .eq 26, 3) := by decide +kernel
theorem gdX12_isNear_53 : decode cX12_isNear 53 = .ok (.iload_n 2, 1) := by decide +kernel
theorem gdX12_isNear_54 : decode cX12_isNear 54 = .ok (.bipush 8, 2) := by decide +kernel
theorem gdX12_isNear_56 : decode cX12_isNear 56 = .ok (.idiv, 1) := by decide +kernel
theorem gdX12_isNear_57 : decode cX12_isNear 57 = .ok (.iload 5, 2) := by decide +kernel
theorem gdX12_isNear_59 : decode cX12_isNear 59 = .ok (.bipush 8, 2) := by decide +kernel
theorem gdX12_isNear_61 : decode cX12_isNear 61 = .ok (.idiv, 1) := by decide +kernel
theorem gdX12_isNear_62 : decode cX12_isNear 62 = .ok (.isub, 1) := by decide +kernel
theorem gdX12_isNear_63 : decode cX12_isNear 63 = .ok (.bipush (-2), 2) := by decide +kernel
theorem gdX12_isNear_65 : decode cX12_isNear 65 = .ok (.iconst 2, 1) := by decide +kernel
theorem gdX12_isNear_66 : decode cX12_isNear 66 = .ok (.invokestatic 208, 3) := by decide +kernel
theorem gdX12_isNear_69 : decode cX12_isNear 69 = .ok (.ifCond .eq 7, 3) := by decide +kernel
theorem gdX12_isNear_0 : decode cX12_isNear 0 = .ok (.iconst 0, 1) := by decide +kernel
theorem gdX12_isNear_1 : decode cX12_isNear 1 = .ok (.istore_n 3, 1) := by decide +kernel
theorem gdX12_isNear_2 : decode cX12_isNear 2 = .ok (.iconst 0, 1) := by decide +kernel
theorem gdX12_isNear_3 : decode cX12_isNear 3 = .ok (.istore 4, 2) := by decide +kernel
theorem gdX12_show_184 : decode cX12_show 184 = .ok (.aload_n 0, 1) := by decide +kernel
theorem gdX12_show_185 : decode cX12_show 185 = .ok (.getfield 95, 3) := by decide +kernel
theorem gdX12_show_188 : decode cX12_show 188 = .ok (.iload_n 1, 1) := by decide +kernel
theorem gdX12_show_189 : decode cX12_show 189 = .ok (.aload_n 0, 1) := by decide +kernel
theorem gdX12_show_190 : decode cX12_show 190 = .ok (.getfield 229, 3) := by decide +kernel
theorem gdX12_show_193 : decode cX12_show 193 = .ok (.iastore, 1) := by decide +kernel
theorem gdX12_show_194 : decode cX12_show 194 = .ok (.iload_n 3, 1) := by decide +kernel
theorem gdX12_show_195 : decode cX12_show 195 = .ok (.ireturn, 1) := by decide +kernel
theorem gdX12_show_178 : decode cX12_show 178 = .ok (.iinc 5 1, 3) := by decide +kernel
theorem gdX12_show_181 : decode cX12_show 181 = .ok (.goto (-80), 3) := by decide +kernel
theorem gdX12_show_175 : decode cX12_show 175 = .ok (.invokevirtual 270, 3) := by decide +kernel
theorem gdX12_show_101 : decode cX12_show 101 = .ok (.iload 5, 2) := by decide +kernel
theorem gdX12_show_103 : decode cX12_show 103 = .ok (.aload_n 0, 1) := by decide +kernel
theorem gdX12_show_104 : decode cX12_show 104 = .ok (.getfield 254, 3) := by decide +kernel
theorem gdX12_show_107 : decode cX12_show 107 = .ok (.if_icmp .ge 77, 3) := by decide +kernel
theorem gdX12_show_110 : decode cX12_show 110 = .ok (.aload_n 0, 1) := by decide +kernel
theorem gdX12_show_111 : decode cX12_show 111 = .ok (.getfield 55, 3) := by decide +kernel
theorem gdX12_show_114 : decode cX12_show 114 = .ok (.iload 5, 2) := by decide +kernel
theorem gdX12_show_116 : decode cX12_show 116 = .ok (.baload, 1) := by decide +kernel
theorem gdX12_show_117 : decode cX12_show 117 = .ok (.ifCond .ne 61, 3) := by decide +kernel
theorem gdX12_show_120 : decode cX12_show 120 = .ok (.aload_n 0, 1) := by decide +kernel
theorem gdX12_show_121 : decode cX12_show 121 = .ok (.iload_n 1, 1) := by decide +kernel
theorem gdX12_show_122 : decode cX12_show 122 = .ok (.aload_n 0, 1) := by decide +kernel
theorem gdX12_show_123 : decode cX12_show 123 = .ok (.getfield 46, 3) := by decide +kernel
theorem gdX12_show_126 : decode cX12_show 126 = .ok (.iload 5, 2) := by decide +kernel
theorem gdX12_show_128 : decode cX12_show 128 = .ok (.iaload, 1) := by decide +kernel
theorem gdX12_show_129 : decode cX12_show 129 = .ok (.invokevirtual 351, 3) := by decide +kernel
theorem gdX12_show_132 : decode cX12_show 132 = .ok (.ifCond .eq 46, 3) := by decide +kernel
theorem gdX12_show_135 : decode cX12_show 135 = .ok (.aload_n 0, 1) := by decide +kernel
theorem gdX12_show_136 : decode cX12_show 136 = .ok (.iload 5, 2) := by decide +kernel
theorem gdX12_show_138 : decode cX12_show 138 = .ok (.aload_n 0, 1) := by decide +kernel
theorem gdX12_show_139 : decode cX12_show 139 = .ok (.getfield 229, 3) := by decide +kernel
theorem gdX12_show_142 : decode cX12_show 142 = .ok (.invokevirtual 277, 3) := by decide +kernel
theorem gdX12_show_145 : decode cX12_show 145 = .ok (.istore 6, 2) := by decide +kernel
theorem gdX12_show_147 : decode cX12_show 147 = .ok (.iload 6, 2) := by decide +kernel
theorem gdX12_show_149 : decode cX12_show 149 = .ok (.iload 6, 2) := by decide +kernel
theorem gdX12_show_151 : decode cX12_show 151 = .ok (.iload 4, 2) := by decide +kernel
theorem gdX12_show_153 : decode cX12_show 153 = .ok (.imul, 1) := by decide +kernel
theorem gdX12_show_154 : decode cX12_show 154 = .ok (.bipush 100, 2) := by decide +kernel
theorem gdX12_show_156 : decode cX12_show 156 = .ok (.idiv, 1) := by decide +kernel
theorem gdX12_show_157 : decode cX12_show 157 = .ok (.isub, 1) := by decide +kernel
theorem gdX12_show_158 : decode cX12_show 158 = .ok (.istore 7, 2) := by decide +kernel
theorem gdX12_show_160 : decode cX12_show 160 = .ok (.aload_n 0, 1) := by decide +kernel
theorem gdX12_show_161 : decode cX12_show 161 = .ok (.iload 5, 2) := by decide +kernel
theorem gdX12_show_163 : decode cX12_show 163 = .ok (.iload 7, 2) := by decide +kernel
theorem gdX12_show_165 : decode cX12_show 165 = .ok (.iconst 1, 1) := by decide +kernel
theorem gdX12_show_166 : decode cX12_show 166 = .ok (.if_icmp .ge 7, 3) := by decide +kernel
theorem gdX12_show_173 : decode cX12_show 173 = .ok (.iload 7, 2) := by decide +kernel
theorem gdX12_show_169 : decode cX12_show 169 = .ok (.iconst 1, 1) := by decide +kernel
theorem gdX12_show_170 : decode cX12_show 170 = .ok (.goto 5, 3) := by decide +kernel
theorem gdX12_show_77 : decode cX12_show 77 = .ok (.aload_n 0, 1) := by decide +kernel
theorem gdX12_show_78 : decode cX12_show 78 = .ok (.getfield 263, 3) := by decide +kernel
theorem gdX12_show_81 : decode cX12_show 81 = .ok (.iload_n 3, 1) := by decide +kernel
theorem gdX12_show_82 : decode cX12_show 82 = .ok (.iadd, 1) := by decide +kernel
theorem gdX12_show_83 : decode cX12_show 83 = .ok (.bipush 100, 2) := by decide +kernel
theorem gdX12_show_85 : decode cX12_show 85 = .ok (.if_icmp .le 6, 3) := by decide +kernel
theorem gdX12_show_91 : decode cX12_show 91 = .ok (.aload_n 0, 1) := by decide +kernel
theorem gdX12_show_92 : decode cX12_show 92 = .ok (.iconst 1, 1) := by decide +kernel
theorem gdX12_show_93 : decode cX12_show 93 = .ok (.invokevirtual 328, 3) := by decide +kernel
theorem gdX12_show_96 : decode cX12_show 96 = .ok (.istore 4, 2) := by decide +kernel
theorem gdX12_show_98 : decode cX12_show 98 = .ok (.iconst 0, 1) := by decide +kernel
theorem gdX12_show_99 : decode cX12_show 99 = .ok (.istore 5, 2) := by decide +kernel
theorem gdX12_show_88 : decode cX12_show 88 = .ok (.bipush (-2), 2) := by decide +kernel
theorem gdX12_show_90 : decode cX12_show 90 = .ok (.ireturn, 1) := by decide +kernel
theorem gdX12_show_69 : decode cX12_show 69 = .ok (.iadd, 1) := by decide +kernel
theorem gdX12_show_70 : decode cX12_show 70 = .ok (.istore_n 3, 1) := by decide +kernel
theorem gdX12_show_71 : decode cX12_show 71 = .ok (.iinc 4 1, 3) := by decide +kernel
theorem gdX12_show_74 : decode cX12_show 74 = .ok (.goto (-45), 3) := by decide +kernel
theorem gdX12_show_68 : decode cX12_show 68 = .ok (.iconst 0, 1) := by decide +kernel
theorem gdX12_show_29 : decode cX12_show 29 = .ok (.iload 4, 2) := by decide +kernel
theorem gdX12_show_31 : decode cX12_show 31 = .ok (.aload_n 0, 1) := by decide +kernel
theorem gdX12_show_32 : decode cX12_show 32 = .ok (.getfield 254, 3) := by decide +kernel
theorem gdX12_show_35 : decode cX12_show 35 = .ok (.if_icmp .ge 42, 3) := by decide +kernel
theorem gdX12_show_38 : decode cX12_show 38 = .ok (.iload_n 3, 1) := by decide +kernel
theorem gdX12_show_39 : decode cX12_show 39 = .ok (.aload_n 0, 1) := by decide +kernel
theorem gdX12_show_40 : decode cX12_show 40 = .ok (.getfield 55, 3) := by decide +kernel
theorem gdX12_show_43 : decode cX12_show 43 = .ok (.iload 4, 2) := by decide +kernel
theorem gdX12_show_45 : decode cX12_show 45 = .ok (.baload, 1) := by decide +kernel
theorem gdX12_show_46 : decode cX12_show 46 = .ok (.ifCond .ne 22, 3) := by decide +kernel
theorem gdX12_show_49 : decode cX12_show 49 = .ok (.aload_n 0, 1) := by decide +kernel
theorem gdX12_show_50 : decode cX12_show 50 = .ok (.iload_n 1, 1) := by decide +kernel
theorem gdX12_show_51 : decode cX12_show 51 = .ok (.aload_n 0, 1) := by decide +kernel
theorem gdX12_show_52 : decode cX12_show 52 = .ok (.getfield 46, 3) := by decide +kernel
theorem gdX12_show_55 : decode cX12_show 55 = .ok (.iload 4, 2) := by decide +kernel
theorem gdX12_show_57 : decode cX12_show 57 = .ok (.iaload, 1) := by decide +kernel
theorem gdX12_show_58 : decode cX12_show 58 = .ok (.invokevirtual 351, 3) := by decide +kernel
theorem gdX12_show_61 : decode cX12_show 61 = .ok (.ifCond .eq 7, 3) := by decide +kernel
theorem gdX12_show_64 : decode cX12_show 64 = .ok (.iconst 1, 1) := by decide +kernel
theorem gdX12_show_65 : decode cX12_show 65 = .ok (.goto 4, 3) := by decide +kernel
theorem gdX12_show_0 : decode cX12_show 0 = .ok (.aload_n 0, 1) := by decide +kernel
theorem gdX12_show_1 : decode cX12_show 1 = .ok (.iload_n 1, 1) := by decide +kernel
theorem gdX12_show_2 : decode cX12_show 2 = .ok (.invokevirtual 348, 3) := by decide +kernel
theorem gdX12_show_5 : decode cX12_show 5 = .ok (.istore_n 2, 1) := by decide +kernel
theorem gdX12_show_6 : decode cX12_show 6 = .ok (.iload_n 2, 1) := by decide +kernel
theorem gdX12_show_7 : decode cX12_show 7 = .ok (.ifCond .ge 5, 3) := by decide +kernel
theorem gdX12_show_12 : decode cX12_show 12 = .ok (.aload_n 0, 1) := by decide +kernel
theorem gdX12_show_13 : decode cX12_show 13 = .ok (.getfield 95, 3) := by decide +kernel
theorem gdX12_show_16 : decode cX12_show 16 = .ok (.iload_n 1, 1) := by decide +kernel
theorem gdX12_show_17 : decode cX12_show 17 = .ok (.iaload, 1) := by decide +kernel
theorem gdX12_show_18 : decode cX12_show 18 = .ok (.ifCond .lt 6, 3) := by decide +kernel
theorem gdX12_show_24 : decode cX12_show 24 = .ok (.iconst 0, 1) := by decide +kernel
theorem gdX12_show_25 : decode cX12_show 25 = .ok (.istore_n 3, 1) := by decide +kernel
theorem gdX12_show_26 : decode cX12_show 26 = .ok (.iconst 0, 1) := by decide +kernel
theorem gdX12_show_27 : decode cX12_show 27 = .ok (.istore 4, 2) := by decide +kernel
theorem gdX12_show_21 : decode cX12_show 21 = .ok (.bipush (-4), 2) := by decide +kernel
theorem gdX12_show_23 : decode cX12_show 23 = .ok (.ireturn, 1) := by decide +kernel
theorem gdX12_show_10 : decode cX12_show 10 = .ok (.iload_n 2, 1) := by decide +kernel
theorem gdX12_show_11 : decode cX12_show 11 = .ok (.ireturn, 1) := by decide +kernel
theorem gdX12_shown_20 : decode cX12_shown 20 = .ok (.ireturn, 1) := by decide +kernel
theorem gdX12_shown_0 : decode cX12_shown 0 = .ok (.aload_n 0, 1) := by decide +kernel
theorem gdX12_shown_1 : decode cX12_shown 1 = .ok (.iload_n 1, 1) := by decide +kernel
theorem gdX12_shown_2 : decode cX12_shown 2 = .ok (.invokevirtual 348, 3) := by decide +kernel
theorem gdX12_shown_5 : decode cX12_shown 5 = .ok (.istore_n 2, 1) := by decide +kernel
theorem gdX12_shown_6 : decode cX12_shown 6 = .ok (.iload_n 2, 1) := by decide +kernel
theorem gdX12_shown_7 : decode cX12_shown 7 = .ok (.ifCond .ge 7, 3) := by decide +kernel
theorem gdX12_shown_14 : decode cX12_shown 14 = .ok (.aload_n 0, 1) := by decide +kernel
theorem gdX12_shown_15 : decode cX12_shown 15 = .ok (.getfield 95, 3) := by decide +kernel
theorem gdX12_shown_18 : decode cX12_shown 18 = .ok (.iload_n 1, 1) := by decide +kernel
theorem gdX12_shown_19 : decode cX12_shown 19 = .ok (.iaload, 1) := by decide +kernel
theorem gdX12_shown_10 : decode cX12_shown 10 = .ok (.iload_n 2, 1) := by decide +kernel
theorem gdX12_shown_11 : decode cX12_shown 11 = .ok (.goto 9, 3) := by decide +kernel
theorem gdX12_comes_118 : decode cX12_comes 118 = .ok (.lload 5, 2) := by decide +kernel
theorem gdX12_comes_120 : decode cX12_comes 120 = .ok (.iload_n 2, 1) := by decide +kernel
theorem gdX12_comes_121 : decode cX12_comes 121 = .ok (.invokestatic 344, 3) := by decide +kernel
theorem gdX12_comes_124 : decode cX12_comes 124 = .ok (.ireturn, 1) := by decide +kernel
theorem gdX12_comes_115 : decode cX12_comes 115 = .ok (.goto (-107), 3) := by decide +kernel
theorem gdX12_comes_109 : decode cX12_comes 109 = .ok (.iinc 8 1, 3) := by decide +kernel
theorem gdX12_comes_112 : decode cX12_comes 112 = .ok (.goto (-93), 3) := by decide +kernel
theorem gdX12_comes_103 : decode cX12_comes 103 = .ok (.iinc 9 1, 3) := by decide +kernel
theorem gdX12_comes_106 : decode cX12_comes 106 = .ok (.goto (-77), 3) := by decide +kernel
theorem gdX12_comes_91 : decode cX12_comes 91 = .ok (.lload 5, 2) := by decide +kernel
theorem gdX12_comes_93 : decode cX12_comes 93 = .ok (.lconst 1, 1) := by decide +kernel
theorem gdX12_comes_94 : decode cX12_comes 94 = .ok (.iload 10, 2) := by decide +kernel
theorem gdX12_comes_96 : decode cX12_comes 96 = .ok (.lshl, 1) := by decide +kernel
theorem gdX12_comes_97 : decode cX12_comes 97 = .ok (.lor, 1) := by decide +kernel
theorem gdX12_comes_98 : decode cX12_comes 98 = .ok (.lstore 5, 2) := by decide +kernel
theorem gdX12_comes_100 : decode cX12_comes 100 = .ok (.iconst 1, 1) := by decide +kernel
theorem gdX12_comes_101 : decode cX12_comes 101 = .ok (.istore 7, 2) := by decide +kernel
theorem gdX12_comes_29 : decode cX12_comes 29 = .ok (.iload 9, 2) := by decide +kernel
theorem gdX12_comes_31 : decode cX12_comes 31 = .ok (.iconst 4, 1) := by decide +kernel
theorem gdX12_comes_32 : decode cX12_comes 32 = .ok (.if_icmp .ge 77, 3) := by decide +kernel
theorem gdX12_comes_35 : decode cX12_comes 35 = .ok (.iload 8, 2) := by decide +kernel
theorem gdX12_comes_37 : decode cX12_comes 37 = .ok (.iload 9, 2) := by decide +kernel
theorem gdX12_comes_39 : decode cX12_comes 39 = .ok (.invokestatic 315, 3) := by decide +kernel
theorem gdX12_comes_42 : decode cX12_comes 42 = .ok (.istore 10, 2) := by decide +kernel
theorem gdX12_comes_44 : decode cX12_comes 44 = .ok (.lload 5, 2) := by decide +kernel
theorem gdX12_comes_46 : decode cX12_comes 46 = .ok (.iload 8, 2) := by decide +kernel
theorem gdX12_comes_48 : decode cX12_comes 48 = .ok (.invokestatic 344, 3) := by decide +kernel
theorem gdX12_comes_51 : decode cX12_comes 51 = .ok (.ifCond .eq 52, 3) := by decide +kernel
theorem gdX12_comes_54 : decode cX12_comes 54 = .ok (.aload_n 0, 1) := by decide +kernel
theorem gdX12_comes_55 : decode cX12_comes 55 = .ok (.iload 8, 2) := by decide +kernel
theorem gdX12_comes_57 : decode cX12_comes 57 = .ok (.iload 10, 2) := by decide +kernel
theorem gdX12_comes_59 : decode cX12_comes 59 = .ok (.iload_n 3, 1) := by decide +kernel
theorem gdX12_comes_60 : decode cX12_comes 60 = .ok (.invokevirtual 318, 3) := by decide +kernel
theorem gdX12_comes_63 : decode cX12_comes 63 = .ok (.ifCond .eq 40, 3) := by decide +kernel
theorem gdX12_comes_66 : decode cX12_comes 66 = .ok (.lload 5, 2) := by decide +kernel
theorem gdX12_comes_68 : decode cX12_comes 68 = .ok (.iload 10, 2) := by decide +kernel
theorem gdX12_comes_70 : decode cX12_comes 70 = .ok (.invokestatic 344, 3) := by decide +kernel
theorem gdX12_comes_73 : decode cX12_comes 73 = .ok (.ifCond .ne 30, 3) := by decide +kernel
theorem gdX12_comes_76 : decode cX12_comes 76 = .ok (.iload 4, 2) := by decide +kernel
theorem gdX12_comes_78 : decode cX12_comes 78 = .ok (.ifCond .ne 13, 3) := by decide +kernel
theorem gdX12_comes_81 : decode cX12_comes 81 = .ok (.aload_n 0, 1) := by decide +kernel
theorem gdX12_comes_82 : decode cX12_comes 82 = .ok (.getfield 187, 3) := by decide +kernel
theorem gdX12_comes_85 : decode cX12_comes 85 = .ok (.iload 10, 2) := by decide +kernel
theorem gdX12_comes_87 : decode cX12_comes 87 = .ok (.baload, 1) := by decide +kernel
theorem gdX12_comes_88 : decode cX12_comes 88 = .ok (.ifCond .ne 15, 3) := by decide +kernel
theorem gdX12_comes_19 : decode cX12_comes 19 = .ok (.iload 8, 2) := by decide +kernel
theorem gdX12_comes_21 : decode cX12_comes 21 = .ok (.bipush 64, 2) := by decide +kernel
theorem gdX12_comes_23 : decode cX12_comes 23 = .ok (.if_icmp .ge 92, 3) := by decide +kernel
theorem gdX12_comes_26 : decode cX12_comes 26 = .ok (.iconst 0, 1) := by decide +kernel
theorem gdX12_comes_27 : decode cX12_comes 27 = .ok (.istore 9, 2) := by decide +kernel
theorem gdX12_comes_8 : decode cX12_comes 8 = .ok (.iload 7, 2) := by decide +kernel
theorem gdX12_comes_10 : decode cX12_comes 10 = .ok (.ifCond .eq 108, 3) := by decide +kernel
theorem gdX12_comes_13 : decode cX12_comes 13 = .ok (.iconst 0, 1) := by decide +kernel
theorem gdX12_comes_14 : decode cX12_comes 14 = .ok (.istore 7, 2) := by decide +kernel
theorem gdX12_comes_16 : decode cX12_comes 16 = .ok (.iconst 0, 1) := by decide +kernel
theorem gdX12_comes_17 : decode cX12_comes 17 = .ok (.istore 8, 2) := by decide +kernel
theorem gdX12_comes_0 : decode cX12_comes 0 = .ok (.lconst 1, 1) := by decide +kernel
theorem gdX12_comes_1 : decode cX12_comes 1 = .ok (.iload_n 1, 1) := by decide +kernel
theorem gdX12_comes_2 : decode cX12_comes 2 = .ok (.lshl, 1) := by decide +kernel
theorem gdX12_comes_3 : decode cX12_comes 3 = .ok (.lstore 5, 2) := by decide +kernel
theorem gdX12_comes_5 : decode cX12_comes 5 = .ok (.iconst 1, 1) := by decide +kernel
theorem gdX12_comes_6 : decode cX12_comes 6 = .ok (.istore 7, 2) := by decide +kernel
theorem gdX12_finds_346 : decode cX12_finds 346 = .ok (.ireturn, 1) := by decide +kernel
theorem gdX12_finds_330 : decode cX12_finds 330 = .ok (.aload_n 0, 1) := by decide +kernel
theorem gdX12_finds_331 : decode cX12_finds 331 = .ok (.getfield 196, 3) := by decide +kernel
theorem gdX12_finds_334 : decode cX12_finds 334 = .ok (.iconst 2, 1) := by decide +kernel
theorem gdX12_finds_335 : decode cX12_finds 335 = .ok (.iload_n 2, 1) := by decide +kernel
theorem gdX12_finds_336 : decode cX12_finds 336 = .ok (.imul, 1) := by decide +kernel
theorem gdX12_finds_337 : decode cX12_finds 337 = .ok (.iaload, 1) := by decide +kernel
theorem gdX12_finds_338 : decode cX12_finds 338 = .ok (.ifCond .lt 7, 3) := by decide +kernel
theorem gdX12_finds_345 : decode cX12_finds 345 = .ok (.iconst 0, 1) := by decide +kernel
theorem gdX12_finds_341 : decode cX12_finds 341 = .ok (.iconst 1, 1) := by decide +kernel
theorem gdX12_finds_342 : decode cX12_finds 342 = .ok (.goto 4, 3) := by decide +kernel
theorem gdX12_finds_327 : decode cX12_finds 327 = .ok (.goto (-269), 3) := by decide +kernel
theorem gdX12_finds_283 : decode cX12_finds 283 = .ok (.istore 9, 2) := by decide +kernel
theorem gdX12_finds_285 : decode cX12_finds 285 = .ok (.iload 8, 2) := by decide +kernel
theorem gdX12_finds_287 : decode cX12_finds 287 = .ok (.ifCond .eq 40, 3) := by decide +kernel
theorem gdX12_finds_290 : decode cX12_finds 290 = .ok (.iload 7, 2) := by decide +kernel
theorem gdX12_finds_292 : decode cX12_finds 292 = .ok (.iload_n 2, 1) := by decide +kernel
theorem gdX12_finds_293 : decode cX12_finds 293 = .ok (.if_icmp .eq 34, 3) := by decide +kernel
theorem gdX12_finds_296 : decode cX12_finds 296 = .ok (.aload_n 0, 1) := by decide +kernel
theorem gdX12_finds_297 : decode cX12_finds 297 = .ok (.getfield 196, 3) := by decide +kernel
theorem gdX12_finds_300 : decode cX12_finds 300 = .ok (.iload 9, 2) := by decide +kernel
theorem gdX12_finds_302 : decode cX12_finds 302 = .ok (.iaload, 1) := by decide +kernel
theorem gdX12_finds_303 : decode cX12_finds 303 = .ok (.ifCond .ge 24, 3) := by decide +kernel
theorem gdX12_finds_306 : decode cX12_finds 306 = .ok (.aload_n 0, 1) := by decide +kernel
theorem gdX12_finds_307 : decode cX12_finds 307 = .ok (.getfield 196, 3) := by decide +kernel
theorem gdX12_finds_310 : decode cX12_finds 310 = .ok (.iload 9, 2) := by decide +kernel
theorem gdX12_finds_312 : decode cX12_finds 312 = .ok (.iload 6, 2) := by decide +kernel
theorem gdX12_finds_314 : decode cX12_finds 314 = .ok (.iastore, 1) := by decide +kernel
theorem gdX12_finds_315 : decode cX12_finds 315 = .ok (.aload_n 0, 1) := by decide +kernel
theorem gdX12_finds_316 : decode cX12_finds 316 = .ok (.getfield 199, 3) := by decide +kernel
theorem gdX12_finds_319 : decode cX12_finds 319 = .ok (.iload 5, 2) := by decide +kernel
theorem gdX12_finds_321 : decode cX12_finds 321 = .ok (.iload 9, 2) := by decide +kernel
theorem gdX12_finds_323 : decode cX12_finds 323 = .ok (.iastore, 1) := by decide +kernel
theorem gdX12_finds_324 : decode cX12_finds 324 = .ok (.iinc 5 1, 3) := by decide +kernel
theorem gdX12_finds_263 : decode cX12_finds 263 = .ok (.istore 8, 2) := by decide +kernel
theorem gdX12_finds_265 : decode cX12_finds 265 = .ok (.iload 6, 2) := by decide +kernel
theorem gdX12_finds_267 : decode cX12_finds 267 = .ok (.iconst 2, 1) := by decide +kernel
theorem gdX12_finds_268 : decode cX12_finds 268 = .ok (.irem, 1) := by decide +kernel
theorem gdX12_finds_269 : decode cX12_finds 269 = .ok (.ifCond .ne 10, 3) := by decide +kernel
theorem gdX12_finds_279 : decode cX12_finds 279 = .ok (.iload 6, 2) := by decide +kernel
theorem gdX12_finds_281 : decode cX12_finds 281 = .ok (.iconst 1, 1) := by decide +kernel
theorem gdX12_finds_282 : decode cX12_finds 282 = .ok (.isub, 1) := by decide +kernel
theorem gdX12_finds_272 : decode cX12_finds 272 = .ok (.iload 6, 2) := by decide +kernel
theorem gdX12_finds_274 : decode cX12_finds 274 = .ok (.iconst 1, 1) := by decide +kernel
theorem gdX12_finds_275 : decode cX12_finds 275 = .ok (.iadd, 1) := by decide +kernel
theorem gdX12_finds_276 : decode cX12_finds 276 = .ok (.goto 7, 3) := by decide +kernel
theorem gdX12_finds_240 : decode cX12_finds 240 = .ok (.iconst 1, 1) := by decide +kernel
theorem gdX12_finds_241 : decode cX12_finds 241 = .ok (.goto 22, 3) := by decide +kernel
theorem gdX12_finds_213 : decode cX12_finds 213 = .ok (.iload 6, 2) := by decide +kernel
theorem gdX12_finds_215 : decode cX12_finds 215 = .ok (.iconst 2, 1) := by decide +kernel
theorem gdX12_finds_216 : decode cX12_finds 216 = .ok (.irem, 1) := by decide +kernel
theorem gdX12_finds_217 : decode cX12_finds 217 = .ok (.ifCond .ne 31, 3) := by decide +kernel
theorem gdX12_finds_248 : decode cX12_finds 248 = .ok (.aload_n 0, 1) := by decide +kernel
theorem gdX12_finds_249 : decode cX12_finds 249 = .ok (.getfield 190, 3) := by decide +kernel
theorem gdX12_finds_252 : decode cX12_finds 252 = .ok (.iload 7, 2) := by decide +kernel
theorem gdX12_finds_254 : decode cX12_finds 254 = .ok (.iaload, 1) := by decide +kernel
theorem gdX12_finds_255 : decode cX12_finds 255 = .ok (.ifCond .le 7, 3) := by decide +kernel
theorem gdX12_finds_262 : decode cX12_finds 262 = .ok (.iconst 0, 1) := by decide +kernel
theorem gdX12_finds_258 : decode cX12_finds 258 = .ok (.iconst 1, 1) := by decide +kernel
theorem gdX12_finds_259 : decode cX12_finds 259 = .ok (.goto 4, 3) := by decide +kernel
theorem gdX12_finds_220 : decode cX12_finds 220 = .ok (.aload_n 0, 1) := by decide +kernel
theorem gdX12_finds_221 : decode cX12_finds 221 = .ok (.getfield 187, 3) := by decide +kernel
theorem gdX12_finds_224 : decode cX12_finds 224 = .ok (.iload 7, 2) := by decide +kernel
theorem gdX12_finds_226 : decode cX12_finds 226 = .ok (.baload, 1) := by decide +kernel
theorem gdX12_finds_227 : decode cX12_finds 227 = .ok (.ifCond .eq 13, 3) := by decide +kernel
theorem gdX12_finds_230 : decode cX12_finds 230 = .ok (.aload_n 0, 1) := by decide +kernel
theorem gdX12_finds_231 : decode cX12_finds 231 = .ok (.getfield 190, 3) := by decide +kernel
theorem gdX12_finds_234 : decode cX12_finds 234 = .ok (.iload 7, 2) := by decide +kernel
theorem gdX12_finds_236 : decode cX12_finds 236 = .ok (.iaload, 1) := by decide +kernel
theorem gdX12_finds_237 : decode cX12_finds 237 = .ok (.ifCond .ne 7, 3) := by decide +kernel
theorem gdX12_finds_244 : decode cX12_finds 244 = .ok (.iconst 0, 1) := by decide +kernel
theorem gdX12_finds_245 : decode cX12_finds 245 = .ok (.goto 18, 3) := by decide +kernel
theorem gdX12_finds_207 : decode cX12_finds 207 = .ok (.iinc 8 1, 3) := by decide +kernel
theorem gdX12_finds_210 : decode cX12_finds 210 = .ok (.goto (-124), 3) := by decide +kernel
theorem gdX12_finds_169 : decode cX12_finds 169 = .ok (.istore 10, 2) := by decide +kernel
theorem gdX12_finds_171 : decode cX12_finds 171 = .ok (.iload 10, 2) := by decide +kernel
theorem gdX12_finds_173 : decode cX12_finds 173 = .ok (.ifCond .lt 34, 3) := by decide +kernel
theorem gdX12_finds_176 : decode cX12_finds 176 = .ok (.aload_n 0, 1) := by decide +kernel
theorem gdX12_finds_177 : decode cX12_finds 177 = .ok (.getfield 196, 3) := by decide +kernel
theorem gdX12_finds_180 : decode cX12_finds 180 = .ok (.iload 10, 2) := by decide +kernel
theorem gdX12_finds_182 : decode cX12_finds 182 = .ok (.iaload, 1) := by decide +kernel
theorem gdX12_finds_183 : decode cX12_finds 183 = .ok (.ifCond .ge 24, 3) := by decide +kernel
theorem gdX12_finds_186 : decode cX12_finds 186 = .ok (.aload_n 0, 1) := by decide +kernel
theorem gdX12_finds_187 : decode cX12_finds 187 = .ok (.getfield 196, 3) := by decide +kernel
theorem gdX12_finds_190 : decode cX12_finds 190 = .ok (.iload 10, 2) := by decide +kernel
theorem gdX12_finds_192 : decode cX12_finds 192 = .ok (.iload 6, 2) := by decide +kernel
theorem gdX12_finds_194 : decode cX12_finds 194 = .ok (.iastore, 1) := by decide +kernel
theorem gdX12_finds_195 : decode cX12_finds 195 = .ok (.aload_n 0, 1) := by decide +kernel
theorem gdX12_finds_196 : decode cX12_finds 196 = .ok (.getfield 199, 3) := by decide +kernel
theorem gdX12_finds_199 : decode cX12_finds 199 = .ok (.iload 5, 2) := by decide +kernel
theorem gdX12_finds_201 : decode cX12_finds 201 = .ok (.iload 10, 2) := by decide +kernel
theorem gdX12_finds_203 : decode cX12_finds 203 = .ok (.iastore, 1) := by decide +kernel
theorem gdX12_finds_204 : decode cX12_finds 204 = .ok (.iinc 5 1, 3) := by decide +kernel
theorem gdX12_finds_86 : decode cX12_finds 86 = .ok (.iload 8, 2) := by decide +kernel
theorem gdX12_finds_88 : decode cX12_finds 88 = .ok (.iconst 4, 1) := by decide +kernel
theorem gdX12_finds_89 : decode cX12_finds 89 = .ok (.if_icmp .ge 124, 3) := by decide +kernel
theorem gdX12_finds_92 : decode cX12_finds 92 = .ok (.iload 7, 2) := by decide +kernel
theorem gdX12_finds_94 : decode cX12_finds 94 = .ok (.iload 8, 2) := by decide +kernel
theorem gdX12_finds_96 : decode cX12_finds 96 = .ok (.invokestatic 315, 3) := by decide +kernel
theorem gdX12_finds_99 : decode cX12_finds 99 = .ok (.istore 9, 2) := by decide +kernel
theorem gdX12_finds_101 : decode cX12_finds 101 = .ok (.iload 9, 2) := by decide +kernel
theorem gdX12_finds_103 : decode cX12_finds 103 = .ok (.ifCond .ge 6, 3) := by decide +kernel
theorem gdX12_finds_109 : decode cX12_finds 109 = .ok (.iload 6, 2) := by decide +kernel
theorem gdX12_finds_111 : decode cX12_finds 111 = .ok (.iconst 2, 1) := by decide +kernel
theorem gdX12_finds_112 : decode cX12_finds 112 = .ok (.irem, 1) := by decide +kernel
theorem gdX12_finds_113 : decode cX12_finds 113 = .ok (.iconst 1, 1) := by decide +kernel
theorem gdX12_finds_114 : decode cX12_finds 114 = .ok (.if_icmp .ne 27, 3) := by decide +kernel
theorem gdX12_finds_141 : decode cX12_finds 141 = .ok (.aload_n 0, 1) := by decide +kernel
theorem gdX12_finds_142 : decode cX12_finds 142 = .ok (.getfield 193, 3) := by decide +kernel
theorem gdX12_finds_145 : decode cX12_finds 145 = .ok (.iconst 4, 1) := by decide +kernel
theorem gdX12_finds_146 : decode cX12_finds 146 = .ok (.iload 9, 2) := by decide +kernel
theorem gdX12_finds_148 : decode cX12_finds 148 = .ok (.imul, 1) := by decide +kernel
theorem gdX12_finds_149 : decode cX12_finds 149 = .ok (.iconst 3, 1) := by decide +kernel
theorem gdX12_finds_150 : decode cX12_finds 150 = .ok (.iadd, 1) := by decide +kernel
theorem gdX12_finds_151 : decode cX12_finds 151 = .ok (.iload 8, 2) := by decide +kernel
theorem gdX12_finds_153 : decode cX12_finds 153 = .ok (.isub, 1) := by decide +kernel
theorem gdX12_finds_154 : decode cX12_finds 154 = .ok (.iaload, 1) := by decide +kernel
theorem gdX12_finds_155 : decode cX12_finds 155 = .ok (.ifCond .le 12, 3) := by decide +kernel
theorem gdX12_finds_167 : decode cX12_finds 167 = .ok (.bipush (-9), 2) := by decide +kernel
theorem gdX12_finds_158 : decode cX12_finds 158 = .ok (.iconst 2, 1) := by decide +kernel
theorem gdX12_finds_159 : decode cX12_finds 159 = .ok (.iload 9, 2) := by decide +kernel
theorem gdX12_finds_161 : decode cX12_finds 161 = .ok (.imul, 1) := by decide +kernel
theorem gdX12_finds_162 : decode cX12_finds 162 = .ok (.iconst 1, 1) := by decide +kernel
theorem gdX12_finds_163 : decode cX12_finds 163 = .ok (.iadd, 1) := by decide +kernel
theorem gdX12_finds_164 : decode cX12_finds 164 = .ok (.goto 5, 3) := by decide +kernel
theorem gdX12_finds_117 : decode cX12_finds 117 = .ok (.aload_n 0, 1) := by decide +kernel
theorem gdX12_finds_118 : decode cX12_finds 118 = .ok (.iload 7, 2) := by decide +kernel
theorem gdX12_finds_120 : decode cX12_finds 120 = .ok (.iload 9, 2) := by decide +kernel
theorem gdX12_finds_122 : decode cX12_finds 122 = .ok (.iload_n 3, 1) := by decide +kernel
theorem gdX12_finds_123 : decode cX12_finds 123 = .ok (.invokevirtual 318, 3) := by decide +kernel
theorem gdX12_finds_126 : decode cX12_finds 126 = .ok (.ifCond .eq 10, 3) := by decide +kernel
theorem gdX12_finds_136 : decode cX12_finds 136 = .ok (.bipush (-9), 2) := by decide +kernel
theorem gdX12_finds_138 : decode cX12_finds 138 = .ok (.goto 31, 3) := by decide +kernel
theorem gdX12_finds_129 : decode cX12_finds 129 = .ok (.iconst 2, 1) := by decide +kernel
theorem gdX12_finds_130 : decode cX12_finds 130 = .ok (.iload 9, 2) := by decide +kernel
theorem gdX12_finds_132 : decode cX12_finds 132 = .ok (.imul, 1) := by decide +kernel
theorem gdX12_finds_133 : decode cX12_finds 133 = .ok (.goto 36, 3) := by decide +kernel
theorem gdX12_finds_106 : decode cX12_finds 106 = .ok (.goto 101, 3) := by decide +kernel
theorem gdX12_finds_58 : decode cX12_finds 58 = .ok (.iload 4, 2) := by decide +kernel
theorem gdX12_finds_60 : decode cX12_finds 60 = .ok (.iload 5, 2) := by decide +kernel
theorem gdX12_finds_62 : decode cX12_finds 62 = .ok (.if_icmp .ge 268, 3) := by decide +kernel
theorem gdX12_finds_65 : decode cX12_finds 65 = .ok (.aload_n 0, 1) := by decide +kernel
theorem gdX12_finds_66 : decode cX12_finds 66 = .ok (.getfield 199, 3) := by decide +kernel
theorem gdX12_finds_69 : decode cX12_finds 69 = .ok (.iload 4, 2) := by decide +kernel
theorem gdX12_finds_71 : decode cX12_finds 71 = .ok (.iaload, 1) := by decide +kernel
theorem gdX12_finds_72 : decode cX12_finds 72 = .ok (.istore 6, 2) := by decide +kernel
theorem gdX12_finds_74 : decode cX12_finds 74 = .ok (.iload 6, 2) := by decide +kernel
theorem gdX12_finds_76 : decode cX12_finds 76 = .ok (.iconst 2, 1) := by decide +kernel
theorem gdX12_finds_77 : decode cX12_finds 77 = .ok (.idiv, 1) := by decide +kernel
theorem gdX12_finds_78 : decode cX12_finds 78 = .ok (.istore 7, 2) := by decide +kernel
theorem gdX12_finds_80 : decode cX12_finds 80 = .ok (.iinc 4 1, 3) := by decide +kernel
theorem gdX12_finds_83 : decode cX12_finds 83 = .ok (.iconst 0, 1) := by decide +kernel
theorem gdX12_finds_84 : decode cX12_finds 84 = .ok (.istore 8, 2) := by decide +kernel
theorem gdX12_finds_26 : decode cX12_finds 26 = .ok (.iconst 0, 1) := by decide +kernel
theorem gdX12_finds_27 : decode cX12_finds 27 = .ok (.istore 4, 2) := by decide +kernel
theorem gdX12_finds_29 : decode cX12_finds 29 = .ok (.iconst 1, 1) := by decide +kernel
theorem gdX12_finds_30 : decode cX12_finds 30 = .ok (.istore 5, 2) := by decide +kernel
theorem gdX12_finds_32 : decode cX12_finds 32 = .ok (.aload_n 0, 1) := by decide +kernel
theorem gdX12_finds_33 : decode cX12_finds 33 = .ok (.getfield 199, 3) := by decide +kernel
theorem gdX12_finds_36 : decode cX12_finds 36 = .ok (.iconst 0, 1) := by decide +kernel
theorem gdX12_finds_37 : decode cX12_finds 37 = .ok (.iconst 2, 1) := by decide +kernel
theorem gdX12_finds_38 : decode cX12_finds 38 = .ok (.iload_n 1, 1) := by decide +kernel
theorem gdX12_finds_39 : decode cX12_finds 39 = .ok (.imul, 1) := by decide +kernel
theorem gdX12_finds_40 : decode cX12_finds 40 = .ok (.iconst 1, 1) := by decide +kernel
theorem gdX12_finds_41 : decode cX12_finds 41 = .ok (.iadd, 1) := by decide +kernel
theorem gdX12_finds_42 : decode cX12_finds 42 = .ok (.iastore, 1) := by decide +kernel
theorem gdX12_finds_43 : decode cX12_finds 43 = .ok (.aload_n 0, 1) := by decide +kernel
theorem gdX12_finds_44 : decode cX12_finds 44 = .ok (.getfield 196, 3) := by decide +kernel
theorem gdX12_finds_47 : decode cX12_finds 47 = .ok (.iconst 2, 1) := by decide +kernel
theorem gdX12_finds_48 : decode cX12_finds 48 = .ok (.iload_n 1, 1) := by decide +kernel
theorem gdX12_finds_49 : decode cX12_finds 49 = .ok (.imul, 1) := by decide +kernel
theorem gdX12_finds_50 : decode cX12_finds 50 = .ok (.iconst 1, 1) := by decide +kernel
theorem gdX12_finds_51 : decode cX12_finds 51 = .ok (.iadd, 1) := by decide +kernel
theorem gdX12_finds_52 : decode cX12_finds 52 = .ok (.iconst 2, 1) := by decide +kernel
theorem gdX12_finds_53 : decode cX12_finds 53 = .ok (.iload_n 1, 1) := by decide +kernel
theorem gdX12_finds_54 : decode cX12_finds 54 = .ok (.imul, 1) := by decide +kernel
theorem gdX12_finds_55 : decode cX12_finds 55 = .ok (.iconst 1, 1) := by decide +kernel
theorem gdX12_finds_56 : decode cX12_finds 56 = .ok (.iadd, 1) := by decide +kernel
theorem gdX12_finds_57 : decode cX12_finds 57 = .ok (.iastore, 1) := by decide +kernel
theorem gdX12_finds_3 : decode cX12_finds 3 = .ok (.iload 4, 2) := by decide +kernel
theorem gdX12_finds_5 : decode cX12_finds 5 = .ok (.sipush 128, 3) := by decide +kernel
theorem gdX12_finds_8 : decode cX12_finds 8 = .ok (.if_icmp .ge 18, 3) := by decide +kernel
theorem gdX12_finds_11 : decode cX12_finds 11 = .ok (.aload_n 0, 1) := by decide +kernel
theorem gdX12_finds_12 : decode cX12_finds 12 = .ok (.getfield 196, 3) := by decide +kernel
theorem gdX12_finds_15 : decode cX12_finds 15 = .ok (.iload 4, 2) := by decide +kernel
theorem gdX12_finds_17 : decode cX12_finds 17 = .ok (.bipush (-9), 2) := by decide +kernel
theorem gdX12_finds_19 : decode cX12_finds 19 = .ok (.iastore, 1) := by decide +kernel
theorem gdX12_finds_20 : decode cX12_finds 20 = .ok (.iinc 4 1, 3) := by decide +kernel
theorem gdX12_finds_23 : decode cX12_finds 23 = .ok (.goto (-20), 3) := by decide +kernel
theorem gdX12_finds_0 : decode cX12_finds 0 = .ok (.iconst 0, 1) := by decide +kernel
theorem gdX12_finds_1 : decode cX12_finds 1 = .ok (.istore 4, 2) := by decide +kernel
theorem okm_X12_hasRoom : okM yX12_hasRoom cX12_hasRoom 2 (some .boolean) 1 := ⟨w_1846, w_103, by decide +kernel, by decide +kernel, by decide +kernel⟩
theorem okw_X12_hasRoom : okV yX12_hasRoom := ⟨w_1845, w_50⟩
theorem okm_X12_isNear : okM yX12_isNear cX12_isNear 6 (some .boolean) 2 := ⟨w_1936, w_103, by decide +kernel, by decide +kernel, by decide +kernel⟩
theorem okw_X12_isNear : okV yX12_isNear := ⟨w_1935, w_64⟩
set_option maxHeartbeats 4000000 in
set_option maxRecDepth 100000 in
theorem c_X12_hasRoom (l : Launch) (g : GG) (ad : Nat → Nat) (o : OO) (x1 : Int) (v : Int) (h : s_X12_hasRoom o x1 = some v) : CI l g yX12_hasRoom cX12_hasRoom 2 (some .boolean) 1 23 (wM g ad o) [.ref (ad 0), iv x1] v (wM g ad o) := by
  refine met_I (by decide) (Nat.le_of_ble_eq_true rfl) ?_
  intro X E hQ
  show Go X 0 (wM g ad o) [(0, .ref (ad 0)), (1, iv x1)] []
  have j37 : ∀ (y0 : Int), b_X12_hasRoom_37 o y0 = some v → Go X 37 (wM g ad o) [] [iv y0] := by
    intro y0 h
    unfold b_X12_hasRoom_37 at h
    obtain ⟨hz, h⟩ := qZ_of h
    exact g_zret E hQ hz (Option.some.inj h) rfl gdX12_hasRoom_37
  have j36 : b_X12_hasRoom_36 o = some v → Go X 36 (wM g ad o) [] [] := by
    intro h
    unfold b_X12_hasRoom_36 at h
    refine g_iconst E gdX12_hasRoom_36 ?_
    exact j37 0 h
  unfold s_X12_hasRoom at h
  refine g_aload_n E gdX12_hasRoom_0 rfl 0 rfl ?_
  refine g_get (T := TX12) E fw_X12 0 (wM_0 g ad o) rfl 19 (by decide) w_1485 rfl rfl gdX12_hasRoom_1 ?_
  refine g_iload_n E gdX12_hasRoom_4 rfl 1 rfl ?_
  obtain ⟨hi1, h⟩ := qIn_of h
  refine g_iald E 14 (wM_14 g ad o) (by decide) hi1 gdX12_hasRoom_5 ?_
  obtain ⟨n2, e_n2, h⟩ := qNm_of h
  refine g_nmi e_n2 ?_
  refine g_if_ne E 36 gdX12_hasRoom_6 (by decide) h (fun h => ?_) (fun h => ?_)
  ·
    refine g_sub E [] rfl ?_
    exact j36  h
  ·
    refine g_aload_n E gdX12_hasRoom_9 rfl 0 rfl ?_
    refine g_get (T := TX12) E fw_X12 0 (wM_0 g ad o) rfl 21 (by decide) w_1487 rfl rfl gdX12_hasRoom_10 ?_
    refine g_iload_n E gdX12_hasRoom_13 rfl 1 rfl ?_
    obtain ⟨hi3, h⟩ := qIn_of h
    refine g_zald E 16 (wM_16 g ad o) (by decide) hi3 gdX12_hasRoom_14 ?_
    obtain ⟨n4, e_n4, h⟩ := qNm_of h
    refine g_nmi e_n4 ?_
    refine g_if_ne E 36 gdX12_hasRoom_15 (by decide) h (fun h => ?_) (fun h => ?_)
    ·
      refine g_sub E [] rfl ?_
      exact j36  h
    ·
      refine g_aload_n E gdX12_hasRoom_18 rfl 0 rfl ?_
      refine g_iload_n E gdX12_hasRoom_19 rfl 1 rfl ?_
      obtain ⟨r5, hc6, h⟩ := qB_of h
      refine g_Vi (r := r5) (As := [iv x1]) (rest := []) (w := wM g ad o) E (c_X12_living l g ad o x1 r5 hc6) okm_X12_living okw_X12_living w_1831 rfl (wM_0 g ad o) rfl rfl (Nat.le_of_ble_eq_true rfl) ⟨Nat.le_of_ble_eq_true rfl, Nat.le_of_ble_eq_true rfl⟩ gdX12_hasRoom_20 ?_
      refine g_aload_n E gdX12_hasRoom_23 rfl 0 rfl ?_
      refine g_get (T := TX12) E fw_X12 0 (wM_0 g ad o) rfl 20 (by decide) w_1486 rfl rfl gdX12_hasRoom_24 ?_
      refine g_iload_n E gdX12_hasRoom_27 rfl 1 rfl ?_
      obtain ⟨hi7, h⟩ := qIn_of h
      refine g_iald E 15 (wM_15 g ad o) (by decide) hi7 gdX12_hasRoom_28 ?_
      obtain ⟨n8, e_n8, h⟩ := qNm_of h
      refine g_nmi e_n8 ?_
      refine g_icmp_ge E 36 gdX12_hasRoom_29 (by decide) h (fun h => ?_) (fun h => ?_)
      ·
        refine g_sub E [] rfl ?_
        exact j36  h
      ·
        refine g_iconst E gdX12_hasRoom_32 ?_
        refine g_goto E 37 gdX12_hasRoom_33 (by decide) ?_
        refine g_sub E [] rfl ?_
        exact j37 1 h
set_option maxHeartbeats 4000000 in
set_option maxRecDepth 100000 in
theorem c_X12_moved (l : Launch) (g : GG) (ad : Nat → Nat) (o : OO) (x1 : Int) (x2 : Int) (x3 : Int) (v : Int × OO) (h : s_X12_moved o x1 x2 x3 = some v) : CI l g yX12_moved cX12_moved 5 (some .int) 3 71 (wM g ad o) [.ref (ad 0), iv x1, iv x2, iv x3] v.1 (wM g ad v.2) := by
  refine met_I (by decide) (Nat.le_of_ble_eq_true rfl) ?_
  intro X E hQ
  show Go X 0 (wM g ad o) [(0, .ref (ad 0)), (1, iv x1), (2, iv x2), (3, iv x3)] []
  have j24 : ∀ (o : OO), b_X12_moved_24 o = some v → Go X 24 (wM g ad o) [] [] := by
    intro o h
    unfold b_X12_moved_24 at h
    refine g_iconst E gdX12_moved_24 ?_
    exact g_iret E hQ (by rw [← Option.some.inj h]) (by rw [← Option.some.inj h]) gdX12_moved_25
  have j84 : ∀ (o : OO), b_X12_moved_84 o = some v → Go X 84 (wM g ad o) [] [] := by
    intro o h
    unfold b_X12_moved_84 at h
    refine g_bipush E gdX12_moved_84 (by decide) ?_
    exact g_iret E hQ (by rw [← Option.some.inj h]) (by rw [← Option.some.inj h]) gdX12_moved_86
  unfold s_X12_moved at h
  refine g_aload_n E gdX12_moved_0 rfl 0 rfl ?_
  refine g_iload_n E gdX12_moved_1 rfl 1 rfl ?_
  obtain ⟨r1, hc2, h⟩ := qB_of h
  refine g_Vi (r := r1) (As := [iv x1]) (rest := []) (w := wM g ad o) E (c_X12_isMark l g ad o x1 r1 hc2) okm_X12_isMark okw_X12_isMark w_1903 rfl (wM_0 g ad o) rfl rfl (Nat.le_of_ble_eq_true rfl) ⟨Nat.le_of_ble_eq_true rfl, Nat.le_of_ble_eq_true rfl⟩ gdX12_moved_2 ?_
  refine g_if_eq E 24 gdX12_moved_5 (by decide) h (fun h => ?_) (fun h => ?_)
  ·
    refine g_sub E [] rfl ?_
    exact j24 o h
  ·
    refine g_aload_n E gdX12_moved_8 rfl 0 rfl ?_
    refine g_iload_n E gdX12_moved_9 rfl 2 rfl ?_
    obtain ⟨r3, hc4, h⟩ := qB_of h
    refine g_Vi (r := r3) (As := [iv x2]) (rest := []) (w := wM g ad o) E (c_X12_isPerson l g ad o x2 r3 hc4) okm_X12_isPerson okw_X12_isPerson w_1851 rfl (wM_0 g ad o) rfl rfl (Nat.le_of_ble_eq_true rfl) ⟨Nat.le_of_ble_eq_true rfl, Nat.le_of_ble_eq_true rfl⟩ gdX12_moved_10 ?_
    refine g_if_eq E 24 gdX12_moved_13 (by decide) h (fun h => ?_) (fun h => ?_)
    ·
      refine g_sub E [] rfl ?_
      exact j24 o h
    ·
      refine g_aload_n E gdX12_moved_16 rfl 0 rfl ?_
      refine g_iload_n E gdX12_moved_17 rfl 3 rfl ?_
      obtain ⟨r5, hc6, h⟩ := qB_of h
      refine g_Vi (r := r5) (As := [iv x3]) (rest := []) (w := wM g ad o) E (c_X12_isBuilding l g ad o x3 r5 hc6) okm_X12_isBuilding okw_X12_isBuilding w_1811 rfl (wM_0 g ad o) rfl rfl (Nat.le_of_ble_eq_true rfl) ⟨Nat.le_of_ble_eq_true rfl, Nat.le_of_ble_eq_true rfl⟩ gdX12_moved_18 ?_
      refine g_if_ne E 26 gdX12_moved_21 (by decide) h (fun h => ?_) (fun h => ?_)
      ·
        refine g_aload_n E gdX12_moved_26 rfl 0 rfl ?_
        refine g_get (T := TX12) E fw_X12 0 (wM_0 g ad o) rfl 32 (by decide) w_1498 rfl rfl gdX12_moved_27 ?_
        refine g_bipush E gdX12_moved_30 (by decide) ?_
        refine g_icmp_ne E 38 gdX12_moved_32 (by decide) h (fun h => ?_) (fun h => ?_)
        ·
          refine g_aload_n E gdX12_moved_38 rfl 0 rfl ?_
          refine g_get (T := TX12) E fw_X12 0 (wM_0 g ad o) rfl 33 (by decide) w_1499 rfl rfl gdX12_moved_39 ?_
          refine g_iload_n E gdX12_moved_42 rfl 1 rfl ?_
          obtain ⟨hi7, h⟩ := qIn_of h
          refine g_iald E 25 (wM_25 g ad o) (by decide) hi7 gdX12_moved_43 ?_
          obtain ⟨n8, e_n8, h⟩ := qNm_of h
          refine g_nmi e_n8 ?_
          refine g_iconst E gdX12_moved_44 ?_
          refine g_icmp_eq E 54 gdX12_moved_45 (by decide) h (fun h => ?_) (fun h => ?_)
          ·
            refine g_aload_n E gdX12_moved_54 rfl 0 rfl ?_
            refine g_get (T := TX12) E fw_X12 0 (wM_0 g ad o) rfl 42 (by decide) w_1508 rfl rfl gdX12_moved_55 ?_
            refine g_iload_n E gdX12_moved_58 rfl 1 rfl ?_
            obtain ⟨hi9, h⟩ := qIn_of h
            refine g_lald E 34 (wM_34 g ad o) (by decide) hi9 gdX12_moved_59 ?_
            obtain ⟨m10, e_m10, h⟩ := qNm_of h
            refine g_nml e_m10 ?_
            refine g_iload_n E gdX12_moved_60 rfl 2 rfl ?_
            obtain ⟨r11, hc12, h⟩ := qB_of h
            refine g_Si (r := r11) (As := [.long m10, iv x2]) (rest := []) (w := wM g ad o) E (c_X12_has l g (wM g ad o) m10 x2 r11 hc12) okm_X12_has w_1919 w_1918 rfl rfl (Nat.le_of_ble_eq_true rfl) ⟨Nat.le_of_ble_eq_true rfl, Nat.le_of_ble_eq_true rfl⟩ gdX12_moved_61 ?_
            refine g_if_eq E 84 gdX12_moved_64 (by decide) h (fun h => ?_) (fun h => ?_)
            ·
              refine g_sub E [] rfl ?_
              exact j84 o h
            ·
              refine g_aload_n E gdX12_moved_67 rfl 0 rfl ?_
              refine g_get (T := TX12) E fw_X12 0 (wM_0 g ad o) rfl 28 (by decide) w_1494 rfl rfl gdX12_moved_68 ?_
              refine g_iload_n E gdX12_moved_71 rfl 2 rfl ?_
              obtain ⟨hi13, h⟩ := qIn_of h
              refine g_iald E 21 (wM_21 g ad o) (by decide) hi13 gdX12_moved_72 ?_
              obtain ⟨n14, e_n14, h⟩ := qNm_of h
              refine g_nmi e_n14 ?_
              refine g_if_ge E 84 gdX12_moved_73 (by decide) h (fun h => ?_) (fun h => ?_)
              ·
                refine g_sub E [] rfl ?_
                exact j84 o h
              ·
                refine g_aload_n E gdX12_moved_76 rfl 0 rfl ?_
                refine g_iload_n E gdX12_moved_77 rfl 3 rfl ?_
                obtain ⟨r15, hc16, h⟩ := qB_of h
                refine g_Vi (r := r15) (As := [iv x3]) (rest := []) (w := wM g ad o) E (c_X12_hasRoom l g ad o x3 r15 hc16) okm_X12_hasRoom okw_X12_hasRoom w_1843 rfl (wM_0 g ad o) rfl rfl (Nat.le_of_ble_eq_true rfl) ⟨Nat.le_of_ble_eq_true rfl, Nat.le_of_ble_eq_true rfl⟩ gdX12_moved_78 ?_
                refine g_if_ne E 87 gdX12_moved_81 (by decide) h (fun h => ?_) (fun h => ?_)
                ·
                  refine g_aload_n E gdX12_moved_87 rfl 0 rfl ?_
                  refine g_iconst E gdX12_moved_88 ?_
                  refine g_iload_n E gdX12_moved_89 rfl 1 rfl ?_
                  obtain ⟨r17, o19, hc18, h⟩ := qB2_of h
                  refine g_Vi (r := r17) (As := [iv 4, iv x1]) (rest := []) (w := wM g ad o19) E (c_X12_enter l g ad o 4 x1 (r17, o19) hc18) okm_X12_enter okw_X12_enter w_1895 rfl (wM_0 g ad o) rfl rfl (Nat.le_of_ble_eq_true rfl) ⟨Nat.le_of_ble_eq_true rfl, Nat.le_of_ble_eq_true rfl⟩ gdX12_moved_90 ?_
                  refine g_istore E [(4, iv r17), (0, .ref (ad 0)), (1, iv x1), (2, iv x2), (3, iv x3)] gdX12_moved_93 (by decide) rfl ?_
                  refine g_aload_n E gdX12_moved_95 rfl 1 rfl ?_
                  refine g_get (T := TX12) E fw_X12 0 (wM_0 g ad o19) rfl 40 (by decide) w_1506 rfl rfl gdX12_moved_96 ?_
                  refine g_iload E gdX12_moved_99 0 rfl ?_
                  refine g_aload_n E gdX12_moved_101 rfl 1 rfl ?_
                  refine g_iconst E gdX12_moved_102 ?_
                  obtain ⟨r20, hc21, h⟩ := qB_of h
                  refine g_Vi (r := r20) (As := [iv 3]) (rest := [iv r17, .ref (ad 32)]) (w := wM g ad o19) E (c_X12_nowInForce l g ad o19 3 r20 hc21) okm_X12_nowInForce okw_X12_nowInForce w_1871 rfl (wM_0 g ad o19) rfl rfl (Nat.le_of_ble_eq_true rfl) ⟨Nat.le_of_ble_eq_true rfl, Nat.le_of_ble_eq_true rfl⟩ gdX12_moved_103 ?_
                  obtain ⟨hi22, h⟩ := qIn_of h
                  obtain ⟨o23, e_o23, h⟩ := qNm_of h
                  refine g_iast (ws' := wM g ad o23) E 32 (wM_32 g ad o19) (by decide) hi22 (by rw [e_o23]; exact wM_s32 g ad o19 _ _) gdX12_moved_106 ?_
                  refine g_aload_n E gdX12_moved_107 rfl 1 rfl ?_
                  refine g_get (T := TX12) E fw_X12 0 (wM_0 g ad o23) rfl 41 (by decide) w_1507 rfl rfl gdX12_moved_108 ?_
                  refine g_iload E gdX12_moved_111 0 rfl ?_
                  refine g_iload_n E gdX12_moved_113 rfl 3 rfl ?_
                  obtain ⟨hi24, h⟩ := qIn_of h
                  obtain ⟨o25, e_o25, h⟩ := qNm_of h
                  refine g_iast (ws' := wM g ad o25) E 33 (wM_33 g ad o23) (by decide) hi24 (by rw [e_o25]; exact wM_s33 g ad o23 _ _) gdX12_moved_114 ?_
                  refine g_aload_n E gdX12_moved_115 rfl 1 rfl ?_
                  refine g_get (T := TX12) E fw_X12 0 (wM_0 g ad o25) rfl 28 (by decide) w_1494 rfl rfl gdX12_moved_116 ?_
                  refine g_iload_n E gdX12_moved_119 rfl 3 rfl ?_
                  refine g_iload_n E gdX12_moved_120 rfl 4 rfl ?_
                  obtain ⟨hi26, h⟩ := qIn_of h
                  obtain ⟨o27, e_o27, h⟩ := qNm_of h
                  refine g_iast (ws' := wM g ad o27) E 21 (wM_21 g ad o25) (by decide) hi26 (by rw [e_o27]; exact wM_s21 g ad o25 _ _) gdX12_moved_121 ?_
                  refine g_aload_n E gdX12_moved_122 rfl 1 rfl ?_
                  refine g_aload_n E gdX12_moved_123 rfl 1 rfl ?_
                  refine g_get (T := TX12) E fw_X12 0 (wM_0 g ad o27) rfl 40 (by decide) w_1506 rfl rfl gdX12_moved_124 ?_
                  refine g_iload E gdX12_moved_127 0 rfl ?_
                  obtain ⟨hi28, h⟩ := qIn_of h
                  refine g_iald E 32 (wM_32 g ad o27) (by decide) hi28 gdX12_moved_129 ?_
                  obtain ⟨n29, e_n29, h⟩ := qNm_of h
                  refine g_nmi e_n29 ?_
                  refine g_iload E gdX12_moved_130 0 rfl ?_
                  obtain ⟨r30, o32, hc31, h⟩ := qB2_of h
                  refine g_Vi (r := r30) (As := [iv n29, iv r17]) (rest := []) (w := wM g ad o32) E (c_X12_ask l g ad o27 n29 r17 (r30, o32) hc31) okm_X12_ask okw_X12_ask w_1835 rfl (wM_0 g ad o27) rfl rfl (Nat.le_of_ble_eq_true rfl) ⟨Nat.le_of_ble_eq_true rfl, Nat.le_of_ble_eq_true rfl⟩ gdX12_moved_132 ?_
                  exact g_iret E hQ (by rw [← Option.some.inj h]) (by rw [← Option.some.inj h]) gdX12_moved_135
                ·
                  refine g_sub E [] rfl ?_
                  exact j84 o h
          ·
            refine g_aload_n E gdX12_moved_48 rfl 0 rfl ?_
            refine g_iconst E gdX12_moved_49 ?_
            obtain ⟨r33, o35, hc34, h⟩ := qB2_of h
            refine g_Vi (r := r33) (As := [iv 3]) (rest := []) (w := wM g ad o35) E (c_X12_meets l g ad o 3 (r33, o35) hc34) okm_X12_meets okw_X12_meets w_1708 rfl (wM_0 g ad o) rfl rfl (Nat.le_of_ble_eq_true rfl) ⟨Nat.le_of_ble_eq_true rfl, Nat.le_of_ble_eq_true rfl⟩ gdX12_moved_50 ?_
            exact g_iret E hQ (by rw [← Option.some.inj h]) (by rw [← Option.some.inj h]) gdX12_moved_53
        ·
          refine g_bipush E gdX12_moved_35 (by decide) ?_
          exact g_iret E hQ (by rw [← Option.some.inj h]) (by rw [← Option.some.inj h]) gdX12_moved_37
      ·
        refine g_sub E [] rfl ?_
        exact j24 o h
set_option maxHeartbeats 4000000 in
set_option maxRecDepth 100000 in
theorem c_X12_noise (l : Launch) (g : GG) (ad : Nat → Nat) (o : OO) (x1 : Int) (x2 : Int) (v : Int × OO) (h : s_X12_noise o x1 x2 = some v) : CI l g yX12_noise cX12_noise 3 (some .int) 4 98 (wM g ad o) [.ref (ad 0), iv x1, iv x2] v.1 (wM g ad v.2) := by
  refine met_I (by decide) (Nat.le_of_ble_eq_true rfl) ?_
  intro X E hQ
  show Go X 0 (wM g ad o) [(0, .ref (ad 0)), (1, iv x1), (2, iv x2)] []
  have j15 : ∀ (o : OO), b_X12_noise_15 o = some v → Go X 15 (wM g ad o) [] [] := by
    intro o h
    unfold b_X12_noise_15 at h
    refine g_iconst E gdX12_noise_15 ?_
    exact g_iret E hQ (by rw [← Option.some.inj h]) (by rw [← Option.some.inj h]) gdX12_noise_16
  have j66 : ∀ (o : OO) (y0 : Int), b_X12_noise_66 o y0 = some v → Go X 66 (wM g ad o) [] [iv y0] := by
    intro o y0 h
    unfold b_X12_noise_66 at h
    exact g_iret E hQ (by rw [← Option.some.inj h]) (by rw [← Option.some.inj h]) gdX12_noise_66
  unfold s_X12_noise at h
  refine g_aload_n E gdX12_noise_0 rfl 0 rfl ?_
  refine g_iload_n E gdX12_noise_1 rfl 1 rfl ?_
  obtain ⟨r1, hc2, h⟩ := qB_of h
  refine g_Vi (r := r1) (As := [iv x1]) (rest := []) (w := wM g ad o) E (c_X12_isMark l g ad o x1 r1 hc2) okm_X12_isMark okw_X12_isMark w_1903 rfl (wM_0 g ad o) rfl rfl (Nat.le_of_ble_eq_true rfl) ⟨Nat.le_of_ble_eq_true rfl, Nat.le_of_ble_eq_true rfl⟩ gdX12_noise_2 ?_
  refine g_if_eq E 15 gdX12_noise_5 (by decide) h (fun h => ?_) (fun h => ?_)
  ·
    refine g_sub E [] rfl ?_
    exact j15 o h
  ·
    refine g_iload_n E gdX12_noise_8 rfl 2 rfl ?_
    obtain ⟨r3, hc4, h⟩ := qB_of h
    refine g_Si (r := r3) (As := [iv x2]) (rest := []) (w := wM g ad o) E (c_X12_isRow l g (wM g ad o) x2 r3 hc4) okm_X12_isRow w_1703 w_1702 rfl rfl (Nat.le_of_ble_eq_true rfl) ⟨Nat.le_of_ble_eq_true rfl, Nat.le_of_ble_eq_true rfl⟩ gdX12_noise_9 ?_
    refine g_if_ne E 17 gdX12_noise_12 (by decide) h (fun h => ?_) (fun h => ?_)
    ·
      refine g_aload_n E gdX12_noise_17 rfl 0 rfl ?_
      refine g_iload_n E gdX12_noise_18 rfl 1 rfl ?_
      obtain ⟨r5, hc6, h⟩ := qB_of h
      refine g_Vi (r := r5) (As := [iv x1]) (rest := []) (w := wM g ad o) E (c_X12_isLine l g ad o x1 r5 hc6) okm_X12_isLine okw_X12_isLine w_1907 rfl (wM_0 g ad o) rfl rfl (Nat.le_of_ble_eq_true rfl) ⟨Nat.le_of_ble_eq_true rfl, Nat.le_of_ble_eq_true rfl⟩ gdX12_noise_19 ?_
      refine g_if_ne E 31 gdX12_noise_22 (by decide) h (fun h => ?_) (fun h => ?_)
      ·
        refine g_aload_n E gdX12_noise_31 rfl 0 rfl ?_
        refine g_get (T := TX12) E fw_X12 0 (wM_0 g ad o) rfl 5 (by decide) w_1471 rfl rfl gdX12_noise_32 ?_
        refine g_iload_n E gdX12_noise_35 rfl 2 rfl ?_
        obtain ⟨hi7, h⟩ := qIn_of h
        refine g_iald E 2 (wM_2 g ad o) (by decide) hi7 gdX12_noise_36 ?_
        obtain ⟨n8, e_n8, h⟩ := qNm_of h
        refine g_nmi e_n8 ?_
        refine g_if_ge E 48 gdX12_noise_37 (by decide) h (fun h => ?_) (fun h => ?_)
        ·
          refine g_aload_n E gdX12_noise_48 rfl 0 rfl ?_
          refine g_aload_n E gdX12_noise_49 rfl 0 rfl ?_
          refine g_iload_n E gdX12_noise_50 rfl 1 rfl ?_
          refine g_iload_n E gdX12_noise_51 rfl 2 rfl ?_
          refine g_iconst E gdX12_noise_52 ?_
          obtain ⟨r9, hc10, h⟩ := qB_of h
          refine g_Vi (r := r9) (As := [iv x1, iv x2, iv 1]) (rest := [.ref (ad 0)]) (w := wM g ad o) E (c_X12_loud l g ad o x1 x2 1 r9 hc10) okm_X12_loud okw_X12_loud w_2034 rfl (wM_0 g ad o) rfl rfl (Nat.le_of_ble_eq_true rfl) ⟨Nat.le_of_ble_eq_true rfl, Nat.le_of_ble_eq_true rfl⟩ gdX12_noise_53 ?_
          refine g_aload_n E gdX12_noise_56 rfl 0 rfl ?_
          refine g_iload_n E gdX12_noise_57 rfl 1 rfl ?_
          refine g_iload_n E gdX12_noise_58 rfl 2 rfl ?_
          refine g_iconst E gdX12_noise_59 ?_
          obtain ⟨r11, hc12, h⟩ := qB_of h
          refine g_Vi (r := r11) (As := [iv x1, iv x2, iv 0]) (rest := [iv r9, .ref (ad 0)]) (w := wM g ad o) E (c_X12_loud l g ad o x1 x2 0 r11 hc12) okm_X12_loud okw_X12_loud w_2034 rfl (wM_0 g ad o) rfl rfl (Nat.le_of_ble_eq_true rfl) ⟨Nat.le_of_ble_eq_true rfl, Nat.le_of_ble_eq_true rfl⟩ gdX12_noise_60 ?_
          obtain ⟨r13, o15, hc14, h⟩ := qB2_of h
          refine g_Vi (r := r13) (As := [iv r9, iv r11]) (rest := []) (w := wM g ad o15) E (c_X12_ask l g ad o r9 r11 (r13, o15) hc14) okm_X12_ask okw_X12_ask w_1835 rfl (wM_0 g ad o) rfl rfl (Nat.le_of_ble_eq_true rfl) ⟨Nat.le_of_ble_eq_true rfl, Nat.le_of_ble_eq_true rfl⟩ gdX12_noise_63 ?_
          refine g_sub E [] rfl ?_
          exact j66 o15 r13 h
        ·
          refine g_aload_n E gdX12_noise_40 rfl 0 rfl ?_
          refine g_iconst E gdX12_noise_41 ?_
          obtain ⟨r16, o18, hc17, h⟩ := qB2_of h
          refine g_Vi (r := r16) (As := [iv 1]) (rest := []) (w := wM g ad o18) E (c_X12_meets l g ad o 1 (r16, o18) hc17) okm_X12_meets okw_X12_meets w_1708 rfl (wM_0 g ad o) rfl rfl (Nat.le_of_ble_eq_true rfl) ⟨Nat.le_of_ble_eq_true rfl, Nat.le_of_ble_eq_true rfl⟩ gdX12_noise_42 ?_
          refine g_goto E 66 gdX12_noise_45 (by decide) ?_
          refine g_sub E [] rfl ?_
          exact j66 o18 r16 h
      ·
        refine g_aload_n E gdX12_noise_25 rfl 0 rfl ?_
        refine g_iconst E gdX12_noise_26 ?_
        obtain ⟨r19, o21, hc20, h⟩ := qB2_of h
        refine g_Vi (r := r19) (As := [iv 3]) (rest := []) (w := wM g ad o21) E (c_X12_meets l g ad o 3 (r19, o21) hc20) okm_X12_meets okw_X12_meets w_1708 rfl (wM_0 g ad o) rfl rfl (Nat.le_of_ble_eq_true rfl) ⟨Nat.le_of_ble_eq_true rfl, Nat.le_of_ble_eq_true rfl⟩ gdX12_noise_27 ?_
        exact g_iret E hQ (by rw [← Option.some.inj h]) (by rw [← Option.some.inj h]) gdX12_noise_30
    ·
      refine g_sub E [] rfl ?_
      exact j15 o h
set_option maxHeartbeats 4000000 in
set_option maxRecDepth 100000 in
theorem c_X12_over (l : Launch) (g : GG) (ad : Nat → Nat) (o : OO) (x1 : Int) (v : Int × OO) (h : s_X12_over o x1 = some v) : CI l g yX12_over cX12_over 3 (some .int) 3 64 (wM g ad o) [.ref (ad 0), iv x1] v.1 (wM g ad v.2) := by
  refine met_I (by decide) (Nat.le_of_ble_eq_true rfl) ?_
  intro X E hQ
  show Go X 0 (wM g ad o) [(0, .ref (ad 0)), (1, iv x1)] []
  unfold s_X12_over at h
  refine g_aload_n E gdX12_over_0 rfl 0 rfl ?_
  refine g_iload_n E gdX12_over_1 rfl 1 rfl ?_
  obtain ⟨r1, o3, hc2, h⟩ := qB2_of h
  refine g_Vi (r := r1) (As := [iv x1]) (rest := []) (w := wM g ad o3) E (c_X12_askedLine l g ad o x1 (r1, o3) hc2) okm_X12_askedLine okw_X12_askedLine w_1925 rfl (wM_0 g ad o) rfl rfl (Nat.le_of_ble_eq_true rfl) ⟨Nat.le_of_ble_eq_true rfl, Nat.le_of_ble_eq_true rfl⟩ gdX12_over_2 ?_
  refine g_istore_n E [(2, iv r1), (0, .ref (ad 0)), (1, iv x1)] gdX12_over_5 rfl (by decide) rfl ?_
  refine g_iload_n E gdX12_over_6 rfl 0 rfl ?_
  refine g_if_ge E 12 gdX12_over_7 (by decide) h (fun h => ?_) (fun h => ?_)
  ·
    refine g_aload_n E gdX12_over_12 rfl 1 rfl ?_
    refine g_aload_n E gdX12_over_13 rfl 1 rfl ?_
    refine g_iload_n E gdX12_over_14 rfl 2 rfl ?_
    obtain ⟨p4, hc5, h⟩ := qB_of h
    refine g_Vl (r := p4) (As := [iv x1]) (rest := [.ref (ad 0)]) (w := wM g ad o3) E (c_X12_cellsOf l g ad o3 x1 p4 hc5) okm_X12_cellsOf okw_X12_cellsOf w_1914 rfl (wM_0 g ad o3) rfl rfl (Nat.le_of_ble_eq_true rfl) ⟨Nat.le_of_ble_eq_true rfl, Nat.le_of_ble_eq_true rfl⟩ gdX12_over_15 ?_
    obtain ⟨o6, e_o6, h⟩ := qNm_of h
    refine g_putl (T := TX12) (ws' := wM g ad o6) E fw_X12 tyX12 tyX12_ok nmX12 0 (wM_0 g ad o3) rfl 3 (by decide) w_1469 rfl rfl (by decide +kernel) (Nat.le_of_ble_eq_true rfl) (by rw [e_o6]; exact wM_p0_3 g ad o3 _) gdX12_over_18 ?_
    refine g_aload_n E gdX12_over_21 rfl 1 rfl ?_
    refine g_get (T := TX12) E fw_X12 0 (wM_0 g ad o6) rfl 38 (by decide) w_1504 rfl rfl gdX12_over_22 ?_
    refine g_iload_n E gdX12_over_25 rfl 2 rfl ?_
    obtain ⟨hi7, h⟩ := qIn_of h
    refine g_iald E 30 (wM_30 g ad o6) (by decide) hi7 gdX12_over_26 ?_
    obtain ⟨n8, e_n8, h⟩ := qNm_of h
    refine g_nmi e_n8 ?_
    exact g_iret E hQ (by rw [← Option.some.inj h]) (by rw [← Option.some.inj h]) gdX12_over_27
  ·
    refine g_iload_n E gdX12_over_10 rfl 0 rfl ?_
    exact g_iret E hQ (by rw [← Option.some.inj h]) (by rw [← Option.some.inj h]) gdX12_over_11
set_option maxHeartbeats 4000000 in
set_option maxRecDepth 100000 in
theorem c_X12_owed (l : Launch) (g : GG) (ad : Nat → Nat) (o : OO) (v : Int × OO) (h : s_X12_owed o = some v) : CI l g yX12_owed cX12_owed 3 (some .int) 4 94 (wM g ad o) [.ref (ad 0)] v.1 (wM g ad v.2) := by
  refine met_I (by decide) (Nat.le_of_ble_eq_true rfl) ?_
  intro X E hQ
  show Go X 0 (wM g ad o) [(0, .ref (ad 0))] []
  have j89 : ∀ (o : OO) (x1 : Int), b_X12_owed_89 o x1 = some v → Go X 89 (wM g ad o) [(1, iv x1)] [] := by
    intro o x1 h
    unfold b_X12_owed_89 at h
    refine g_iload_n E gdX12_owed_89 rfl 0 rfl ?_
    exact g_iret E hQ (by rw [← Option.some.inj h]) (by rw [← Option.some.inj h]) gdX12_owed_90
  have j81 : ∀ (o : OO) (x2 : Int) (y0 : Int) (y1 : Int) (v : (OO × Int × Int) ⊕ ((OO × Int))), b_X12_owed_81 o x2 y0 y1 = some v → (∀ (o : OO) (x1 : Int) (x2 : Int), v = .inl (o, x1, x2) → Go X 9 (wM g ad o) [(0, .ref (ad 0)), (1, iv x1), (2, iv x2)] []) → (∀ (o : OO) (x1 : Int), v = .inr ((o, x1)) → Go X 89 (wM g ad o) [(1, iv x1)] []) → Go X 81 (wM g ad o) [(0, .ref (ad 0)), (2, iv x2)] [iv y1, iv y0] := by
    intro o x2 y0 y1 v h k0 k1
    unfold b_X12_owed_81 at h
    refine g_iadd E gdX12_owed_81 ?_
    obtain ⟨n1, e_n1, h⟩ := qNm_of h
    refine g_nmi e_n1 ?_
    refine g_istore_n E [(1, iv n1), (0, .ref (ad 0)), (2, iv x2)] gdX12_owed_82 rfl (by decide) rfl ?_
    refine g_iinc E [(2, iv (x2 + 1)), (1, iv n1), (0, .ref (ad 0))] gdX12_owed_83 2 rfl (by decide) rfl ?_
    refine g_goto E 9 gdX12_owed_86 (by decide) ?_
    refine g_sub E [2, 1, 0] rfl ?_
    exact k0 o n1 (x2 + 1) (Option.some.inj h).symm
  have j80 : ∀ (o : OO) (x2 : Int) (y0 : Int) (v : (OO × Int × Int) ⊕ ((OO × Int))), b_X12_owed_80 o x2 y0 = some v → (∀ (o : OO) (x1 : Int) (x2 : Int), v = .inl (o, x1, x2) → Go X 9 (wM g ad o) [(0, .ref (ad 0)), (1, iv x1), (2, iv x2)] []) → (∀ (o : OO) (x1 : Int), v = .inr ((o, x1)) → Go X 89 (wM g ad o) [(1, iv x1)] []) → Go X 80 (wM g ad o) [(0, .ref (ad 0)), (2, iv x2)] [iv y0] := by
    intro o x2 y0 v h k0 k1
    unfold b_X12_owed_80 at h
    refine g_iconst E gdX12_owed_80 ?_
    exact j81 o x2 y0 0 v h k0 k1
  have j53 : ∀ (o : OO) (x1 : Int) (x2 : Int) (y1 : Int64) (y2 : Int64) (v : (OO × Int × Int) ⊕ ((OO × Int))), b_X12_owed_53 o x1 x2 y1 y2 = some v → (∀ (o : OO) (x1 : Int) (x2 : Int), v = .inl (o, x1, x2) → Go X 9 (wM g ad o) [(0, .ref (ad 0)), (1, iv x1), (2, iv x2)] []) → (∀ (o : OO) (x1 : Int), v = .inr ((o, x1)) → Go X 89 (wM g ad o) [(1, iv x1)] []) → Go X 53 (wM g ad o) [(0, .ref (ad 0)), (1, iv x1), (2, iv x2)] [.long y2, .long y1, .ref (ad 0)] := by
    intro o x1 x2 y1 y2 v h k0 k1
    unfold b_X12_owed_53 at h
    refine g_ladd E gdX12_owed_53 ?_
    obtain ⟨o2, e_o2, h⟩ := qNm_of h
    refine g_putl (T := TX12) (ws' := wM g ad o2) E fw_X12 tyX12 tyX12_ok nmX12 0 (wM_0 g ad o) rfl 64 (by decide) w_1530 rfl rfl (by decide +kernel) (Nat.le_of_ble_eq_true rfl) (by rw [e_o2]; exact wM_p0_64 g ad o _) gdX12_owed_54 ?_
    refine g_iload_n E gdX12_owed_57 rfl 1 rfl ?_
    refine g_aload_n E gdX12_owed_58 rfl 0 rfl ?_
    refine g_get (T := TX12) E fw_X12 0 (wM_0 g ad o2) rfl 33 (by decide) w_1499 rfl rfl gdX12_owed_59 ?_
    refine g_iload_n E gdX12_owed_62 rfl 2 rfl ?_
    obtain ⟨hi3, h⟩ := qIn_of h
    refine g_iald E 25 (wM_25 g ad o2) (by decide) hi3 gdX12_owed_63 ?_
    obtain ⟨n4, e_n4, h⟩ := qNm_of h
    refine g_nmi e_n4 ?_
    refine g_iconst E gdX12_owed_64 ?_
    refine g_icmp_ne E 80 gdX12_owed_65 (by decide) h (fun h => ?_) (fun h => ?_)
    ·
      refine g_sub E [0, 2] rfl ?_
      exact j80 o2 x2 x1 v h k0 k1
    ·
      refine g_aload_n E gdX12_owed_68 rfl 0 rfl ?_
      refine g_iload_n E gdX12_owed_69 rfl 2 rfl ?_
      obtain ⟨r5, hc6, h⟩ := qB_of h
      refine g_Vi (r := r5) (As := [iv x2]) (rest := [iv x1]) (w := wM g ad o2) E (c_X12_isVoidTaking l g ad o2 x2 r5 hc6) okm_X12_isVoidTaking okw_X12_isVoidTaking w_2058 rfl (wM_0 g ad o2) rfl rfl (Nat.le_of_ble_eq_true rfl) ⟨Nat.le_of_ble_eq_true rfl, Nat.le_of_ble_eq_true rfl⟩ gdX12_owed_70 ?_
      refine g_if_eq E 80 gdX12_owed_73 (by decide) h (fun h => ?_) (fun h => ?_)
      ·
        refine g_sub E [0, 2] rfl ?_
        exact j80 o2 x2 x1 v h k0 k1
      ·
        refine g_iconst E gdX12_owed_76 ?_
        refine g_goto E 81 gdX12_owed_77 (by decide) ?_
        refine g_sub E [0, 2] rfl ?_
        exact j81 o2 x2 x1 1 v h k0 k1
  have j42 : ∀ (o : OO) (x1 : Int) (x2 : Int) (y1 : Int64) (v : (OO × Int × Int) ⊕ ((OO × Int))), b_X12_owed_42 o x1 x2 y1 = some v → (∀ (o : OO) (x1 : Int) (x2 : Int), v = .inl (o, x1, x2) → Go X 9 (wM g ad o) [(0, .ref (ad 0)), (1, iv x1), (2, iv x2)] []) → (∀ (o : OO) (x1 : Int), v = .inr ((o, x1)) → Go X 89 (wM g ad o) [(1, iv x1)] []) → Go X 42 (wM g ad o) [(0, .ref (ad 0)), (1, iv x1), (2, iv x2)] [.long y1, .ref (ad 0)] := by
    intro o x1 x2 y1 v h k0 k1
    unfold b_X12_owed_42 at h
    refine g_aload_n E gdX12_owed_42 rfl 0 rfl ?_
    refine g_get (T := TX12) E fw_X12 0 (wM_0 g ad o) rfl 40 (by decide) w_1506 rfl rfl gdX12_owed_43 ?_
    refine g_iload_n E gdX12_owed_46 rfl 2 rfl ?_
    obtain ⟨hi7, h⟩ := qIn_of h
    refine g_iald E 32 (wM_32 g ad o) (by decide) hi7 gdX12_owed_47 ?_
    obtain ⟨n8, e_n8, h⟩ := qNm_of h
    refine g_nmi e_n8 ?_
    refine g_i2l E gdX12_owed_48 ?_
    refine g_goto E 53 gdX12_owed_49 (by decide) ?_
    exact j53 o x1 x2 y1 (jl n8) v h k0 k1
  have l9 : ∀  (r : (OO × Int)) (s0 : OO × Int × Int), loopW (fun s => l_X12_owed_9 s.1 s.2.1 s.2.2) s0 = some r → (∀ (o : OO) (x1 : Int), r = ((o, x1)) → Go X 89 (wM g ad o) [(1, iv x1)] []) → Go X 9 (wM g ad s0.1) [(0, .ref (ad 0)), (1, iv s0.2.1), (2, iv s0.2.2)] [] := by
    intro r s0 h k1
    refine loop_rule (Head := fun s0 => Go X 9 (wM g ad s0.1) [(0, .ref (ad 0)), (1, iv s0.2.1), (2, iv s0.2.2)] []) h ?_
    intro s v h kk kx
    obtain ⟨o, x1, x2⟩ := s
    have h : l_X12_owed_9 o x1 x2 = some v := h
    have k0 : ∀ (o : OO) (x1 : Int) (x2 : Int), v = .inl (o, x1, x2) → Go X 9 (wM g ad o) [(0, .ref (ad 0)), (1, iv x1), (2, iv x2)] [] := fun o x1 x2 e => kk (o, x1, x2) e
    have k1 : ∀ (o : OO) (x1 : Int), v = .inr ((o, x1)) → Go X 89 (wM g ad o) [(1, iv x1)] [] := fun o x1 e => k1 o x1 (kx _ e).symm
    unfold l_X12_owed_9 at h
    refine g_iload_n E gdX12_owed_9 rfl 2 rfl ?_
    refine g_aload_n E gdX12_owed_10 rfl 0 rfl ?_
    refine g_get (T := TX12) E fw_X12 0 (wM_0 g ad o) rfl 32 (by decide) w_1498 rfl rfl gdX12_owed_11 ?_
    refine g_icmp_ge E 89 gdX12_owed_14 (by decide) h (fun h => ?_) (fun h => ?_)
    ·
      refine g_sub E [1] rfl ?_
      exact k1 o x1 (Option.some.inj h).symm
    ·
      refine g_aload_n E gdX12_owed_17 rfl 0 rfl ?_
      refine g_dup E gdX12_owed_18 rfl ?_
      refine g_get (T := TX12) E fw_X12 0 (wM_0 g ad o) rfl 64 (by decide) w_1530 rfl rfl gdX12_owed_19 ?_
      refine g_aload_n E gdX12_owed_22 rfl 0 rfl ?_
      refine g_get (T := TX12) E fw_X12 0 (wM_0 g ad o) rfl 33 (by decide) w_1499 rfl rfl gdX12_owed_23 ?_
      refine g_iload_n E gdX12_owed_26 rfl 2 rfl ?_
      obtain ⟨hi9, h⟩ := qIn_of h
      refine g_iald E 25 (wM_25 g ad o) (by decide) hi9 gdX12_owed_27 ?_
      obtain ⟨n10, e_n10, h⟩ := qNm_of h
      refine g_nmi e_n10 ?_
      refine g_iconst E gdX12_owed_28 ?_
      refine g_icmp_eq E 42 gdX12_owed_29 (by decide) h (fun h => ?_) (fun h => ?_)
      ·
        exact j42 o x1 x2 (o.2 0 64) v h k0 k1
      ·
        refine g_aload_n E gdX12_owed_32 rfl 0 rfl ?_
        refine g_get (T := TX12) E fw_X12 0 (wM_0 g ad o) rfl 33 (by decide) w_1499 rfl rfl gdX12_owed_33 ?_
        refine g_iload_n E gdX12_owed_36 rfl 2 rfl ?_
        obtain ⟨hi11, h⟩ := qIn_of h
        refine g_iald E 25 (wM_25 g ad o) (by decide) hi11 gdX12_owed_37 ?_
        obtain ⟨n12, e_n12, h⟩ := qNm_of h
        refine g_nmi e_n12 ?_
        refine g_iconst E gdX12_owed_38 ?_
        refine g_icmp_ne E 52 gdX12_owed_39 (by decide) h (fun h => ?_) (fun h => ?_)
        ·
          refine g_lconst (v := 0) E gdX12_owed_52 (by decide) ?_
          exact j53 o x1 x2 (o.2 0 64) (0 : Int64) v h k0 k1
        ·
          exact j42 o x1 x2 (o.2 0 64) v h k0 k1
  have j9 : ∀ (o : OO) (x1 : Int) (x2 : Int), e_X12_owed_9 o x1 x2 = some v → Go X 9 (wM g ad o) [(0, .ref (ad 0)), (1, iv x1), (2, iv x2)] [] := by
    intro o x1 x2 h
    unfold e_X12_owed_9 at h
    obtain ⟨r, hr, h⟩ := qB_of h
    refine l9  r _ hr ?_
    ·
      intro u0 u1 e
      subst e
      have h : b_X12_owed_89 u0 u1 = some v := h
      exact j89 u0 u1 h
  unfold s_X12_owed at h
  refine g_iconst E gdX12_owed_0 ?_
  refine g_istore_n E [(1, iv 0), (0, .ref (ad 0))] gdX12_owed_1 rfl (by decide) rfl ?_
  refine g_aload_n E gdX12_owed_2 rfl 1 rfl ?_
  refine g_lconst (v := 0) E gdX12_owed_3 (by decide) ?_
  obtain ⟨o13, e_o13, h⟩ := qNm_of h
  refine g_putl (T := TX12) (ws' := wM g ad o13) E fw_X12 tyX12 tyX12_ok nmX12 0 (wM_0 g ad o) rfl 64 (by decide) w_1530 rfl rfl (by decide +kernel) (Nat.le_of_ble_eq_true rfl) (by rw [e_o13]; exact wM_p0_64 g ad o _) gdX12_owed_4 ?_
  refine g_iconst E gdX12_owed_7 ?_
  refine g_istore_n E [(2, iv 0), (1, iv 0), (0, .ref (ad 0))] gdX12_owed_8 rfl (by decide) rfl ?_
  refine g_sub E [2, 1, 0] rfl ?_
  exact j9 o13 0 0 h
set_option maxHeartbeats 4000000 in
set_option maxRecDepth 100000 in
theorem c_X12_park (l : Launch) (g : GG) (ad : Nat → Nat) (o : OO) (x1 : Int) (v : Int × OO) (h : s_X12_park o x1 = some v) : CI l g yX12_park cX12_park 3 (some .int) 3 71 (wM g ad o) [.ref (ad 0), iv x1] v.1 (wM g ad v.2) := by
  refine met_I (by decide) (Nat.le_of_ble_eq_true rfl) ?_
  intro X E hQ
  show Go X 0 (wM g ad o) [(0, .ref (ad 0)), (1, iv x1)] []
  have j42 : ∀ (o : OO) (y0 : Int), b_X12_park_42 o y0 = some v → Go X 42 (wM g ad o) [] [iv y0] := by
    intro o y0 h
    unfold b_X12_park_42 at h
    exact g_iret E hQ (by rw [← Option.some.inj h]) (by rw [← Option.some.inj h]) gdX12_park_42
  have j39 : ∀ (o : OO) (y1 : Int) (y2 : Int), b_X12_park_39 o y1 y2 = some v → Go X 39 (wM g ad o) [] [iv y2, iv y1, .ref (ad 0)] := by
    intro o y1 y2 h
    unfold b_X12_park_39 at h
    obtain ⟨r1, o3, hc2, h⟩ := qB2_of h
    refine g_Vi (r := r1) (As := [iv y1, iv y2]) (rest := []) (w := wM g ad o3) E (c_X12_ask l g ad o y1 y2 (r1, o3) hc2) okm_X12_ask okw_X12_ask w_1835 rfl (wM_0 g ad o) rfl rfl (Nat.le_of_ble_eq_true rfl) ⟨Nat.le_of_ble_eq_true rfl, Nat.le_of_ble_eq_true rfl⟩ gdX12_park_39 ?_
    exact j42 o3 r1 h
  unfold s_X12_park at h
  refine g_aload_n E gdX12_park_0 rfl 0 rfl ?_
  refine g_iload_n E gdX12_park_1 rfl 1 rfl ?_
  obtain ⟨r4, o6, hc5, h⟩ := qB2_of h
  refine g_Vi (r := r4) (As := [iv x1]) (rest := []) (w := wM g ad o6) E (c_X12_askedLine l g ad o x1 (r4, o6) hc5) okm_X12_askedLine okw_X12_askedLine w_1925 rfl (wM_0 g ad o) rfl rfl (Nat.le_of_ble_eq_true rfl) ⟨Nat.le_of_ble_eq_true rfl, Nat.le_of_ble_eq_true rfl⟩ gdX12_park_2 ?_
  refine g_istore_n E [(2, iv r4), (0, .ref (ad 0)), (1, iv x1)] gdX12_park_5 rfl (by decide) rfl ?_
  refine g_iload_n E gdX12_park_6 rfl 0 rfl ?_
  refine g_if_ge E 14 gdX12_park_7 (by decide) h (fun h => ?_) (fun h => ?_)
  ·
    refine g_aload_n E gdX12_park_14 rfl 1 rfl ?_
    refine g_aload_n E gdX12_park_15 rfl 1 rfl ?_
    refine g_iload_n E gdX12_park_16 rfl 2 rfl ?_
    obtain ⟨r7, hc8, h⟩ := qB_of h
    refine g_Vi (r := r7) (As := [iv x1]) (rest := [.ref (ad 0)]) (w := wM g ad o6) E (c_X12_parks l g ad o6 x1 r7 hc8) okm_X12_parks okw_X12_parks w_2046 rfl (wM_0 g ad o6) rfl rfl (Nat.le_of_ble_eq_true rfl) ⟨Nat.le_of_ble_eq_true rfl, Nat.le_of_ble_eq_true rfl⟩ gdX12_park_17 ?_
    refine g_aload_n E gdX12_park_20 rfl 1 rfl ?_
    refine g_iload_n E gdX12_park_21 rfl 2 rfl ?_
    obtain ⟨r9, hc10, h⟩ := qB_of h
    refine g_Vi (r := r9) (As := [iv x1]) (rest := [iv r7, .ref (ad 0)]) (w := wM g ad o6) E (c_X12_parks l g ad o6 x1 r9 hc10) okm_X12_parks okw_X12_parks w_2046 rfl (wM_0 g ad o6) rfl rfl (Nat.le_of_ble_eq_true rfl) ⟨Nat.le_of_ble_eq_true rfl, Nat.le_of_ble_eq_true rfl⟩ gdX12_park_22 ?_
    refine g_aload_n E gdX12_park_25 rfl 1 rfl ?_
    refine g_bipush E gdX12_park_26 (by decide) ?_
    obtain ⟨r11, hc12, h⟩ := qB_of h
    refine g_Vi (r := r11) (As := [iv 6]) (rest := [iv r9, iv r7, .ref (ad 0)]) (w := wM g ad o6) E (c_X12_nowInForce l g ad o6 6 r11 hc12) okm_X12_nowInForce okw_X12_nowInForce w_1871 rfl (wM_0 g ad o6) rfl rfl (Nat.le_of_ble_eq_true rfl) ⟨Nat.le_of_ble_eq_true rfl, Nat.le_of_ble_eq_true rfl⟩ gdX12_park_28 ?_
    refine g_icmp_gt E 38 gdX12_park_31 (by decide) h (fun h => ?_) (fun h => ?_)
    ·
      refine g_iconst E gdX12_park_38 ?_
      refine g_sub E [] rfl ?_
      exact j39 o6 r7 0 h
    ·
      refine g_iconst E gdX12_park_34 ?_
      refine g_goto E 39 gdX12_park_35 (by decide) ?_
      refine g_sub E [] rfl ?_
      exact j39 o6 r7 1 h
  ·
    refine g_iload_n E gdX12_park_10 rfl 0 rfl ?_
    refine g_goto E 42 gdX12_park_11 (by decide) ?_
    refine g_sub E [] rfl ?_
    exact j42 o6 r4 h
set_option maxHeartbeats 4000000 in
set_option maxRecDepth 100000 in
theorem c_X12_person (l : Launch) (g : GG) (ad : Nat → Nat) (o : OO) (x1 : Int) (x2 : Int) (x3 : Int) (x4 : Int) (v : Int × OO) (h : s_X12_person o x1 x2 x3 x4 = some v) : CI l g yX12_person cX12_person 5 (some .int) 2 44 (wM g ad o) [.ref (ad 0), iv x1, iv x2, iv x3, iv x4] v.1 (wM g ad v.2) := by
  refine met_I (by decide) (Nat.le_of_ble_eq_true rfl) ?_
  intro X E hQ
  show Go X 0 (wM g ad o) [(0, .ref (ad 0)), (1, iv x1), (2, iv x2), (3, iv x3), (4, iv x4)] []
  have j38 : ∀ (o : OO), b_X12_person_38 o = some v → Go X 38 (wM g ad o) [] [] := by
    intro o h
    unfold b_X12_person_38 at h
    refine g_iconst E gdX12_person_38 ?_
    exact g_iret E hQ (by rw [← Option.some.inj h]) (by rw [← Option.some.inj h]) gdX12_person_39
  have j69 : ∀ (o : OO) (x1 : Int) (x2 : Int) (x3 : Int) (x4 : Int), b_X12_person_69 o x1 x2 x3 x4 = some v → Go X 69 (wM g ad o) [(0, .ref (ad 0)), (1, iv x1), (2, iv x2), (3, iv x3), (4, iv x4)] [] := by
    intro o x1 x2 x3 x4 h
    unfold b_X12_person_69 at h
    refine g_aload_n E gdX12_person_69 rfl 0 rfl ?_
    refine g_get (T := TX12) E fw_X12 0 (wM_0 g ad o) rfl 28 (by decide) w_1494 rfl rfl gdX12_person_70 ?_
    refine g_aload_n E gdX12_person_73 rfl 0 rfl ?_
    refine g_get (T := TX12) E fw_X12 0 (wM_0 g ad o) rfl 27 (by decide) w_1493 rfl rfl gdX12_person_74 ?_
    refine g_iload_n E gdX12_person_77 rfl 1 rfl ?_
    obtain ⟨hi1, h⟩ := qIn_of h
    obtain ⟨o2, e_o2, h⟩ := qNm_of h
    refine g_iast (ws' := wM g ad o2) E 21 (wM_21 g ad o) (by decide) hi1 (by rw [e_o2]; exact wM_s21 g ad o _ _) gdX12_person_78 ?_
    refine g_aload_n E gdX12_person_79 rfl 0 rfl ?_
    refine g_get (T := TX12) E fw_X12 0 (wM_0 g ad o2) rfl 29 (by decide) w_1495 rfl rfl gdX12_person_80 ?_
    refine g_aload_n E gdX12_person_83 rfl 0 rfl ?_
    refine g_get (T := TX12) E fw_X12 0 (wM_0 g ad o2) rfl 27 (by decide) w_1493 rfl rfl gdX12_person_84 ?_
    refine g_iload_n E gdX12_person_87 rfl 2 rfl ?_
    obtain ⟨hi3, h⟩ := qIn_of h
    obtain ⟨o4, e_o4, h⟩ := qNm_of h
    refine g_iast (ws' := wM g ad o4) E 22 (wM_22 g ad o2) (by decide) hi3 (by rw [e_o4]; exact wM_s22 g ad o2 _ _) gdX12_person_88 ?_
    refine g_aload_n E gdX12_person_89 rfl 0 rfl ?_
    refine g_get (T := TX12) E fw_X12 0 (wM_0 g ad o4) rfl 30 (by decide) w_1496 rfl rfl gdX12_person_90 ?_
    refine g_aload_n E gdX12_person_93 rfl 0 rfl ?_
    refine g_get (T := TX12) E fw_X12 0 (wM_0 g ad o4) rfl 27 (by decide) w_1493 rfl rfl gdX12_person_94 ?_
    refine g_iload_n E gdX12_person_97 rfl 3 rfl ?_
    obtain ⟨hi5, h⟩ := qIn_of h
    obtain ⟨hz6, h⟩ := qZ_of h
    obtain ⟨o7, e_o7, h⟩ := qNm_of h
    refine g_zast (ws' := wM g ad o7) E 23 (wM_23 g ad o4) (by decide) hi5 hz6 (by rw [e_o7]; exact wM_s23 g ad o4 _ _) gdX12_person_98 ?_
    refine g_aload_n E gdX12_person_99 rfl 0 rfl ?_
    refine g_get (T := TX12) E fw_X12 0 (wM_0 g ad o7) rfl 31 (by decide) w_1497 rfl rfl gdX12_person_100 ?_
    refine g_aload_n E gdX12_person_103 rfl 0 rfl ?_
    refine g_get (T := TX12) E fw_X12 0 (wM_0 g ad o7) rfl 27 (by decide) w_1493 rfl rfl gdX12_person_104 ?_
    refine g_iload E gdX12_person_107 4 rfl ?_
    obtain ⟨hi8, h⟩ := qIn_of h
    obtain ⟨o9, e_o9, h⟩ := qNm_of h
    refine g_iast (ws' := wM g ad o9) E 24 (wM_24 g ad o7) (by decide) hi8 (by rw [e_o9]; exact wM_s24 g ad o7 _ _) gdX12_person_109 ?_
    refine g_aload_n E gdX12_person_110 rfl 0 rfl ?_
    refine g_dup E gdX12_person_111 rfl ?_
    refine g_get (T := TX12) E fw_X12 0 (wM_0 g ad o9) rfl 27 (by decide) w_1493 rfl rfl gdX12_person_112 ?_
    refine g_iconst E gdX12_person_115 ?_
    refine g_iadd E gdX12_person_116 ?_
    obtain ⟨o10, e_o10, h⟩ := qNm_of h
    refine g_puti (T := TX12) (ws' := wM g ad o10) E fw_X12 tyX12 tyX12_ok nmX12 0 (wM_0 g ad o9) rfl 27 (by decide) w_1493 rfl rfl (by decide +kernel) (Nat.le_of_ble_eq_true rfl) (by rw [e_o10]; exact wM_p0_27 g ad o9 _) gdX12_person_117 ?_
    refine g_aload_n E gdX12_person_120 rfl 0 rfl ?_
    refine g_get (T := TX12) E fw_X12 0 (wM_0 g ad o10) rfl 27 (by decide) w_1493 rfl rfl gdX12_person_121 ?_
    refine g_iconst E gdX12_person_124 ?_
    refine g_isub E gdX12_person_125 ?_
    exact g_iret E hQ (by rw [← Option.some.inj h]) (by rw [← Option.some.inj h]) gdX12_person_126
  have j27 : ∀ (o : OO) (x1 : Int) (x2 : Int) (x3 : Int) (x4 : Int), b_X12_person_27 o x1 x2 x3 x4 = some v → Go X 27 (wM g ad o) [(0, .ref (ad 0)), (1, iv x1), (2, iv x2), (3, iv x3), (4, iv x4)] [] := by
    intro o x1 x2 x3 x4 h
    unfold b_X12_person_27 at h
    refine g_iload E gdX12_person_27 4 rfl ?_
    refine g_iconst E gdX12_person_29 ?_
    refine g_bipush E gdX12_person_30 (by decide) ?_
    obtain ⟨r11, hc12, h⟩ := qB_of h
    refine g_Si (r := r11) (As := [iv x4, iv 0, iv 9]) (rest := []) (w := wM g ad o) E (c_X12_in l g (wM g ad o) x4 0 9 r11 hc12) okm_X12_in w_1706 w_1705 rfl rfl (Nat.le_of_ble_eq_true rfl) ⟨Nat.le_of_ble_eq_true rfl, Nat.le_of_ble_eq_true rfl⟩ gdX12_person_32 ?_
    refine g_if_ne E 40 gdX12_person_35 (by decide) h (fun h => ?_) (fun h => ?_)
    ·
      refine g_aload_n E gdX12_person_40 rfl 0 rfl ?_
      refine g_get (T := TX12) E fw_X12 0 (wM_0 g ad o) rfl 27 (by decide) w_1493 rfl rfl gdX12_person_41 ?_
      refine g_bipush E gdX12_person_44 (by decide) ?_
      refine g_icmp_ne E 52 gdX12_person_46 (by decide) h (fun h => ?_) (fun h => ?_)
      ·
        refine g_iload_n E gdX12_person_52 rfl 1 rfl ?_
        refine g_bipush E gdX12_person_53 (by decide) ?_
        refine g_icmp_eq E 69 gdX12_person_55 (by decide) h (fun h => ?_) (fun h => ?_)
        ·
          exact j69 o x1 x2 x3 x4 h
        ·
          refine g_aload_n E gdX12_person_58 rfl 0 rfl ?_
          refine g_iload_n E gdX12_person_59 rfl 1 rfl ?_
          obtain ⟨r13, hc14, h⟩ := qB_of h
          refine g_Vi (r := r13) (As := [iv x1]) (rest := []) (w := wM g ad o) E (c_X12_hasRoom l g ad o x1 r13 hc14) okm_X12_hasRoom okw_X12_hasRoom w_1843 rfl (wM_0 g ad o) rfl rfl (Nat.le_of_ble_eq_true rfl) ⟨Nat.le_of_ble_eq_true rfl, Nat.le_of_ble_eq_true rfl⟩ gdX12_person_60 ?_
          refine g_if_ne E 69 gdX12_person_63 (by decide) h (fun h => ?_) (fun h => ?_)
          ·
            exact j69 o x1 x2 x3 x4 h
          ·
            refine g_bipush E gdX12_person_66 (by decide) ?_
            exact g_iret E hQ (by rw [← Option.some.inj h]) (by rw [← Option.some.inj h]) gdX12_person_68
      ·
        refine g_bipush E gdX12_person_49 (by decide) ?_
        exact g_iret E hQ (by rw [← Option.some.inj h]) (by rw [← Option.some.inj h]) gdX12_person_51
    ·
      refine g_sub E [] rfl ?_
      exact j38 o h
  have j14 : ∀ (o : OO) (x1 : Int) (x2 : Int) (x3 : Int) (x4 : Int), b_X12_person_14 o x1 x2 x3 x4 = some v → Go X 14 (wM g ad o) [(0, .ref (ad 0)), (1, iv x1), (2, iv x2), (3, iv x3), (4, iv x4)] [] := by
    intro o x1 x2 x3 x4 h
    unfold b_X12_person_14 at h
    refine g_iload_n E gdX12_person_14 rfl 2 rfl ?_
    refine g_bipush E gdX12_person_15 (by decide) ?_
    refine g_icmp_eq E 27 gdX12_person_17 (by decide) h (fun h => ?_) (fun h => ?_)
    ·
      exact j27 o x1 x2 x3 x4 h
    ·
      refine g_iload_n E gdX12_person_20 rfl 2 rfl ?_
      obtain ⟨r15, hc16, h⟩ := qB_of h
      refine g_Si (r := r15) (As := [iv x2]) (rest := []) (w := wM g ad o) E (c_X12_isCell l g (wM g ad o) x2 r15 hc16) okm_X12_isCell w_1789 w_1788 rfl rfl (Nat.le_of_ble_eq_true rfl) ⟨Nat.le_of_ble_eq_true rfl, Nat.le_of_ble_eq_true rfl⟩ gdX12_person_21 ?_
      refine g_if_eq E 38 gdX12_person_24 (by decide) h (fun h => ?_) (fun h => ?_)
      ·
        refine g_sub E [] rfl ?_
        exact j38 o h
      ·
        exact j27 o x1 x2 x3 x4 h
  unfold s_X12_person at h
  refine g_iload_n E gdX12_person_0 rfl 1 rfl ?_
  refine g_bipush E gdX12_person_1 (by decide) ?_
  refine g_icmp_eq E 14 gdX12_person_3 (by decide) h (fun h => ?_) (fun h => ?_)
  ·
    exact j14 o x1 x2 x3 x4 h
  ·
    refine g_aload_n E gdX12_person_6 rfl 0 rfl ?_
    refine g_iload_n E gdX12_person_7 rfl 1 rfl ?_
    obtain ⟨r17, hc18, h⟩ := qB_of h
    refine g_Vi (r := r17) (As := [iv x1]) (rest := []) (w := wM g ad o) E (c_X12_isBuilding l g ad o x1 r17 hc18) okm_X12_isBuilding okw_X12_isBuilding w_1811 rfl (wM_0 g ad o) rfl rfl (Nat.le_of_ble_eq_true rfl) ⟨Nat.le_of_ble_eq_true rfl, Nat.le_of_ble_eq_true rfl⟩ gdX12_person_8 ?_
    refine g_if_eq E 38 gdX12_person_11 (by decide) h (fun h => ?_) (fun h => ?_)
    ·
      refine g_sub E [] rfl ?_
      exact j38 o h
    ·
      exact j14 o x1 x2 x3 x4 h
set_option maxHeartbeats 4000000 in
set_option maxRecDepth 100000 in
theorem c_X12_put (l : Launch) (g : GG) (ad : Nat → Nat) (o : OO) (x1 : Int) (x2 : Int) (x3 : Int) (v : Int × OO) (h : s_X12_put o x1 x2 x3 = some v) : CI l g yX12_put cX12_put 6 (some .int) 3 63 (wM g ad o) [.ref (ad 0), iv x1, iv x2, iv x3] v.1 (wM g ad v.2) := by
  refine met_I (by decide) (Nat.le_of_ble_eq_true rfl) ?_
  intro X E hQ
  show Go X 0 (wM g ad o) [(0, .ref (ad 0)), (1, iv x1), (2, iv x2), (3, iv x3)] []
  unfold s_X12_put at h
  refine g_aload_n E gdX12_put_0 rfl 0 rfl ?_
  refine g_iload_n E gdX12_put_1 rfl 1 rfl ?_
  obtain ⟨r1, o3, hc2, h⟩ := qB2_of h
  refine g_Vi (r := r1) (As := [iv x1]) (rest := []) (w := wM g ad o3) E (c_X12_askedText l g ad o x1 (r1, o3) hc2) okm_X12_askedText okw_X12_askedText w_1739 rfl (wM_0 g ad o) rfl rfl (Nat.le_of_ble_eq_true rfl) ⟨Nat.le_of_ble_eq_true rfl, Nat.le_of_ble_eq_true rfl⟩ gdX12_put_2 ?_
  refine g_istore E [(4, iv r1), (0, .ref (ad 0)), (1, iv x1), (2, iv x2), (3, iv x3)] gdX12_put_5 (by decide) rfl ?_
  refine g_iload E gdX12_put_7 0 rfl ?_
  refine g_if_ge E 15 gdX12_put_9 (by decide) h (fun h => ?_) (fun h => ?_)
  ·
    refine g_iload_n E gdX12_put_15 rfl 3 rfl ?_
    refine g_iconst E gdX12_put_16 ?_
    refine g_aload_n E gdX12_put_17 rfl 1 rfl ?_
    refine g_get (T := TX12) E fw_X12 0 (wM_0 g ad o3) rfl 8 (by decide) w_1474 rfl rfl gdX12_put_18 ?_
    refine g_iload_n E gdX12_put_21 rfl 2 rfl ?_
    obtain ⟨hi4, h⟩ := qIn_of h
    refine g_iald E 5 (wM_5 g ad o3) (by decide) hi4 gdX12_put_22 ?_
    obtain ⟨n5, e_n5, h⟩ := qNm_of h
    refine g_nmi e_n5 ?_
    refine g_iconst E gdX12_put_23 ?_
    refine g_isub E gdX12_put_24 ?_
    obtain ⟨r6, hc7, h⟩ := qB_of h
    refine g_Si (r := r6) (As := [iv x2, iv 0, iv (n5 - 1)]) (rest := []) (w := wM g ad o3) E (c_X12_in l g (wM g ad o3) x2 0 (n5 - 1) r6 hc7) okm_X12_in w_1706 w_1705 rfl rfl (Nat.le_of_ble_eq_true rfl) ⟨Nat.le_of_ble_eq_true rfl, Nat.le_of_ble_eq_true rfl⟩ gdX12_put_25 ?_
    refine g_if_ne E 37 gdX12_put_28 (by decide) h (fun h => ?_) (fun h => ?_)
    ·
      refine g_aload_n E gdX12_put_37 rfl 1 rfl ?_
      refine g_get (T := TX12) E fw_X12 0 (wM_0 g ad o3) rfl 9 (by decide) w_1475 rfl rfl gdX12_put_38 ?_
      refine g_bipush E gdX12_put_41 (by decide) ?_
      refine g_iload_n E gdX12_put_43 rfl 2 rfl ?_
      refine g_imul E gdX12_put_44 ?_
      refine g_iload_n E gdX12_put_45 rfl 3 rfl ?_
      refine g_iadd E gdX12_put_46 ?_
      obtain ⟨hi8, h⟩ := qIn_of h
      refine g_iald E 6 (wM_6 g ad o3) (by decide) hi8 gdX12_put_47 ?_
      obtain ⟨n9, e_n9, h⟩ := qNm_of h
      refine g_nmi e_n9 ?_
      refine g_istore E [(5, iv n9), (4, iv r1), (0, .ref (ad 0)), (1, iv x1), (2, iv x2), (3, iv x3)] gdX12_put_48 (by decide) rfl ?_
      refine g_aload_n E gdX12_put_50 rfl 2 rfl ?_
      refine g_get (T := TX12) E fw_X12 0 (wM_0 g ad o3) rfl 9 (by decide) w_1475 rfl rfl gdX12_put_51 ?_
      refine g_bipush E gdX12_put_54 (by decide) ?_
      refine g_iload_n E gdX12_put_56 rfl 3 rfl ?_
      refine g_imul E gdX12_put_57 ?_
      refine g_iload_n E gdX12_put_58 rfl 4 rfl ?_
      refine g_iadd E gdX12_put_59 ?_
      refine g_iload_n E gdX12_put_60 rfl 5 rfl ?_
      refine g_i2b E gdX12_put_61 ?_
      obtain ⟨hi10, h⟩ := qIn_of h
      obtain ⟨o11, e_o11, h⟩ := qNm_of h
      refine g_iast (ws' := wM g ad o11) E 6 (wM_6 g ad o3) (by decide) hi10 (by rw [e_o11]; exact wM_s6 g ad o3 _ _) gdX12_put_62 ?_
      refine g_iload E gdX12_put_63 0 rfl ?_
      refine g_sipush E gdX12_put_65 (by decide) ?_
      refine g_iadd E gdX12_put_68 ?_
      exact g_iret E hQ (by rw [← Option.some.inj h]) (by rw [← Option.some.inj h]) gdX12_put_69
    ·
      refine g_aload_n E gdX12_put_31 rfl 1 rfl ?_
      refine g_iconst E gdX12_put_32 ?_
      obtain ⟨r12, o14, hc13, h⟩ := qB2_of h
      refine g_Vi (r := r12) (As := [iv 2]) (rest := []) (w := wM g ad o14) E (c_X12_meets l g ad o3 2 (r12, o14) hc13) okm_X12_meets okw_X12_meets w_1708 rfl (wM_0 g ad o3) rfl rfl (Nat.le_of_ble_eq_true rfl) ⟨Nat.le_of_ble_eq_true rfl, Nat.le_of_ble_eq_true rfl⟩ gdX12_put_33 ?_
      exact g_iret E hQ (by rw [← Option.some.inj h]) (by rw [← Option.some.inj h]) gdX12_put_36
  ·
    refine g_iload E gdX12_put_12 0 rfl ?_
    exact g_iret E hQ (by rw [← Option.some.inj h]) (by rw [← Option.some.inj h]) gdX12_put_14
set_option maxHeartbeats 4000000 in
set_option maxRecDepth 100000 in
theorem c_X12_ramp (l : Launch) (g : GG) (ad : Nat → Nat) (o : OO) (x1 : Int) (x2 : Int) (v : Int × OO) (h : s_X12_ramp o x1 x2 = some v) : CI l g yX12_ramp cX12_ramp 5 (some .int) 2 43 (wM g ad o) [.ref (ad 0), iv x1, iv x2] v.1 (wM g ad v.2) := by
  refine met_I (by decide) (Nat.le_of_ble_eq_true rfl) ?_
  intro X E hQ
  show Go X 0 (wM g ad o) [(0, .ref (ad 0)), (1, iv x1), (2, iv x2)] []
  have j15 : ∀ (o : OO), b_X12_ramp_15 o = some v → Go X 15 (wM g ad o) [] [] := by
    intro o h
    unfold b_X12_ramp_15 at h
    refine g_iconst E gdX12_ramp_15 ?_
    exact g_iret E hQ (by rw [← Option.some.inj h]) (by rw [← Option.some.inj h]) gdX12_ramp_16
  have j121 : ∀ (o : OO), b_X12_ramp_121 o = some v → Go X 121 (wM g ad o) [] [] := by
    intro o h
    unfold b_X12_ramp_121 at h
    refine g_bipush E gdX12_ramp_121 (by decide) ?_
    exact g_iret E hQ (by rw [← Option.some.inj h]) (by rw [← Option.some.inj h]) gdX12_ramp_123
  have j95 : ∀ (o : OO) (x1 : Int) (x2 : Int) (x3 : Int), b_X12_ramp_95 o x1 x2 x3 = some v → Go X 95 (wM g ad o) [(0, .ref (ad 0)), (1, iv x1), (2, iv x2), (3, iv x3)] [] := by
    intro o x1 x2 x3 h
    unfold b_X12_ramp_95 at h
    refine g_aload_n E gdX12_ramp_95 rfl 0 rfl ?_
    refine g_get (T := TX12) E fw_X12 0 (wM_0 g ad o) rfl 15 (by decide) w_1481 rfl rfl gdX12_ramp_96 ?_
    refine g_iload_n E gdX12_ramp_99 rfl 2 rfl ?_
    obtain ⟨hi1, h⟩ := qIn_of h
    refine g_iald E 11 (wM_11 g ad o) (by decide) hi1 gdX12_ramp_100 ?_
    obtain ⟨n2, e_n2, h⟩ := qNm_of h
    refine g_nmi e_n2 ?_
    refine g_iconst E gdX12_ramp_101 ?_
    refine g_icmp_eq E 121 gdX12_ramp_102 (by decide) h (fun h => ?_) (fun h => ?_)
    ·
      refine g_sub E [] rfl ?_
      exact j121 o h
    ·
      refine g_iload_n E gdX12_ramp_105 rfl 3 rfl ?_
      refine g_if_eq E 121 gdX12_ramp_106 (by decide) h (fun h => ?_) (fun h => ?_)
      ·
        refine g_sub E [] rfl ?_
        exact j121 o h
      ·
        refine g_aload_n E gdX12_ramp_109 rfl 0 rfl ?_
        refine g_iload_n E gdX12_ramp_110 rfl 1 rfl ?_
        obtain ⟨p3, hc4, h⟩ := qB_of h
        refine g_Vl (r := p3) (As := [iv x1]) (rest := []) (w := wM g ad o) E (c_X12_cellsOf l g ad o x1 p3 hc4) okm_X12_cellsOf okw_X12_cellsOf w_1914 rfl (wM_0 g ad o) rfl rfl (Nat.le_of_ble_eq_true rfl) ⟨Nat.le_of_ble_eq_true rfl, Nat.le_of_ble_eq_true rfl⟩ gdX12_ramp_111 ?_
        refine g_iload_n E gdX12_ramp_114 rfl 2 rfl ?_
        obtain ⟨r5, hc6, h⟩ := qB_of h
        refine g_Si (r := r5) (As := [.long p3, iv x2]) (rest := []) (w := wM g ad o) E (c_X12_has l g (wM g ad o) p3 x2 r5 hc6) okm_X12_has w_1919 w_1918 rfl rfl (Nat.le_of_ble_eq_true rfl) ⟨Nat.le_of_ble_eq_true rfl, Nat.le_of_ble_eq_true rfl⟩ gdX12_ramp_115 ?_
        refine g_if_eq E 124 gdX12_ramp_118 (by decide) h (fun h => ?_) (fun h => ?_)
        ·
          refine g_aload_n E gdX12_ramp_124 rfl 0 rfl ?_
          refine g_iconst E gdX12_ramp_125 ?_
          refine g_iload_n E gdX12_ramp_126 rfl 1 rfl ?_
          obtain ⟨r7, o9, hc8, h⟩ := qB2_of h
          refine g_Vi (r := r7) (As := [iv 2, iv x1]) (rest := []) (w := wM g ad o9) E (c_X12_enter l g ad o 2 x1 (r7, o9) hc8) okm_X12_enter okw_X12_enter w_1895 rfl (wM_0 g ad o) rfl rfl (Nat.le_of_ble_eq_true rfl) ⟨Nat.le_of_ble_eq_true rfl, Nat.le_of_ble_eq_true rfl⟩ gdX12_ramp_127 ?_
          refine g_istore E [(4, iv r7), (0, .ref (ad 0)), (1, iv x1), (2, iv x2), (3, iv x3)] gdX12_ramp_130 (by decide) rfl ?_
          refine g_aload_n E gdX12_ramp_132 rfl 1 rfl ?_
          refine g_get (T := TX12) E fw_X12 0 (wM_0 g ad o9) rfl 36 (by decide) w_1502 rfl rfl gdX12_ramp_133 ?_
          refine g_iload E gdX12_ramp_136 0 rfl ?_
          refine g_iconst E gdX12_ramp_138 ?_
          obtain ⟨hi10, h⟩ := qIn_of h
          obtain ⟨o11, e_o11, h⟩ := qNm_of h
          refine g_iast (ws' := wM g ad o11) E 28 (wM_28 g ad o9) (by decide) hi10 (by rw [e_o11]; exact wM_s28 g ad o9 _ _) gdX12_ramp_139 ?_
          refine g_aload_n E gdX12_ramp_140 rfl 1 rfl ?_
          refine g_get (T := TX12) E fw_X12 0 (wM_0 g ad o11) rfl 39 (by decide) w_1505 rfl rfl gdX12_ramp_141 ?_
          refine g_bipush E gdX12_ramp_144 (by decide) ?_
          refine g_iload E gdX12_ramp_146 0 rfl ?_
          refine g_imul E gdX12_ramp_148 ?_
          refine g_iload_n E gdX12_ramp_149 rfl 3 rfl ?_
          obtain ⟨hi12, h⟩ := qIn_of h
          obtain ⟨o13, e_o13, h⟩ := qNm_of h
          refine g_iast (ws' := wM g ad o13) E 31 (wM_31 g ad o11) (by decide) hi12 (by rw [e_o13]; exact wM_s31 g ad o11 _ _) gdX12_ramp_150 ?_
          refine g_aload_n E gdX12_ramp_151 rfl 1 rfl ?_
          refine g_get (T := TX12) E fw_X12 0 (wM_0 g ad o13) rfl 38 (by decide) w_1504 rfl rfl gdX12_ramp_152 ?_
          refine g_iload E gdX12_ramp_155 0 rfl ?_
          refine g_iconst E gdX12_ramp_157 ?_
          obtain ⟨hi14, h⟩ := qIn_of h
          obtain ⟨o15, e_o15, h⟩ := qNm_of h
          refine g_iast (ws' := wM g ad o15) E 30 (wM_30 g ad o13) (by decide) hi14 (by rw [e_o15]; exact wM_s30 g ad o13 _ _) gdX12_ramp_158 ?_
          refine g_iload E gdX12_ramp_159 0 rfl ?_
          exact g_iret E hQ (by rw [← Option.some.inj h]) (by rw [← Option.some.inj h]) gdX12_ramp_161
        ·
          refine g_sub E [] rfl ?_
          exact j121 o h
  have j88 : ∀ (o : OO) (x1 : Int) (x2 : Int) (x4 : Int) (y0 : Int) (v : (Int × Int) ⊕ ((Int))), b_X12_ramp_88 o x1 x2 x4 y0 = some v → (∀ (x3 : Int) (x4 : Int), v = .inl (x3, x4) → Go X 48 (wM g ad o) [(0, .ref (ad 0)), (1, iv x1), (2, iv x2), (3, iv x3), (4, iv x4)] []) → (∀ (x3 : Int), v = .inr (x3) → Go X 95 (wM g ad o) [(0, .ref (ad 0)), (1, iv x1), (2, iv x2), (3, iv x3)] []) → Go X 88 (wM g ad o) [(0, .ref (ad 0)), (1, iv x1), (2, iv x2), (4, iv x4)] [iv y0] := by
    intro o x1 x2 x4 y0 v h k0 k1
    unfold b_X12_ramp_88 at h
    refine g_istore_n E [(3, iv y0), (0, .ref (ad 0)), (1, iv x1), (2, iv x2), (4, iv x4)] gdX12_ramp_88 rfl (by decide) rfl ?_
    refine g_iinc E [(4, iv (x4 + 1)), (3, iv y0), (0, .ref (ad 0)), (1, iv x1), (2, iv x2)] gdX12_ramp_89 4 rfl (by decide) rfl ?_
    refine g_goto E 48 gdX12_ramp_92 (by decide) ?_
    refine g_sub E [2, 3, 4, 1, 0] rfl ?_
    exact k0 y0 (x4 + 1) (Option.some.inj h).symm
  have j83 : ∀ (o : OO) (x1 : Int) (x2 : Int) (x4 : Int) (v : (Int × Int) ⊕ ((Int))), b_X12_ramp_83 o x1 x2 x4 = some v → (∀ (x3 : Int) (x4 : Int), v = .inl (x3, x4) → Go X 48 (wM g ad o) [(0, .ref (ad 0)), (1, iv x1), (2, iv x2), (3, iv x3), (4, iv x4)] []) → (∀ (x3 : Int), v = .inr (x3) → Go X 95 (wM g ad o) [(0, .ref (ad 0)), (1, iv x1), (2, iv x2), (3, iv x3)] []) → Go X 83 (wM g ad o) [(0, .ref (ad 0)), (1, iv x1), (2, iv x2), (4, iv x4)] [] := by
    intro o x1 x2 x4 v h k0 k1
    unfold b_X12_ramp_83 at h
    refine g_iconst E gdX12_ramp_83 ?_
    refine g_goto E 88 gdX12_ramp_84 (by decide) ?_
    exact j88 o x1 x2 x4 1 v h k0 k1
  have l48 : ∀ (o : OO) (x1 : Int) (x2 : Int) (r : (Int)) (s0 : Int × Int), loopW (fun s => l_X12_ramp_48 o x1 x2 s.1 s.2) s0 = some r → (∀ (x3 : Int), r = (x3) → Go X 95 (wM g ad o) [(0, .ref (ad 0)), (1, iv x1), (2, iv x2), (3, iv x3)] []) → Go X 48 (wM g ad o) [(0, .ref (ad 0)), (1, iv x1), (2, iv x2), (3, iv s0.1), (4, iv s0.2)] [] := by
    intro o x1 x2 r s0 h k1
    refine loop_rule (Head := fun s0 => Go X 48 (wM g ad o) [(0, .ref (ad 0)), (1, iv x1), (2, iv x2), (3, iv s0.1), (4, iv s0.2)] []) h ?_
    intro s v h kk kx
    obtain ⟨x3, x4⟩ := s
    have h : l_X12_ramp_48 o x1 x2 x3 x4 = some v := h
    have k0 : ∀ (x3 : Int) (x4 : Int), v = .inl (x3, x4) → Go X 48 (wM g ad o) [(0, .ref (ad 0)), (1, iv x1), (2, iv x2), (3, iv x3), (4, iv x4)] [] := fun x3 x4 e => kk (x3, x4) e
    have k1 : ∀ (x3 : Int), v = .inr (x3) → Go X 95 (wM g ad o) [(0, .ref (ad 0)), (1, iv x1), (2, iv x2), (3, iv x3)] [] := fun x3 e => k1 x3 (kx _ e).symm
    unfold l_X12_ramp_48 at h
    refine g_iload E gdX12_ramp_48 4 rfl ?_
    refine g_aload_n E gdX12_ramp_50 rfl 0 rfl ?_
    refine g_get (T := TX12) E fw_X12 0 (wM_0 g ad o) rfl 38 (by decide) w_1504 rfl rfl gdX12_ramp_51 ?_
    refine g_iload_n E gdX12_ramp_54 rfl 1 rfl ?_
    obtain ⟨hi16, h⟩ := qIn_of h
    refine g_iald E 30 (wM_30 g ad o) (by decide) hi16 gdX12_ramp_55 ?_
    obtain ⟨n17, e_n17, h⟩ := qNm_of h
    refine g_nmi e_n17 ?_
    refine g_icmp_ge E 95 gdX12_ramp_56 (by decide) h (fun h => ?_) (fun h => ?_)
    ·
      refine g_sub E [0, 1, 2, 3] rfl ?_
      exact k1 x3 (Option.some.inj h).symm
    ·
      refine g_iload_n E gdX12_ramp_59 rfl 3 rfl ?_
      refine g_if_ne E 83 gdX12_ramp_60 (by decide) h (fun h => ?_) (fun h => ?_)
      ·
        refine g_sub E [0, 1, 2, 4] rfl ?_
        exact j83 o x1 x2 x4 v h k0 k1
      ·
        refine g_aload_n E gdX12_ramp_63 rfl 0 rfl ?_
        refine g_get (T := TX12) E fw_X12 0 (wM_0 g ad o) rfl 39 (by decide) w_1505 rfl rfl gdX12_ramp_64 ?_
        refine g_bipush E gdX12_ramp_67 (by decide) ?_
        refine g_iload_n E gdX12_ramp_69 rfl 1 rfl ?_
        refine g_imul E gdX12_ramp_70 ?_
        refine g_iload E gdX12_ramp_71 4 rfl ?_
        refine g_iadd E gdX12_ramp_73 ?_
        obtain ⟨hi18, h⟩ := qIn_of h
        refine g_iald E 31 (wM_31 g ad o) (by decide) hi18 gdX12_ramp_74 ?_
        obtain ⟨n19, e_n19, h⟩ := qNm_of h
        refine g_nmi e_n19 ?_
        refine g_iload_n E gdX12_ramp_75 rfl 2 rfl ?_
        obtain ⟨r20, hc21, h⟩ := qB_of h
        refine g_Si (r := r20) (As := [iv n19, iv x2]) (rest := []) (w := wM g ad o) E (c_X12_apart l g (wM g ad o) n19 x2 r20 hc21) okm_X12_apart w_1912 w_1911 rfl rfl (Nat.le_of_ble_eq_true rfl) ⟨Nat.le_of_ble_eq_true rfl, Nat.le_of_ble_eq_true rfl⟩ gdX12_ramp_76 ?_
        refine g_iconst E gdX12_ramp_79 ?_
        refine g_icmp_ne E 87 gdX12_ramp_80 (by decide) h (fun h => ?_) (fun h => ?_)
        ·
          refine g_iconst E gdX12_ramp_87 ?_
          refine g_sub E [0, 1, 2, 4] rfl ?_
          exact j88 o x1 x2 x4 0 v h k0 k1
        ·
          refine g_sub E [0, 1, 2, 4] rfl ?_
          exact j83 o x1 x2 x4 v h k0 k1
  have j48 : ∀ (o : OO) (x1 : Int) (x2 : Int) (x3 : Int) (x4 : Int), e_X12_ramp_48 o x1 x2 x3 x4 = some v → Go X 48 (wM g ad o) [(0, .ref (ad 0)), (1, iv x1), (2, iv x2), (3, iv x3), (4, iv x4)] [] := by
    intro o x1 x2 x3 x4 h
    unfold e_X12_ramp_48 at h
    obtain ⟨r, hr, h⟩ := qB_of h
    refine l48 o x1 x2 r _ hr ?_
    ·
      intro u0 e
      have e := e.symm
      subst e
      have h : b_X12_ramp_95 o x1 x2 u0 = some v := h
      exact j95 o x1 x2 u0 h
  unfold s_X12_ramp at h
  refine g_aload_n E gdX12_ramp_0 rfl 0 rfl ?_
  refine g_iload_n E gdX12_ramp_1 rfl 1 rfl ?_
  obtain ⟨r22, hc23, h⟩ := qB_of h
  refine g_Vi (r := r22) (As := [iv x1]) (rest := []) (w := wM g ad o) E (c_X12_isMark l g ad o x1 r22 hc23) okm_X12_isMark okw_X12_isMark w_1903 rfl (wM_0 g ad o) rfl rfl (Nat.le_of_ble_eq_true rfl) ⟨Nat.le_of_ble_eq_true rfl, Nat.le_of_ble_eq_true rfl⟩ gdX12_ramp_2 ?_
  refine g_if_eq E 15 gdX12_ramp_5 (by decide) h (fun h => ?_) (fun h => ?_)
  ·
    refine g_sub E [] rfl ?_
    exact j15 o h
  ·
    refine g_iload_n E gdX12_ramp_8 rfl 2 rfl ?_
    obtain ⟨r24, hc25, h⟩ := qB_of h
    refine g_Si (r := r24) (As := [iv x2]) (rest := []) (w := wM g ad o) E (c_X12_isCell l g (wM g ad o) x2 r24 hc25) okm_X12_isCell w_1789 w_1788 rfl rfl (Nat.le_of_ble_eq_true rfl) ⟨Nat.le_of_ble_eq_true rfl, Nat.le_of_ble_eq_true rfl⟩ gdX12_ramp_9 ?_
    refine g_if_ne E 17 gdX12_ramp_12 (by decide) h (fun h => ?_) (fun h => ?_)
    ·
      refine g_aload_n E gdX12_ramp_17 rfl 0 rfl ?_
      refine g_get (T := TX12) E fw_X12 0 (wM_0 g ad o) rfl 32 (by decide) w_1498 rfl rfl gdX12_ramp_18 ?_
      refine g_bipush E gdX12_ramp_21 (by decide) ?_
      refine g_icmp_ne E 29 gdX12_ramp_23 (by decide) h (fun h => ?_) (fun h => ?_)
      ·
        refine g_aload_n E gdX12_ramp_29 rfl 0 rfl ?_
        refine g_iload_n E gdX12_ramp_30 rfl 1 rfl ?_
        obtain ⟨r26, hc27, h⟩ := qB_of h
        refine g_Vi (r := r26) (As := [iv x1]) (rest := []) (w := wM g ad o) E (c_X12_isLine l g ad o x1 r26 hc27) okm_X12_isLine okw_X12_isLine w_1907 rfl (wM_0 g ad o) rfl rfl (Nat.le_of_ble_eq_true rfl) ⟨Nat.le_of_ble_eq_true rfl, Nat.le_of_ble_eq_true rfl⟩ gdX12_ramp_31 ?_
        refine g_if_ne E 43 gdX12_ramp_34 (by decide) h (fun h => ?_) (fun h => ?_)
        ·
          refine g_iconst E gdX12_ramp_43 ?_
          refine g_istore_n E [(3, iv 0), (0, .ref (ad 0)), (1, iv x1), (2, iv x2)] gdX12_ramp_44 rfl (by decide) rfl ?_
          refine g_iconst E gdX12_ramp_45 ?_
          refine g_istore E [(4, iv 0), (3, iv 0), (0, .ref (ad 0)), (1, iv x1), (2, iv x2)] gdX12_ramp_46 (by decide) rfl ?_
          refine g_sub E [2, 3, 4, 1, 0] rfl ?_
          exact j48 o x1 x2 0 0 h
        ·
          refine g_aload_n E gdX12_ramp_37 rfl 0 rfl ?_
          refine g_iconst E gdX12_ramp_38 ?_
          obtain ⟨r28, o30, hc29, h⟩ := qB2_of h
          refine g_Vi (r := r28) (As := [iv 3]) (rest := []) (w := wM g ad o30) E (c_X12_meets l g ad o 3 (r28, o30) hc29) okm_X12_meets okw_X12_meets w_1708 rfl (wM_0 g ad o) rfl rfl (Nat.le_of_ble_eq_true rfl) ⟨Nat.le_of_ble_eq_true rfl, Nat.le_of_ble_eq_true rfl⟩ gdX12_ramp_39 ?_
          exact g_iret E hQ (by rw [← Option.some.inj h]) (by rw [← Option.some.inj h]) gdX12_ramp_42
      ·
        refine g_bipush E gdX12_ramp_26 (by decide) ?_
        exact g_iret E hQ (by rw [← Option.some.inj h]) (by rw [← Option.some.inj h]) gdX12_ramp_28
    ·
      refine g_sub E [] rfl ?_
      exact j15 o h
set_option maxHeartbeats 4000000 in
set_option maxRecDepth 100000 in
theorem c_X12_row (l : Launch) (g : GG) (ad : Nat → Nat) (o : OO) (x1 : Int) (x2 : Int) (v : Int × OO) (h : s_X12_row o x1 x2 = some v) : CI l g yX12_row cX12_row 4 (some .int) 2 42 (wM g ad o) [.ref (ad 0), iv x1, iv x2] v.1 (wM g ad v.2) := by
  refine met_I (by decide) (Nat.le_of_ble_eq_true rfl) ?_
  intro X E hQ
  show Go X 0 (wM g ad o) [(0, .ref (ad 0)), (1, iv x1), (2, iv x2)] []
  have j13 : ∀ (o : OO), b_X12_row_13 o = some v → Go X 13 (wM g ad o) [] [] := by
    intro o h
    unfold b_X12_row_13 at h
    refine g_iconst E gdX12_row_13 ?_
    exact g_iret E hQ (by rw [← Option.some.inj h]) (by rw [← Option.some.inj h]) gdX12_row_14
  have j58 : ∀ (o : OO) (x2 : Int), b_X12_row_58 o x2 = some v → Go X 58 (wM g ad o) [(2, iv x2)] [] := by
    intro o x2 h
    unfold b_X12_row_58 at h
    refine g_iload_n E gdX12_row_58 rfl 0 rfl ?_
    exact g_iret E hQ (by rw [← Option.some.inj h]) (by rw [← Option.some.inj h]) gdX12_row_59
  have l34 : ∀ (x1 : Int) (x2 : Int) (r : (OO)) (s0 : OO × Int), loopW (fun s => l_X12_row_34 x1 x2 s.1 s.2) s0 = some r → (∀ (o : OO), r = (o) → Go X 58 (wM g ad o) [(2, iv x2)] []) → Go X 34 (wM g ad s0.1) [(0, .ref (ad 0)), (1, iv x1), (2, iv x2), (3, iv s0.2)] [] := by
    intro x1 x2 r s0 h k1
    refine loop_rule (Head := fun s0 => Go X 34 (wM g ad s0.1) [(0, .ref (ad 0)), (1, iv x1), (2, iv x2), (3, iv s0.2)] []) h ?_
    intro s v h kk kx
    obtain ⟨o, x3⟩ := s
    have h : l_X12_row_34 x1 x2 o x3 = some v := h
    have k0 : ∀ (o : OO) (x3 : Int), v = .inl (o, x3) → Go X 34 (wM g ad o) [(0, .ref (ad 0)), (1, iv x1), (2, iv x2), (3, iv x3)] [] := fun o x3 e => kk (o, x3) e
    have k1 : ∀ (o : OO), v = .inr (o) → Go X 58 (wM g ad o) [(2, iv x2)] [] := fun o e => k1 o (kx _ e).symm
    unfold l_X12_row_34 at h
    refine g_iload_n E gdX12_row_34 rfl 3 rfl ?_
    refine g_bipush E gdX12_row_35 (by decide) ?_
    refine g_icmp_ge E 58 gdX12_row_37 (by decide) h (fun h => ?_) (fun h => ?_)
    ·
      refine g_sub E [2] rfl ?_
      exact k1 o (Option.some.inj h).symm
    ·
      refine g_aload_n E gdX12_row_40 rfl 0 rfl ?_
      refine g_get (T := TX12) E fw_X12 0 (wM_0 g ad o) rfl 6 (by decide) w_1472 rfl rfl gdX12_row_41 ?_
      refine g_bipush E gdX12_row_44 (by decide) ?_
      refine g_iload_n E gdX12_row_46 rfl 1 rfl ?_
      refine g_imul E gdX12_row_47 ?_
      refine g_iload_n E gdX12_row_48 rfl 3 rfl ?_
      refine g_iadd E gdX12_row_49 ?_
      refine g_iconst E gdX12_row_50 ?_
      obtain ⟨hi1, h⟩ := qIn_of h
      obtain ⟨o2, e_o2, h⟩ := qNm_of h
      refine g_iast (ws' := wM g ad o2) E 3 (wM_3 g ad o) (by decide) hi1 (by rw [e_o2]; exact wM_s3 g ad o _ _) gdX12_row_51 ?_
      refine g_iinc E [(3, iv (x3 + 1)), (0, .ref (ad 0)), (1, iv x1), (2, iv x2)] gdX12_row_52 3 rfl (by decide) rfl ?_
      refine g_goto E 34 gdX12_row_55 (by decide) ?_
      refine g_sub E [1, 2, 3, 0] rfl ?_
      exact k0 o2 (x3 + 1) (Option.some.inj h).symm
  have j34 : ∀ (o : OO) (x1 : Int) (x2 : Int) (x3 : Int), e_X12_row_34 o x1 x2 x3 = some v → Go X 34 (wM g ad o) [(0, .ref (ad 0)), (1, iv x1), (2, iv x2), (3, iv x3)] [] := by
    intro o x1 x2 x3 h
    unfold e_X12_row_34 at h
    obtain ⟨r, hr, h⟩ := qB_of h
    refine l34 x1 x2 r _ hr ?_
    ·
      intro u0 e
      have e := e.symm
      subst e
      have h : b_X12_row_58 u0 x2 = some v := h
      exact j58 u0 x2 h
  unfold s_X12_row at h
  refine g_iload_n E gdX12_row_0 rfl 1 rfl ?_
  obtain ⟨r3, hc4, h⟩ := qB_of h
  refine g_Si (r := r3) (As := [iv x1]) (rest := []) (w := wM g ad o) E (c_X12_isRow l g (wM g ad o) x1 r3 hc4) okm_X12_isRow w_1703 w_1702 rfl rfl (Nat.le_of_ble_eq_true rfl) ⟨Nat.le_of_ble_eq_true rfl, Nat.le_of_ble_eq_true rfl⟩ gdX12_row_1 ?_
  refine g_if_eq E 13 gdX12_row_4 (by decide) h (fun h => ?_) (fun h => ?_)
  ·
    refine g_sub E [] rfl ?_
    exact j13 o h
  ·
    refine g_iload_n E gdX12_row_7 rfl 2 rfl ?_
    refine g_bipush E gdX12_row_8 (by decide) ?_
    refine g_icmp_le E 15 gdX12_row_10 (by decide) h (fun h => ?_) (fun h => ?_)
    ·
      refine g_iload_n E gdX12_row_15 rfl 2 rfl ?_
      refine g_if_ge E 25 gdX12_row_16 (by decide) h (fun h => ?_) (fun h => ?_)
      ·
        refine g_aload_n E gdX12_row_25 rfl 0 rfl ?_
        refine g_get (T := TX12) E fw_X12 0 (wM_0 g ad o) rfl 5 (by decide) w_1471 rfl rfl gdX12_row_26 ?_
        refine g_iload_n E gdX12_row_29 rfl 1 rfl ?_
        refine g_iload_n E gdX12_row_30 rfl 2 rfl ?_
        obtain ⟨hi5, h⟩ := qIn_of h
        obtain ⟨o6, e_o6, h⟩ := qNm_of h
        refine g_iast (ws' := wM g ad o6) E 2 (wM_2 g ad o) (by decide) hi5 (by rw [e_o6]; exact wM_s2 g ad o _ _) gdX12_row_31 ?_
        refine g_iconst E gdX12_row_32 ?_
        refine g_istore_n E [(3, iv 0), (0, .ref (ad 0)), (1, iv x1), (2, iv x2)] gdX12_row_33 rfl (by decide) rfl ?_
        refine g_sub E [1, 2, 3, 0] rfl ?_
        exact j34 o6 x1 x2 0 h
      ·
        refine g_aload_n E gdX12_row_19 rfl 0 rfl ?_
        refine g_iconst E gdX12_row_20 ?_
        obtain ⟨r7, o9, hc8, h⟩ := qB2_of h
        refine g_Vi (r := r7) (As := [iv 5]) (rest := []) (w := wM g ad o9) E (c_X12_meets l g ad o 5 (r7, o9) hc8) okm_X12_meets okw_X12_meets w_1708 rfl (wM_0 g ad o) rfl rfl (Nat.le_of_ble_eq_true rfl) ⟨Nat.le_of_ble_eq_true rfl, Nat.le_of_ble_eq_true rfl⟩ gdX12_row_21 ?_
        exact g_iret E hQ (by rw [← Option.some.inj h]) (by rw [← Option.some.inj h]) gdX12_row_24
    ·
      refine g_sub E [] rfl ?_
      exact j13 o h
set_option maxHeartbeats 4000000 in
set_option maxRecDepth 100000 in
theorem c_X12_rule (l : Launch) (g : GG) (ad : Nat → Nat) (o : OO) (x1 : Int) (x2 : Int) (v : Int × OO) (h : s_X12_rule o x1 x2 = some v) : CI l g yX12_rule cX12_rule 4 (some .int) 2 47 (wM g ad o) [.ref (ad 0), iv x1, iv x2] v.1 (wM g ad v.2) := by
  refine met_I (by decide) (Nat.le_of_ble_eq_true rfl) ?_
  intro X E hQ
  show Go X 0 (wM g ad o) [(0, .ref (ad 0)), (1, iv x1), (2, iv x2)] []
  have j14 : ∀ (o : OO), b_X12_rule_14 o = some v → Go X 14 (wM g ad o) [] [] := by
    intro o h
    unfold b_X12_rule_14 at h
    refine g_iconst E gdX12_rule_14 ?_
    exact g_iret E hQ (by rw [← Option.some.inj h]) (by rw [← Option.some.inj h]) gdX12_rule_15
  have j113 : ∀ (o : OO), b_X12_rule_113 o = some v → Go X 113 (wM g ad o) [(0, .ref (ad 0))] [] := by
    intro o h
    unfold b_X12_rule_113 at h
    refine g_aload_n E gdX12_rule_113 rfl 0 rfl ?_
    refine g_dup E gdX12_rule_114 rfl ?_
    refine g_get (T := TX12) E fw_X12 0 (wM_0 g ad o) rfl 10 (by decide) w_1476 rfl rfl gdX12_rule_115 ?_
    refine g_iconst E gdX12_rule_118 ?_
    refine g_iadd E gdX12_rule_119 ?_
    obtain ⟨o1, e_o1, h⟩ := qNm_of h
    refine g_puti (T := TX12) (ws' := wM g ad o1) E fw_X12 tyX12 tyX12_ok nmX12 0 (wM_0 g ad o) rfl 10 (by decide) w_1476 rfl rfl (by decide +kernel) (Nat.le_of_ble_eq_true rfl) (by rw [e_o1]; exact wM_p0_10 g ad o _) gdX12_rule_120 ?_
    refine g_aload_n E gdX12_rule_123 rfl 0 rfl ?_
    refine g_get (T := TX12) E fw_X12 0 (wM_0 g ad o1) rfl 10 (by decide) w_1476 rfl rfl gdX12_rule_124 ?_
    refine g_iconst E gdX12_rule_127 ?_
    refine g_isub E gdX12_rule_128 ?_
    exact g_iret E hQ (by rw [← Option.some.inj h]) (by rw [← Option.some.inj h]) gdX12_rule_129
  have l81 : ∀  (r : (OO)) (s0 : OO × Int), loopW (fun s => l_X12_rule_81 s.1 s.2) s0 = some r → (∀ (o : OO), r = (o) → Go X 113 (wM g ad o) [(0, .ref (ad 0))] []) → Go X 81 (wM g ad s0.1) [(0, .ref (ad 0)), (3, iv s0.2)] [] := by
    intro r s0 h k1
    refine loop_rule (Head := fun s0 => Go X 81 (wM g ad s0.1) [(0, .ref (ad 0)), (3, iv s0.2)] []) h ?_
    intro s v h kk kx
    obtain ⟨o, x3⟩ := s
    have h : l_X12_rule_81 o x3 = some v := h
    have k0 : ∀ (o : OO) (x3 : Int), v = .inl (o, x3) → Go X 81 (wM g ad o) [(0, .ref (ad 0)), (3, iv x3)] [] := fun o x3 e => kk (o, x3) e
    have k1 : ∀ (o : OO), v = .inr (o) → Go X 113 (wM g ad o) [(0, .ref (ad 0))] [] := fun o e => k1 o (kx _ e).symm
    unfold l_X12_rule_81 at h
    refine g_iload_n E gdX12_rule_81 rfl 1 rfl ?_
    refine g_bipush E gdX12_rule_82 (by decide) ?_
    refine g_icmp_ge E 113 gdX12_rule_84 (by decide) h (fun h => ?_) (fun h => ?_)
    ·
      refine g_sub E [0] rfl ?_
      exact k1 o (Option.some.inj h).symm
    ·
      refine g_aload_n E gdX12_rule_87 rfl 0 rfl ?_
      refine g_get (T := TX12) E fw_X12 0 (wM_0 g ad o) rfl 13 (by decide) w_1479 rfl rfl gdX12_rule_88 ?_
      refine g_bipush E gdX12_rule_91 (by decide) ?_
      refine g_aload_n E gdX12_rule_93 rfl 0 rfl ?_
      refine g_get (T := TX12) E fw_X12 0 (wM_0 g ad o) rfl 10 (by decide) w_1476 rfl rfl gdX12_rule_94 ?_
      refine g_imul E gdX12_rule_97 ?_
      refine g_iload_n E gdX12_rule_98 rfl 1 rfl ?_
      refine g_iadd E gdX12_rule_99 ?_
      refine g_aload_n E gdX12_rule_100 rfl 0 rfl ?_
      refine g_get (T := TX12) E fw_X12 0 (wM_0 g ad o) rfl 14 (by decide) w_1480 rfl rfl gdX12_rule_101 ?_
      refine g_iload_n E gdX12_rule_104 rfl 1 rfl ?_
      obtain ⟨hi2, h⟩ := qIn_of h
      refine g_iald E 10 (wM_10 g ad o) (by decide) hi2 gdX12_rule_105 ?_
      obtain ⟨n3, e_n3, h⟩ := qNm_of h
      refine g_nmi e_n3 ?_
      obtain ⟨hi4, h⟩ := qIn_of h
      obtain ⟨o5, e_o5, h⟩ := qNm_of h
      refine g_iast (ws' := wM g ad o5) E 9 (wM_9 g ad o) (by decide) hi4 (by rw [e_o5]; exact wM_s9 g ad o _ _) gdX12_rule_106 ?_
      refine g_iinc E [(3, iv (x3 + 1)), (0, .ref (ad 0))] gdX12_rule_107 1 rfl (by decide) rfl ?_
      refine g_goto E 81 gdX12_rule_110 (by decide) ?_
      refine g_sub E [1, 0] rfl ?_
      exact k0 o5 (x3 + 1) (Option.some.inj h).symm
  have j81 : ∀ (o : OO) (x3 : Int), e_X12_rule_81 o x3 = some v → Go X 81 (wM g ad o) [(0, .ref (ad 0)), (3, iv x3)] [] := by
    intro o x3 h
    unfold e_X12_rule_81 at h
    obtain ⟨r, hr, h⟩ := qB_of h
    refine l81  r _ hr ?_
    ·
      intro u0 e
      have e := e.symm
      subst e
      have h : b_X12_rule_113 u0 = some v := h
      exact j113 u0 h
  unfold s_X12_rule at h
  refine g_iload_n E gdX12_rule_0 rfl 1 rfl ?_
  obtain ⟨r6, hc7, h⟩ := qB_of h
  refine g_Si (r := r6) (As := [iv x1]) (rest := []) (w := wM g ad o) E (c_X12_isText l g (wM g ad o) x1 r6 hc7) okm_X12_isText w_1733 w_1732 rfl rfl (Nat.le_of_ble_eq_true rfl) ⟨Nat.le_of_ble_eq_true rfl, Nat.le_of_ble_eq_true rfl⟩ gdX12_rule_1 ?_
  refine g_if_eq E 14 gdX12_rule_4 (by decide) h (fun h => ?_) (fun h => ?_)
  ·
    refine g_sub E [] rfl ?_
    exact j14 o h
  ·
    refine g_iload_n E gdX12_rule_7 rfl 2 rfl ?_
    obtain ⟨r8, hc9, h⟩ := qB_of h
    refine g_Si (r := r8) (As := [iv x2]) (rest := []) (w := wM g ad o) E (c_X12_isDay l g (wM g ad o) x2 r8 hc9) okm_X12_isDay w_1763 w_1762 rfl rfl (Nat.le_of_ble_eq_true rfl) ⟨Nat.le_of_ble_eq_true rfl, Nat.le_of_ble_eq_true rfl⟩ gdX12_rule_8 ?_
    refine g_if_ne E 16 gdX12_rule_11 (by decide) h (fun h => ?_) (fun h => ?_)
    ·
      refine g_aload_n E gdX12_rule_16 rfl 0 rfl ?_
      refine g_get (T := TX12) E fw_X12 0 (wM_0 g ad o) rfl 10 (by decide) w_1476 rfl rfl gdX12_rule_17 ?_
      refine g_bipush E gdX12_rule_20 (by decide) ?_
      refine g_icmp_ne E 28 gdX12_rule_22 (by decide) h (fun h => ?_) (fun h => ?_)
      ·
        refine g_aload_n E gdX12_rule_28 rfl 0 rfl ?_
        refine g_get (T := TX12) E fw_X12 0 (wM_0 g ad o) rfl 8 (by decide) w_1474 rfl rfl gdX12_rule_29 ?_
        refine g_iload_n E gdX12_rule_32 rfl 1 rfl ?_
        obtain ⟨hi10, h⟩ := qIn_of h
        refine g_iald E 5 (wM_5 g ad o) (by decide) hi10 gdX12_rule_33 ?_
        obtain ⟨n11, e_n11, h⟩ := qNm_of h
        refine g_nmi e_n11 ?_
        refine g_if_ge E 43 gdX12_rule_34 (by decide) h (fun h => ?_) (fun h => ?_)
        ·
          refine g_aload_n E gdX12_rule_43 rfl 0 rfl ?_
          refine g_iload_n E gdX12_rule_44 rfl 1 rfl ?_
          obtain ⟨r12, o14, hc13, h⟩ := qB2_of h
          refine g_Vi (r := r12) (As := [iv x1]) (rest := []) (w := wM g ad o14) E (c_X12_reads l g ad o x1 (r12, o14) hc13) okm_X12_reads okw_X12_reads w_1751 rfl (wM_0 g ad o) rfl rfl (Nat.le_of_ble_eq_true rfl) ⟨Nat.le_of_ble_eq_true rfl, Nat.le_of_ble_eq_true rfl⟩ gdX12_rule_45 ?_
          refine g_bipush E gdX12_rule_48 (by decide) ?_
          refine g_icmp_eq E 56 gdX12_rule_50 (by decide) h (fun h => ?_) (fun h => ?_)
          ·
            refine g_aload_n E gdX12_rule_56 rfl 0 rfl ?_
            refine g_get (T := TX12) E fw_X12 0 (wM_0 g ad o14) rfl 11 (by decide) w_1477 rfl rfl gdX12_rule_57 ?_
            refine g_aload_n E gdX12_rule_60 rfl 0 rfl ?_
            refine g_get (T := TX12) E fw_X12 0 (wM_0 g ad o14) rfl 10 (by decide) w_1476 rfl rfl gdX12_rule_61 ?_
            refine g_aload_n E gdX12_rule_64 rfl 0 rfl ?_
            refine g_get (T := TX12) E fw_X12 0 (wM_0 g ad o14) rfl 4 (by decide) w_1470 rfl rfl gdX12_rule_65 ?_
            obtain ⟨hi15, h⟩ := qIn_of h
            obtain ⟨o16, e_o16, h⟩ := qNm_of h
            refine g_iast (ws' := wM g ad o16) E 7 (wM_7 g ad o14) (by decide) hi15 (by rw [e_o16]; exact wM_s7 g ad o14 _ _) gdX12_rule_68 ?_
            refine g_aload_n E gdX12_rule_69 rfl 0 rfl ?_
            refine g_get (T := TX12) E fw_X12 0 (wM_0 g ad o16) rfl 12 (by decide) w_1478 rfl rfl gdX12_rule_70 ?_
            refine g_aload_n E gdX12_rule_73 rfl 0 rfl ?_
            refine g_get (T := TX12) E fw_X12 0 (wM_0 g ad o16) rfl 10 (by decide) w_1476 rfl rfl gdX12_rule_74 ?_
            refine g_iload_n E gdX12_rule_77 rfl 2 rfl ?_
            obtain ⟨hi17, h⟩ := qIn_of h
            obtain ⟨o18, e_o18, h⟩ := qNm_of h
            refine g_iast (ws' := wM g ad o18) E 8 (wM_8 g ad o16) (by decide) hi17 (by rw [e_o18]; exact wM_s8 g ad o16 _ _) gdX12_rule_78 ?_
            refine g_iconst E gdX12_rule_79 ?_
            refine g_istore_n E [(3, iv 0), (0, .ref (ad 0)), (1, iv x1), (2, iv x2)] gdX12_rule_80 rfl (by decide) rfl ?_
            refine g_sub E [1, 0] rfl ?_
            exact j81 o18 0 h
          ·
            refine g_bipush E gdX12_rule_53 (by decide) ?_
            exact g_iret E hQ (by rw [← Option.some.inj h]) (by rw [← Option.some.inj h]) gdX12_rule_55
        ·
          refine g_aload_n E gdX12_rule_37 rfl 0 rfl ?_
          refine g_iconst E gdX12_rule_38 ?_
          obtain ⟨r19, o21, hc20, h⟩ := qB2_of h
          refine g_Vi (r := r19) (As := [iv 1]) (rest := []) (w := wM g ad o21) E (c_X12_meets l g ad o 1 (r19, o21) hc20) okm_X12_meets okw_X12_meets w_1708 rfl (wM_0 g ad o) rfl rfl (Nat.le_of_ble_eq_true rfl) ⟨Nat.le_of_ble_eq_true rfl, Nat.le_of_ble_eq_true rfl⟩ gdX12_rule_39 ?_
          exact g_iret E hQ (by rw [← Option.some.inj h]) (by rw [← Option.some.inj h]) gdX12_rule_42
      ·
        refine g_bipush E gdX12_rule_25 (by decide) ?_
        exact g_iret E hQ (by rw [← Option.some.inj h]) (by rw [← Option.some.inj h]) gdX12_rule_27
    ·
      refine g_sub E [] rfl ?_
      exact j14 o h
set_option maxHeartbeats 4000000 in
set_option maxRecDepth 100000 in
theorem c_X12_set (l : Launch) (g : GG) (ad : Nat → Nat) (o : OO) (v : Int64) (h : s_X12_set o = some v) : CL l g yX12_set cX12_set 1 (some .long) 0 0 (wM g ad o) [.ref (ad 0)] v (wM g ad o) := by
  refine met_L (by decide) (Nat.le_of_ble_eq_true rfl) ?_
  intro X E hQ
  show Go X 0 (wM g ad o) [(0, .ref (ad 0))] []
  unfold s_X12_set at h
  refine g_aload_n E gdX12_set_0 rfl 0 rfl ?_
  refine g_get (T := TX12) E fw_X12 0 (wM_0 g ad o) rfl 3 (by decide) w_1469 rfl rfl gdX12_set_1 ?_
  exact g_lret E hQ (Option.some.inj h) rfl gdX12_set_4
set_option maxHeartbeats 4000000 in
set_option maxRecDepth 100000 in
theorem c_X12_isNear (l : Launch) (g : GG) (ad : Nat → Nat) (o : OO) (x1 : Int) (x2 : Int) (v : Int) (h : s_X12_isNear o x1 x2 = some v) : CI l g yX12_isNear cX12_isNear 6 (some .boolean) 1 22 (wM g ad o) [.ref (ad 0), iv x1, iv x2] v (wM g ad o) := by
  refine met_I (by decide) (Nat.le_of_ble_eq_true rfl) ?_
  intro X E hQ
  show Go X 0 (wM g ad o) [(0, .ref (ad 0)), (1, iv x1), (2, iv x2)] []
  have j84 : ∀ (x3 : Int), b_X12_isNear_84 o x3 = some v → Go X 84 (wM g ad o) [(3, iv x3)] [] := by
    intro x3 h
    unfold b_X12_isNear_84 at h
    refine g_iload_n E gdX12_isNear_84 rfl 0 rfl ?_
    obtain ⟨hz, h⟩ := qZ_of h
    exact g_zret E hQ hz (Option.some.inj h) rfl gdX12_isNear_85
  have j77 : ∀ (x1 : Int) (x2 : Int) (x4 : Int) (y0 : Int) (v : (Int × Int) ⊕ ((Int))), b_X12_isNear_77 o x1 x2 x4 y0 = some v → (∀ (x3 : Int) (x4 : Int), v = .inl (x3, x4) → Go X 5 (wM g ad o) [(0, .ref (ad 0)), (1, iv x1), (2, iv x2), (3, iv x3), (4, iv x4)] []) → (∀ (x3 : Int), v = .inr (x3) → Go X 84 (wM g ad o) [(3, iv x3)] []) → Go X 77 (wM g ad o) [(0, .ref (ad 0)), (1, iv x1), (2, iv x2), (4, iv x4)] [iv y0] := by
    intro x1 x2 x4 y0 v h k0 k1
    unfold b_X12_isNear_77 at h
    refine g_istore_n E [(3, iv y0), (0, .ref (ad 0)), (1, iv x1), (2, iv x2), (4, iv x4)] gdX12_isNear_77 rfl (by decide) rfl ?_
    refine g_iinc E [(4, iv (x4 + 1)), (3, iv y0), (0, .ref (ad 0)), (1, iv x1), (2, iv x2)] gdX12_isNear_78 4 rfl (by decide) rfl ?_
    refine g_goto E 5 gdX12_isNear_81 (by decide) ?_
    refine g_sub E [2, 3, 4, 1, 0] rfl ?_
    exact k0 y0 (x4 + 1) (Option.some.inj h).symm
  have j72 : ∀ (x1 : Int) (x2 : Int) (x4 : Int) (v : (Int × Int) ⊕ ((Int))), b_X12_isNear_72 o x1 x2 x4 = some v → (∀ (x3 : Int) (x4 : Int), v = .inl (x3, x4) → Go X 5 (wM g ad o) [(0, .ref (ad 0)), (1, iv x1), (2, iv x2), (3, iv x3), (4, iv x4)] []) → (∀ (x3 : Int), v = .inr (x3) → Go X 84 (wM g ad o) [(3, iv x3)] []) → Go X 72 (wM g ad o) [(0, .ref (ad 0)), (1, iv x1), (2, iv x2), (4, iv x4)] [] := by
    intro x1 x2 x4 v h k0 k1
    unfold b_X12_isNear_72 at h
    refine g_iconst E gdX12_isNear_72 ?_
    refine g_goto E 77 gdX12_isNear_73 (by decide) ?_
    exact j77 x1 x2 x4 1 v h k0 k1
  have j76 : ∀ (x1 : Int) (x2 : Int) (x4 : Int) (v : (Int × Int) ⊕ ((Int))), b_X12_isNear_76 o x1 x2 x4 = some v → (∀ (x3 : Int) (x4 : Int), v = .inl (x3, x4) → Go X 5 (wM g ad o) [(0, .ref (ad 0)), (1, iv x1), (2, iv x2), (3, iv x3), (4, iv x4)] []) → (∀ (x3 : Int), v = .inr (x3) → Go X 84 (wM g ad o) [(3, iv x3)] []) → Go X 76 (wM g ad o) [(0, .ref (ad 0)), (1, iv x1), (2, iv x2), (4, iv x4)] [] := by
    intro x1 x2 x4 v h k0 k1
    unfold b_X12_isNear_76 at h
    refine g_iconst E gdX12_isNear_76 ?_
    exact j77 x1 x2 x4 0 v h k0 k1
  have l5 : ∀ (x1 : Int) (x2 : Int) (r : (Int)) (s0 : Int × Int), loopW (fun s => l_X12_isNear_5 o x1 x2 s.1 s.2) s0 = some r → (∀ (x3 : Int), r = (x3) → Go X 84 (wM g ad o) [(3, iv x3)] []) → Go X 5 (wM g ad o) [(0, .ref (ad 0)), (1, iv x1), (2, iv x2), (3, iv s0.1), (4, iv s0.2)] [] := by
    intro x1 x2 r s0 h k1
    refine loop_rule (Head := fun s0 => Go X 5 (wM g ad o) [(0, .ref (ad 0)), (1, iv x1), (2, iv x2), (3, iv s0.1), (4, iv s0.2)] []) h ?_
    intro s v h kk kx
    obtain ⟨x3, x4⟩ := s
    have h : l_X12_isNear_5 o x1 x2 x3 x4 = some v := h
    have k0 : ∀ (x3 : Int) (x4 : Int), v = .inl (x3, x4) → Go X 5 (wM g ad o) [(0, .ref (ad 0)), (1, iv x1), (2, iv x2), (3, iv x3), (4, iv x4)] [] := fun x3 x4 e => kk (x3, x4) e
    have k1 : ∀ (x3 : Int), v = .inr (x3) → Go X 84 (wM g ad o) [(3, iv x3)] [] := fun x3 e => k1 x3 (kx _ e).symm
    unfold l_X12_isNear_5 at h
    refine g_iload E gdX12_isNear_5 4 rfl ?_
    refine g_aload_n E gdX12_isNear_7 rfl 0 rfl ?_
    refine g_get (T := TX12) E fw_X12 0 (wM_0 g ad o) rfl 38 (by decide) w_1504 rfl rfl gdX12_isNear_8 ?_
    refine g_iload_n E gdX12_isNear_11 rfl 1 rfl ?_
    obtain ⟨hi1, h⟩ := qIn_of h
    refine g_iald E 30 (wM_30 g ad o) (by decide) hi1 gdX12_isNear_12 ?_
    obtain ⟨n2, e_n2, h⟩ := qNm_of h
    refine g_nmi e_n2 ?_
    refine g_icmp_ge E 84 gdX12_isNear_13 (by decide) h (fun h => ?_) (fun h => ?_)
    ·
      refine g_sub E [3] rfl ?_
      exact k1 x3 (Option.some.inj h).symm
    ·
      refine g_aload_n E gdX12_isNear_16 rfl 0 rfl ?_
      refine g_get (T := TX12) E fw_X12 0 (wM_0 g ad o) rfl 39 (by decide) w_1505 rfl rfl gdX12_isNear_17 ?_
      refine g_bipush E gdX12_isNear_20 (by decide) ?_
      refine g_iload_n E gdX12_isNear_22 rfl 1 rfl ?_
      refine g_imul E gdX12_isNear_23 ?_
      refine g_iload E gdX12_isNear_24 4 rfl ?_
      refine g_iadd E gdX12_isNear_26 ?_
      obtain ⟨hi3, h⟩ := qIn_of h
      refine g_iald E 31 (wM_31 g ad o) (by decide) hi3 gdX12_isNear_27 ?_
      obtain ⟨n4, e_n4, h⟩ := qNm_of h
      refine g_nmi e_n4 ?_
      refine g_istore E [(5, iv n4), (0, .ref (ad 0)), (1, iv x1), (2, iv x2), (3, iv x3), (4, iv x4)] gdX12_isNear_28 (by decide) rfl ?_
      refine g_iload_n E gdX12_isNear_30 rfl 4 rfl ?_
      refine g_if_ne E 72 gdX12_isNear_31 (by decide) h (fun h => ?_) (fun h => ?_)
      ·
        refine g_sub E [1, 2, 3, 5] rfl ?_
        exact j72 x1 x2 x4 v h k0 k1
      ·
        refine g_iload_n E gdX12_isNear_34 rfl 3 rfl ?_
        refine g_bipush E gdX12_isNear_35 (by decide) ?_
        obtain ⟨hd5, h⟩ := qDv_of h
        refine g_irem E hd5 gdX12_isNear_37 ?_
        refine g_iload E gdX12_isNear_38 0 rfl ?_
        refine g_bipush E gdX12_isNear_40 (by decide) ?_
        obtain ⟨hd6, h⟩ := qDv_of h
        refine g_irem E hd6 gdX12_isNear_42 ?_
        refine g_isub E gdX12_isNear_43 ?_
        refine g_bipush E gdX12_isNear_44 (by decide) ?_
        refine g_iconst E gdX12_isNear_46 ?_
        obtain ⟨r7, hc8, h⟩ := qB_of h
        refine g_Si (r := r7) (As := [iv ((x2 - jq x2 8 * 8) - (n4 - jq n4 8 * 8)), iv (-2), iv 2]) (rest := []) (w := wM g ad o) E (c_X12_in l g (wM g ad o) ((x2 - jq x2 8 * 8) - (n4 - jq n4 8 * 8)) (-2) 2 r7 hc8) okm_X12_in w_1706 w_1705 rfl rfl (Nat.le_of_ble_eq_true rfl) ⟨Nat.le_of_ble_eq_true rfl, Nat.le_of_ble_eq_true rfl⟩ gdX12_isNear_47 ?_
        refine g_if_eq E 76 gdX12_isNear_50 (by decide) h (fun h => ?_) (fun h => ?_)
        ·
          refine g_sub E [1, 2, 3, 5] rfl ?_
          exact j76 x1 x2 x4 v h k0 k1
        ·
          refine g_iload_n E gdX12_isNear_53 rfl 3 rfl ?_
          refine g_bipush E gdX12_isNear_54 (by decide) ?_
          obtain ⟨hd9, h⟩ := qDv_of h
          refine g_idiv E hd9 gdX12_isNear_56 ?_
          refine g_iload E gdX12_isNear_57 0 rfl ?_
          refine g_bipush E gdX12_isNear_59 (by decide) ?_
          obtain ⟨hd10, h⟩ := qDv_of h
          refine g_idiv E hd10 gdX12_isNear_61 ?_
          refine g_isub E gdX12_isNear_62 ?_
          refine g_bipush E gdX12_isNear_63 (by decide) ?_
          refine g_iconst E gdX12_isNear_65 ?_
          obtain ⟨r11, hc12, h⟩ := qB_of h
          refine g_Si (r := r11) (As := [iv ((jq x2 8) - (jq n4 8)), iv (-2), iv 2]) (rest := []) (w := wM g ad o) E (c_X12_in l g (wM g ad o) ((jq x2 8) - (jq n4 8)) (-2) 2 r11 hc12) okm_X12_in w_1706 w_1705 rfl rfl (Nat.le_of_ble_eq_true rfl) ⟨Nat.le_of_ble_eq_true rfl, Nat.le_of_ble_eq_true rfl⟩ gdX12_isNear_66 ?_
          refine g_if_eq E 76 gdX12_isNear_69 (by decide) h (fun h => ?_) (fun h => ?_)
          ·
            refine g_sub E [1, 2, 3, 5] rfl ?_
            exact j76 x1 x2 x4 v h k0 k1
          ·
            refine g_sub E [1, 2, 3, 5] rfl ?_
            exact j72 x1 x2 x4 v h k0 k1
  have j5 : ∀ (x1 : Int) (x2 : Int) (x3 : Int) (x4 : Int), e_X12_isNear_5 o x1 x2 x3 x4 = some v → Go X 5 (wM g ad o) [(0, .ref (ad 0)), (1, iv x1), (2, iv x2), (3, iv x3), (4, iv x4)] [] := by
    intro x1 x2 x3 x4 h
    unfold e_X12_isNear_5 at h
    obtain ⟨r, hr, h⟩ := qB_of h
    refine l5 x1 x2 r _ hr ?_
    ·
      intro u0 e
      have e := e.symm
      subst e
      have h : b_X12_isNear_84 o u0 = some v := h
      exact j84 u0 h
  unfold s_X12_isNear at h
  refine g_iconst E gdX12_isNear_0 ?_
  refine g_istore_n E [(3, iv 0), (0, .ref (ad 0)), (1, iv x1), (2, iv x2)] gdX12_isNear_1 rfl (by decide) rfl ?_
  refine g_iconst E gdX12_isNear_2 ?_
  refine g_istore E [(4, iv 0), (3, iv 0), (0, .ref (ad 0)), (1, iv x1), (2, iv x2)] gdX12_isNear_3 (by decide) rfl ?_
  refine g_sub E [2, 3, 4, 1, 0] rfl ?_
  exact j5 x1 x2 0 0 h
set_option maxHeartbeats 4000000 in
set_option maxRecDepth 100000 in
theorem c_X12_show (l : Launch) (g : GG) (ad : Nat → Nat) (o : OO) (x1 : Int) (v : Int × OO) (h : s_X12_show o x1 = some v) : CI l g yX12_show cX12_show 8 (some .int) 3 71 (wM g ad o) [.ref (ad 0), iv x1] v.1 (wM g ad v.2) := by
  refine met_I (by decide) (Nat.le_of_ble_eq_true rfl) ?_
  intro X E hQ
  show Go X 0 (wM g ad o) [(0, .ref (ad 0)), (1, iv x1)] []
  have j184 : ∀ (o : OO) (x1 : Int) (x3 : Int), b_X12_show_184 o x1 x3 = some v → Go X 184 (wM g ad o) [(0, .ref (ad 0)), (1, iv x1), (3, iv x3)] [] := by
    intro o x1 x3 h
    unfold b_X12_show_184 at h
    refine g_aload_n E gdX12_show_184 rfl 0 rfl ?_
    refine g_get (T := TX12) E fw_X12 0 (wM_0 g ad o) rfl 37 (by decide) w_1503 rfl rfl gdX12_show_185 ?_
    refine g_iload_n E gdX12_show_188 rfl 1 rfl ?_
    refine g_aload_n E gdX12_show_189 rfl 0 rfl ?_
    refine g_get (T := TX12) E fw_X12 0 (wM_0 g ad o) rfl 4 (by decide) w_1470 rfl rfl gdX12_show_190 ?_
    obtain ⟨hi1, h⟩ := qIn_of h
    obtain ⟨o2, e_o2, h⟩ := qNm_of h
    refine g_iast (ws' := wM g ad o2) E 29 (wM_29 g ad o) (by decide) hi1 (by rw [e_o2]; exact wM_s29 g ad o _ _) gdX12_show_193 ?_
    refine g_iload_n E gdX12_show_194 rfl 2 rfl ?_
    exact g_iret E hQ (by rw [← Option.some.inj h]) (by rw [← Option.some.inj h]) gdX12_show_195
  have j178 : ∀ (o : OO) (x1 : Int) (x3 : Int) (x4 : Int) (x5 : Int) (v : (OO × Int) ⊕ ((OO))), b_X12_show_178 o x1 x3 x4 x5 = some v → (∀ (o : OO) (x5 : Int), v = .inl (o, x5) → Go X 101 (wM g ad o) [(0, .ref (ad 0)), (1, iv x1), (3, iv x3), (4, iv x4), (5, iv x5)] []) → (∀ (o : OO), v = .inr (o) → Go X 184 (wM g ad o) [(0, .ref (ad 0)), (1, iv x1), (3, iv x3)] []) → Go X 178 (wM g ad o) [(0, .ref (ad 0)), (1, iv x1), (3, iv x3), (4, iv x4), (5, iv x5)] [] := by
    intro o x1 x3 x4 x5 v h k0 k1
    unfold b_X12_show_178 at h
    refine g_iinc E [(5, iv (x5 + 1)), (0, .ref (ad 0)), (1, iv x1), (3, iv x3), (4, iv x4)] gdX12_show_178 4 rfl (by decide) rfl ?_
    refine g_goto E 101 gdX12_show_181 (by decide) ?_
    refine g_sub E [1, 2, 3, 4, 0] rfl ?_
    exact k0 o (x5 + 1) (Option.some.inj h).symm
  have j175 : ∀ (o : OO) (x1 : Int) (x3 : Int) (x4 : Int) (x5 : Int) (y1 : Int) (y2 : Int) (v : (OO × Int) ⊕ ((OO))), b_X12_show_175 o x1 x3 x4 x5 y1 y2 = some v → (∀ (o : OO) (x5 : Int), v = .inl (o, x5) → Go X 101 (wM g ad o) [(0, .ref (ad 0)), (1, iv x1), (3, iv x3), (4, iv x4), (5, iv x5)] []) → (∀ (o : OO), v = .inr (o) → Go X 184 (wM g ad o) [(0, .ref (ad 0)), (1, iv x1), (3, iv x3)] []) → Go X 175 (wM g ad o) [(0, .ref (ad 0)), (1, iv x1), (3, iv x3), (4, iv x4), (5, iv x5)] [iv y2, iv y1, .ref (ad 0)] := by
    intro o x1 x3 x4 x5 y1 y2 v h k0 k1
    unfold b_X12_show_175 at h
    obtain ⟨o5, hc4, h⟩ := qB_of h
    refine g_Vv (As := [iv y1, iv y2]) (rest := []) (w := wM g ad o5) E (c_X12_tell l g ad o y1 y2 o5 hc4) okm_X12_tell okw_X12_tell w_1803 rfl (wM_0 g ad o) rfl rfl (Nat.le_of_ble_eq_true rfl) ⟨Nat.le_of_ble_eq_true rfl, Nat.le_of_ble_eq_true rfl⟩ gdX12_show_175 ?_
    exact j178 o5 x1 x3 x4 x5 v h k0 k1
  have l101 : ∀ (x1 : Int) (x3 : Int) (x4 : Int) (r : (OO)) (s0 : OO × Int), loopW (fun s => l_X12_show_101 x1 x3 x4 s.1 s.2) s0 = some r → (∀ (o : OO), r = (o) → Go X 184 (wM g ad o) [(0, .ref (ad 0)), (1, iv x1), (3, iv x3)] []) → Go X 101 (wM g ad s0.1) [(0, .ref (ad 0)), (1, iv x1), (3, iv x3), (4, iv x4), (5, iv s0.2)] [] := by
    intro x1 x3 x4 r s0 h k1
    refine loop_rule (Head := fun s0 => Go X 101 (wM g ad s0.1) [(0, .ref (ad 0)), (1, iv x1), (3, iv x3), (4, iv x4), (5, iv s0.2)] []) h ?_
    intro s v h kk kx
    obtain ⟨o, x5⟩ := s
    have h : l_X12_show_101 x1 x3 x4 o x5 = some v := h
    have k0 : ∀ (o : OO) (x5 : Int), v = .inl (o, x5) → Go X 101 (wM g ad o) [(0, .ref (ad 0)), (1, iv x1), (3, iv x3), (4, iv x4), (5, iv x5)] [] := fun o x5 e => kk (o, x5) e
    have k1 : ∀ (o : OO), v = .inr (o) → Go X 184 (wM g ad o) [(0, .ref (ad 0)), (1, iv x1), (3, iv x3)] [] := fun o e => k1 o (kx _ e).symm
    unfold l_X12_show_101 at h
    refine g_iload E gdX12_show_101 4 rfl ?_
    refine g_aload_n E gdX12_show_103 rfl 0 rfl ?_
    refine g_get (T := TX12) E fw_X12 0 (wM_0 g ad o) rfl 17 (by decide) w_1483 rfl rfl gdX12_show_104 ?_
    refine g_icmp_ge E 184 gdX12_show_107 (by decide) h (fun h => ?_) (fun h => ?_)
    ·
      refine g_sub E [0, 1, 2] rfl ?_
      exact k1 o (Option.some.inj h).symm
    ·
      refine g_aload_n E gdX12_show_110 rfl 0 rfl ?_
      refine g_get (T := TX12) E fw_X12 0 (wM_0 g ad o) rfl 21 (by decide) w_1487 rfl rfl gdX12_show_111 ?_
      refine g_iload E gdX12_show_114 4 rfl ?_
      obtain ⟨hi6, h⟩ := qIn_of h
      refine g_zald E 16 (wM_16 g ad o) (by decide) hi6 gdX12_show_116 ?_
      obtain ⟨n7, e_n7, h⟩ := qNm_of h
      refine g_nmi e_n7 ?_
      refine g_if_ne E 178 gdX12_show_117 (by decide) h (fun h => ?_) (fun h => ?_)
      ·
        exact j178 o x1 x3 x4 x5 v h k0 k1
      ·
        refine g_aload_n E gdX12_show_120 rfl 0 rfl ?_
        refine g_iload_n E gdX12_show_121 rfl 1 rfl ?_
        refine g_aload_n E gdX12_show_122 rfl 0 rfl ?_
        refine g_get (T := TX12) E fw_X12 0 (wM_0 g ad o) rfl 18 (by decide) w_1484 rfl rfl gdX12_show_123 ?_
        refine g_iload E gdX12_show_126 4 rfl ?_
        obtain ⟨hi8, h⟩ := qIn_of h
        refine g_iald E 13 (wM_13 g ad o) (by decide) hi8 gdX12_show_128 ?_
        obtain ⟨n9, e_n9, h⟩ := qNm_of h
        refine g_nmi e_n9 ?_
        obtain ⟨r10, hc11, h⟩ := qB_of h
        refine g_Vi (r := r10) (As := [iv x1, iv n9]) (rest := []) (w := wM g ad o) E (c_X12_isNear l g ad o x1 n9 r10 hc11) okm_X12_isNear okw_X12_isNear w_1933 rfl (wM_0 g ad o) rfl rfl (Nat.le_of_ble_eq_true rfl) ⟨Nat.le_of_ble_eq_true rfl, Nat.le_of_ble_eq_true rfl⟩ gdX12_show_129 ?_
        refine g_if_eq E 178 gdX12_show_132 (by decide) h (fun h => ?_) (fun h => ?_)
        ·
          exact j178 o x1 x3 x4 x5 v h k0 k1
        ·
          refine g_aload_n E gdX12_show_135 rfl 0 rfl ?_
          refine g_iload E gdX12_show_136 4 rfl ?_
          refine g_aload_n E gdX12_show_138 rfl 0 rfl ?_
          refine g_get (T := TX12) E fw_X12 0 (wM_0 g ad o) rfl 4 (by decide) w_1470 rfl rfl gdX12_show_139 ?_
          obtain ⟨r12, hc13, h⟩ := qB_of h
          refine g_Vi (r := r12) (As := [iv x5, iv (o.1 0 4)]) (rest := []) (w := wM g ad o) E (c_X12_valueOf l g ad o x5 (o.1 0 4) r12 hc13) okm_X12_valueOf okw_X12_valueOf w_1815 rfl (wM_0 g ad o) rfl rfl (Nat.le_of_ble_eq_true rfl) ⟨Nat.le_of_ble_eq_true rfl, Nat.le_of_ble_eq_true rfl⟩ gdX12_show_142 ?_
          refine g_istore E [(6, iv r12), (0, .ref (ad 0)), (1, iv x1), (3, iv x3), (4, iv x4), (5, iv x5)] gdX12_show_145 (by decide) rfl ?_
          refine g_iload E gdX12_show_147 0 rfl ?_
          refine g_iload E gdX12_show_149 0 rfl ?_
          refine g_iload E gdX12_show_151 4 rfl ?_
          refine g_imul E gdX12_show_153 ?_
          refine g_bipush E gdX12_show_154 (by decide) ?_
          obtain ⟨hd14, h⟩ := qDv_of h
          refine g_idiv E hd14 gdX12_show_156 ?_
          refine g_isub E gdX12_show_157 ?_
          obtain ⟨n15, e_n15, h⟩ := qNm_of h
          refine g_nmi e_n15 ?_
          refine g_istore E [(7, iv n15), (6, iv r12), (0, .ref (ad 0)), (1, iv x1), (3, iv x3), (4, iv x4), (5, iv x5)] gdX12_show_158 (by decide) rfl ?_
          refine g_aload_n E gdX12_show_160 rfl 2 rfl ?_
          refine g_iload E gdX12_show_161 6 rfl ?_
          refine g_iload E gdX12_show_163 0 rfl ?_
          refine g_iconst E gdX12_show_165 ?_
          refine g_icmp_ge E 173 gdX12_show_166 (by decide) h (fun h => ?_) (fun h => ?_)
          ·
            refine g_iload E gdX12_show_173 0 rfl ?_
            refine g_sub E [2, 3, 4, 5, 6] rfl ?_
            exact j175 o x1 x3 x4 x5 x5 n15 v h k0 k1
          ·
            refine g_iconst E gdX12_show_169 ?_
            refine g_goto E 175 gdX12_show_170 (by decide) ?_
            refine g_sub E [2, 3, 4, 5, 6] rfl ?_
            exact j175 o x1 x3 x4 x5 x5 1 v h k0 k1
  have j101 : ∀ (o : OO) (x1 : Int) (x3 : Int) (x4 : Int) (x5 : Int), e_X12_show_101 o x1 x3 x4 x5 = some v → Go X 101 (wM g ad o) [(0, .ref (ad 0)), (1, iv x1), (3, iv x3), (4, iv x4), (5, iv x5)] [] := by
    intro o x1 x3 x4 x5 h
    unfold e_X12_show_101 at h
    obtain ⟨r, hr, h⟩ := qB_of h
    refine l101 x1 x3 x4 r _ hr ?_
    ·
      intro u0 e
      have e := e.symm
      subst e
      have h : b_X12_show_184 u0 x1 x3 = some v := h
      exact j184 u0 x1 x3 h
  have j77 : ∀ (o : OO) (x1 : Int) (x3 : Int), b_X12_show_77 o x1 x3 = some v → Go X 77 (wM g ad o) [(0, .ref (ad 0)), (1, iv x1), (3, iv x3)] [] := by
    intro o x1 x3 h
    unfold b_X12_show_77 at h
    refine g_aload_n E gdX12_show_77 rfl 0 rfl ?_
    refine g_get (T := TX12) E fw_X12 0 (wM_0 g ad o) rfl 23 (by decide) w_1489 rfl rfl gdX12_show_78 ?_
    refine g_iload_n E gdX12_show_81 rfl 2 rfl ?_
    refine g_iadd E gdX12_show_82 ?_
    refine g_bipush E gdX12_show_83 (by decide) ?_
    refine g_icmp_le E 91 gdX12_show_85 (by decide) h (fun h => ?_) (fun h => ?_)
    ·
      refine g_aload_n E gdX12_show_91 rfl 0 rfl ?_
      refine g_iconst E gdX12_show_92 ?_
      obtain ⟨r16, hc17, h⟩ := qB_of h
      refine g_Vi (r := r16) (As := [iv 1]) (rest := []) (w := wM g ad o) E (c_X12_nowInForce l g ad o 1 r16 hc17) okm_X12_nowInForce okw_X12_nowInForce w_1871 rfl (wM_0 g ad o) rfl rfl (Nat.le_of_ble_eq_true rfl) ⟨Nat.le_of_ble_eq_true rfl, Nat.le_of_ble_eq_true rfl⟩ gdX12_show_93 ?_
      refine g_istore E [(4, iv r16), (0, .ref (ad 0)), (1, iv x1), (3, iv x3)] gdX12_show_96 (by decide) rfl ?_
      refine g_iconst E gdX12_show_98 ?_
      refine g_istore E [(5, iv 0), (4, iv r16), (0, .ref (ad 0)), (1, iv x1), (3, iv x3)] gdX12_show_99 (by decide) rfl ?_
      refine g_sub E [2, 3, 4, 1, 0] rfl ?_
      exact j101 o x1 x3 r16 0 h
    ·
      refine g_bipush E gdX12_show_88 (by decide) ?_
      exact g_iret E hQ (by rw [← Option.some.inj h]) (by rw [← Option.some.inj h]) gdX12_show_90
  have j69 : ∀ (o : OO) (x1 : Int) (x4 : Int) (y0 : Int) (y1 : Int) (v : (Int × Int) ⊕ ((Int))), b_X12_show_69 o x1 x4 y0 y1 = some v → (∀ (x3 : Int) (x4 : Int), v = .inl (x3, x4) → Go X 29 (wM g ad o) [(0, .ref (ad 0)), (1, iv x1), (3, iv x3), (4, iv x4)] []) → (∀ (x3 : Int), v = .inr (x3) → Go X 77 (wM g ad o) [(0, .ref (ad 0)), (1, iv x1), (3, iv x3)] []) → Go X 69 (wM g ad o) [(0, .ref (ad 0)), (1, iv x1), (4, iv x4)] [iv y1, iv y0] := by
    intro o x1 x4 y0 y1 v h k0 k1
    unfold b_X12_show_69 at h
    refine g_iadd E gdX12_show_69 ?_
    obtain ⟨n18, e_n18, h⟩ := qNm_of h
    refine g_nmi e_n18 ?_
    refine g_istore_n E [(3, iv n18), (0, .ref (ad 0)), (1, iv x1), (4, iv x4)] gdX12_show_70 rfl (by decide) rfl ?_
    refine g_iinc E [(4, iv (x4 + 1)), (3, iv n18), (0, .ref (ad 0)), (1, iv x1)] gdX12_show_71 3 rfl (by decide) rfl ?_
    refine g_goto E 29 gdX12_show_74 (by decide) ?_
    refine g_sub E [2, 3, 1, 0] rfl ?_
    exact k0 n18 (x4 + 1) (Option.some.inj h).symm
  have j68 : ∀ (o : OO) (x1 : Int) (x4 : Int) (y0 : Int) (v : (Int × Int) ⊕ ((Int))), b_X12_show_68 o x1 x4 y0 = some v → (∀ (x3 : Int) (x4 : Int), v = .inl (x3, x4) → Go X 29 (wM g ad o) [(0, .ref (ad 0)), (1, iv x1), (3, iv x3), (4, iv x4)] []) → (∀ (x3 : Int), v = .inr (x3) → Go X 77 (wM g ad o) [(0, .ref (ad 0)), (1, iv x1), (3, iv x3)] []) → Go X 68 (wM g ad o) [(0, .ref (ad 0)), (1, iv x1), (4, iv x4)] [iv y0] := by
    intro o x1 x4 y0 v h k0 k1
    unfold b_X12_show_68 at h
    refine g_iconst E gdX12_show_68 ?_
    exact j69 o x1 x4 y0 0 v h k0 k1
  have l29 : ∀ (o : OO) (x1 : Int) (r : (Int)) (s0 : Int × Int), loopW (fun s => l_X12_show_29 o x1 s.1 s.2) s0 = some r → (∀ (x3 : Int), r = (x3) → Go X 77 (wM g ad o) [(0, .ref (ad 0)), (1, iv x1), (3, iv x3)] []) → Go X 29 (wM g ad o) [(0, .ref (ad 0)), (1, iv x1), (3, iv s0.1), (4, iv s0.2)] [] := by
    intro o x1 r s0 h k1
    refine loop_rule (Head := fun s0 => Go X 29 (wM g ad o) [(0, .ref (ad 0)), (1, iv x1), (3, iv s0.1), (4, iv s0.2)] []) h ?_
    intro s v h kk kx
    obtain ⟨x3, x4⟩ := s
    have h : l_X12_show_29 o x1 x3 x4 = some v := h
    have k0 : ∀ (x3 : Int) (x4 : Int), v = .inl (x3, x4) → Go X 29 (wM g ad o) [(0, .ref (ad 0)), (1, iv x1), (3, iv x3), (4, iv x4)] [] := fun x3 x4 e => kk (x3, x4) e
    have k1 : ∀ (x3 : Int), v = .inr (x3) → Go X 77 (wM g ad o) [(0, .ref (ad 0)), (1, iv x1), (3, iv x3)] [] := fun x3 e => k1 x3 (kx _ e).symm
    unfold l_X12_show_29 at h
    refine g_iload E gdX12_show_29 3 rfl ?_
    refine g_aload_n E gdX12_show_31 rfl 0 rfl ?_
    refine g_get (T := TX12) E fw_X12 0 (wM_0 g ad o) rfl 17 (by decide) w_1483 rfl rfl gdX12_show_32 ?_
    refine g_icmp_ge E 77 gdX12_show_35 (by decide) h (fun h => ?_) (fun h => ?_)
    ·
      refine g_sub E [0, 1, 2] rfl ?_
      exact k1 x3 (Option.some.inj h).symm
    ·
      refine g_iload_n E gdX12_show_38 rfl 2 rfl ?_
      refine g_aload_n E gdX12_show_39 rfl 0 rfl ?_
      refine g_get (T := TX12) E fw_X12 0 (wM_0 g ad o) rfl 21 (by decide) w_1487 rfl rfl gdX12_show_40 ?_
      refine g_iload E gdX12_show_43 3 rfl ?_
      obtain ⟨hi19, h⟩ := qIn_of h
      refine g_zald E 16 (wM_16 g ad o) (by decide) hi19 gdX12_show_45 ?_
      obtain ⟨n20, e_n20, h⟩ := qNm_of h
      refine g_nmi e_n20 ?_
      refine g_if_ne E 68 gdX12_show_46 (by decide) h (fun h => ?_) (fun h => ?_)
      ·
        refine g_sub E [0, 1, 3] rfl ?_
        exact j68 o x1 x4 x3 v h k0 k1
      ·
        refine g_aload_n E gdX12_show_49 rfl 0 rfl ?_
        refine g_iload_n E gdX12_show_50 rfl 1 rfl ?_
        refine g_aload_n E gdX12_show_51 rfl 0 rfl ?_
        refine g_get (T := TX12) E fw_X12 0 (wM_0 g ad o) rfl 18 (by decide) w_1484 rfl rfl gdX12_show_52 ?_
        refine g_iload E gdX12_show_55 3 rfl ?_
        obtain ⟨hi21, h⟩ := qIn_of h
        refine g_iald E 13 (wM_13 g ad o) (by decide) hi21 gdX12_show_57 ?_
        obtain ⟨n22, e_n22, h⟩ := qNm_of h
        refine g_nmi e_n22 ?_
        obtain ⟨r23, hc24, h⟩ := qB_of h
        refine g_Vi (r := r23) (As := [iv x1, iv n22]) (rest := [iv x3]) (w := wM g ad o) E (c_X12_isNear l g ad o x1 n22 r23 hc24) okm_X12_isNear okw_X12_isNear w_1933 rfl (wM_0 g ad o) rfl rfl (Nat.le_of_ble_eq_true rfl) ⟨Nat.le_of_ble_eq_true rfl, Nat.le_of_ble_eq_true rfl⟩ gdX12_show_58 ?_
        refine g_if_eq E 68 gdX12_show_61 (by decide) h (fun h => ?_) (fun h => ?_)
        ·
          refine g_sub E [0, 1, 3] rfl ?_
          exact j68 o x1 x4 x3 v h k0 k1
        ·
          refine g_iconst E gdX12_show_64 ?_
          refine g_goto E 69 gdX12_show_65 (by decide) ?_
          refine g_sub E [0, 1, 3] rfl ?_
          exact j69 o x1 x4 x3 1 v h k0 k1
  have j29 : ∀ (o : OO) (x1 : Int) (x3 : Int) (x4 : Int), e_X12_show_29 o x1 x3 x4 = some v → Go X 29 (wM g ad o) [(0, .ref (ad 0)), (1, iv x1), (3, iv x3), (4, iv x4)] [] := by
    intro o x1 x3 x4 h
    unfold e_X12_show_29 at h
    obtain ⟨r, hr, h⟩ := qB_of h
    refine l29 o x1 r _ hr ?_
    ·
      intro u0 e
      have e := e.symm
      subst e
      have h : b_X12_show_77 o x1 u0 = some v := h
      exact j77 o x1 u0 h
  unfold s_X12_show at h
  refine g_aload_n E gdX12_show_0 rfl 0 rfl ?_
  refine g_iload_n E gdX12_show_1 rfl 1 rfl ?_
  obtain ⟨r25, o27, hc26, h⟩ := qB2_of h
  refine g_Vi (r := r25) (As := [iv x1]) (rest := []) (w := wM g ad o27) E (c_X12_askedLine l g ad o x1 (r25, o27) hc26) okm_X12_askedLine okw_X12_askedLine w_1925 rfl (wM_0 g ad o) rfl rfl (Nat.le_of_ble_eq_true rfl) ⟨Nat.le_of_ble_eq_true rfl, Nat.le_of_ble_eq_true rfl⟩ gdX12_show_2 ?_
  refine g_istore_n E [(2, iv r25), (0, .ref (ad 0)), (1, iv x1)] gdX12_show_5 rfl (by decide) rfl ?_
  refine g_iload_n E gdX12_show_6 rfl 0 rfl ?_
  refine g_if_ge E 12 gdX12_show_7 (by decide) h (fun h => ?_) (fun h => ?_)
  ·
    refine g_aload_n E gdX12_show_12 rfl 1 rfl ?_
    refine g_get (T := TX12) E fw_X12 0 (wM_0 g ad o27) rfl 37 (by decide) w_1503 rfl rfl gdX12_show_13 ?_
    refine g_iload_n E gdX12_show_16 rfl 2 rfl ?_
    obtain ⟨hi28, h⟩ := qIn_of h
    refine g_iald E 29 (wM_29 g ad o27) (by decide) hi28 gdX12_show_17 ?_
    obtain ⟨n29, e_n29, h⟩ := qNm_of h
    refine g_nmi e_n29 ?_
    refine g_if_lt E 24 gdX12_show_18 (by decide) h (fun h => ?_) (fun h => ?_)
    ·
      refine g_iconst E gdX12_show_24 ?_
      refine g_istore_n E [(3, iv 0), (2, iv r25), (0, .ref (ad 0)), (1, iv x1)] gdX12_show_25 rfl (by decide) rfl ?_
      refine g_iconst E gdX12_show_26 ?_
      refine g_istore E [(4, iv 0), (3, iv 0), (2, iv r25), (0, .ref (ad 0)), (1, iv x1)] gdX12_show_27 (by decide) rfl ?_
      refine g_sub E [3, 4, 1, 0] rfl ?_
      exact j29 o27 x1 0 0 h
    ·
      refine g_bipush E gdX12_show_21 (by decide) ?_
      exact g_iret E hQ (by rw [← Option.some.inj h]) (by rw [← Option.some.inj h]) gdX12_show_23
  ·
    refine g_iload_n E gdX12_show_10 rfl 0 rfl ?_
    exact g_iret E hQ (by rw [← Option.some.inj h]) (by rw [← Option.some.inj h]) gdX12_show_11
set_option maxHeartbeats 4000000 in
set_option maxRecDepth 100000 in
theorem c_X12_shown (l : Launch) (g : GG) (ad : Nat → Nat) (o : OO) (x1 : Int) (v : Int × OO) (h : s_X12_shown o x1 = some v) : CI l g yX12_shown cX12_shown 3 (some .int) 3 64 (wM g ad o) [.ref (ad 0), iv x1] v.1 (wM g ad v.2) := by
  refine met_I (by decide) (Nat.le_of_ble_eq_true rfl) ?_
  intro X E hQ
  show Go X 0 (wM g ad o) [(0, .ref (ad 0)), (1, iv x1)] []
  have j20 : ∀ (o : OO) (y0 : Int), b_X12_shown_20 o y0 = some v → Go X 20 (wM g ad o) [] [iv y0] := by
    intro o y0 h
    unfold b_X12_shown_20 at h
    exact g_iret E hQ (by rw [← Option.some.inj h]) (by rw [← Option.some.inj h]) gdX12_shown_20
  unfold s_X12_shown at h
  refine g_aload_n E gdX12_shown_0 rfl 0 rfl ?_
  refine g_iload_n E gdX12_shown_1 rfl 1 rfl ?_
  obtain ⟨r1, o3, hc2, h⟩ := qB2_of h
  refine g_Vi (r := r1) (As := [iv x1]) (rest := []) (w := wM g ad o3) E (c_X12_askedLine l g ad o x1 (r1, o3) hc2) okm_X12_askedLine okw_X12_askedLine w_1925 rfl (wM_0 g ad o) rfl rfl (Nat.le_of_ble_eq_true rfl) ⟨Nat.le_of_ble_eq_true rfl, Nat.le_of_ble_eq_true rfl⟩ gdX12_shown_2 ?_
  refine g_istore_n E [(2, iv r1), (0, .ref (ad 0)), (1, iv x1)] gdX12_shown_5 rfl (by decide) rfl ?_
  refine g_iload_n E gdX12_shown_6 rfl 0 rfl ?_
  refine g_if_ge E 14 gdX12_shown_7 (by decide) h (fun h => ?_) (fun h => ?_)
  ·
    refine g_aload_n E gdX12_shown_14 rfl 1 rfl ?_
    refine g_get (T := TX12) E fw_X12 0 (wM_0 g ad o3) rfl 37 (by decide) w_1503 rfl rfl gdX12_shown_15 ?_
    refine g_iload_n E gdX12_shown_18 rfl 2 rfl ?_
    obtain ⟨hi4, h⟩ := qIn_of h
    refine g_iald E 29 (wM_29 g ad o3) (by decide) hi4 gdX12_shown_19 ?_
    obtain ⟨n5, e_n5, h⟩ := qNm_of h
    refine g_nmi e_n5 ?_
    refine g_sub E [] rfl ?_
    exact j20 o3 n5 h
  ·
    refine g_iload_n E gdX12_shown_10 rfl 0 rfl ?_
    refine g_goto E 20 gdX12_shown_11 (by decide) ?_
    refine g_sub E [] rfl ?_
    exact j20 o3 r1 h
set_option maxHeartbeats 4000000 in
set_option maxRecDepth 100000 in
theorem c_X12_comes (l : Launch) (g : GG) (ad : Nat → Nat) (o : OO) (x1 : Int) (x2 : Int) (x3 : Int) (x4 : Int) (v : Int) (h : s_X12_comes o x1 x2 x3 x4 = some v) : CI l g yX12_comes cX12_comes 11 (some .boolean) 2 46 (wM g ad o) [.ref (ad 0), iv x1, iv x2, iv x3, iv x4] v (wM g ad o) := by
  refine met_I (by decide) (Nat.le_of_ble_eq_true rfl) ?_
  intro X E hQ
  show Go X 0 (wM g ad o) [(0, .ref (ad 0)), (1, iv x1), (2, iv x2), (3, iv x3), (4, iv x4)] []
  have j118 : ∀ (x2 : Int) (z5 : Int64), b_X12_comes_118 o x2 z5 = some v → Go X 118 (wM g ad o) [(2, iv x2), (5, .long z5)] [] := by
    intro x2 z5 h
    unfold b_X12_comes_118 at h
    refine g_lload E gdX12_comes_118 1 rfl ?_
    refine g_iload_n E gdX12_comes_120 rfl 0 rfl ?_
    obtain ⟨r1, hc2, h⟩ := qB_of h
    refine g_Si (r := r1) (As := [.long z5, iv x2]) (rest := []) (w := wM g ad o) E (c_X12_has l g (wM g ad o) z5 x2 r1 hc2) okm_X12_has w_1919 w_1918 rfl rfl (Nat.le_of_ble_eq_true rfl) ⟨Nat.le_of_ble_eq_true rfl, Nat.le_of_ble_eq_true rfl⟩ gdX12_comes_121 ?_
    obtain ⟨hz, h⟩ := qZ_of h
    exact g_zret E hQ hz (Option.some.inj h) rfl gdX12_comes_124
  have j115 : ∀ (x2 : Int) (x3 : Int) (x4 : Int) (z5 : Int64) (x7 : Int) (v : (Int64 × Int) ⊕ ((Int64))), b_X12_comes_115 o x2 x3 x4 z5 x7 = some v → (∀ (z5 : Int64) (x7 : Int), v = .inl (z5, x7) → Go X 8 (wM g ad o) [(0, .ref (ad 0)), (2, iv x2), (3, iv x3), (4, iv x4), (5, .long z5), (7, iv x7)] []) → (∀ (z5 : Int64), v = .inr (z5) → Go X 118 (wM g ad o) [(2, iv x2), (5, .long z5)] []) → Go X 115 (wM g ad o) [(0, .ref (ad 0)), (2, iv x2), (3, iv x3), (4, iv x4), (5, .long z5), (7, iv x7)] [] := by
    intro x2 x3 x4 z5 x7 v h k0 k1
    unfold b_X12_comes_115 at h
    refine g_goto E 8 gdX12_comes_115 (by decide) ?_
    exact k0 z5 x7 (Option.some.inj h).symm
  have j109 : ∀ (x2 : Int) (x3 : Int) (x4 : Int) (z5 : Int64) (x7 : Int) (x8 : Int) (v : (Int64 × Int × Int) ⊕ ((Int64 × Int))), b_X12_comes_109 o x2 x3 x4 z5 x7 x8 = some v → (∀ (z5 : Int64) (x7 : Int) (x8 : Int), v = .inl (z5, x7, x8) → Go X 19 (wM g ad o) [(0, .ref (ad 0)), (2, iv x2), (3, iv x3), (4, iv x4), (5, .long z5), (7, iv x7), (8, iv x8)] []) → (∀ (z5 : Int64) (x7 : Int), v = .inr ((z5, x7)) → Go X 115 (wM g ad o) [(0, .ref (ad 0)), (2, iv x2), (3, iv x3), (4, iv x4), (5, .long z5), (7, iv x7)] []) → Go X 109 (wM g ad o) [(0, .ref (ad 0)), (2, iv x2), (3, iv x3), (4, iv x4), (5, .long z5), (7, iv x7), (8, iv x8)] [] := by
    intro x2 x3 x4 z5 x7 x8 v h k0 k1
    unfold b_X12_comes_109 at h
    refine g_iinc E [(8, iv (x8 + 1)), (0, .ref (ad 0)), (2, iv x2), (3, iv x3), (4, iv x4), (5, .long z5), (7, iv x7)] gdX12_comes_109 6 rfl (by decide) rfl ?_
    refine g_goto E 19 gdX12_comes_112 (by decide) ?_
    refine g_sub E [1, 2, 3, 4, 5, 6, 0] rfl ?_
    exact k0 z5 x7 (x8 + 1) (Option.some.inj h).symm
  have j103 : ∀ (x2 : Int) (x3 : Int) (x4 : Int) (z5 : Int64) (x7 : Int) (x8 : Int) (x9 : Int) (v : (Int64 × Int × Int) ⊕ ((Int64 × Int))), b_X12_comes_103 o x2 x3 x4 z5 x7 x8 x9 = some v → (∀ (z5 : Int64) (x7 : Int) (x9 : Int), v = .inl (z5, x7, x9) → Go X 29 (wM g ad o) [(0, .ref (ad 0)), (2, iv x2), (3, iv x3), (4, iv x4), (5, .long z5), (7, iv x7), (8, iv x8), (9, iv x9)] []) → (∀ (z5 : Int64) (x7 : Int), v = .inr ((z5, x7)) → Go X 109 (wM g ad o) [(0, .ref (ad 0)), (2, iv x2), (3, iv x3), (4, iv x4), (5, .long z5), (7, iv x7), (8, iv x8)] []) → Go X 103 (wM g ad o) [(0, .ref (ad 0)), (2, iv x2), (3, iv x3), (4, iv x4), (5, .long z5), (7, iv x7), (8, iv x8), (9, iv x9)] [] := by
    intro x2 x3 x4 z5 x7 x8 x9 v h k0 k1
    unfold b_X12_comes_103 at h
    refine g_iinc E [(9, iv (x9 + 1)), (0, .ref (ad 0)), (2, iv x2), (3, iv x3), (4, iv x4), (5, .long z5), (7, iv x7), (8, iv x8)] gdX12_comes_103 7 rfl (by decide) rfl ?_
    refine g_goto E 29 gdX12_comes_106 (by decide) ?_
    refine g_sub E [1, 2, 3, 4, 5, 6, 7, 0] rfl ?_
    exact k0 z5 x7 (x9 + 1) (Option.some.inj h).symm
  have j91 : ∀ (x2 : Int) (x3 : Int) (x4 : Int) (z5 : Int64) (x8 : Int) (x9 : Int) (x10 : Int) (v : (Int64 × Int × Int) ⊕ ((Int64 × Int))), b_X12_comes_91 o x2 x3 x4 z5 x8 x9 x10 = some v → (∀ (z5 : Int64) (x7 : Int) (x9 : Int), v = .inl (z5, x7, x9) → Go X 29 (wM g ad o) [(0, .ref (ad 0)), (2, iv x2), (3, iv x3), (4, iv x4), (5, .long z5), (7, iv x7), (8, iv x8), (9, iv x9)] []) → (∀ (z5 : Int64) (x7 : Int), v = .inr ((z5, x7)) → Go X 109 (wM g ad o) [(0, .ref (ad 0)), (2, iv x2), (3, iv x3), (4, iv x4), (5, .long z5), (7, iv x7), (8, iv x8)] []) → Go X 91 (wM g ad o) [(0, .ref (ad 0)), (2, iv x2), (3, iv x3), (4, iv x4), (5, .long z5), (8, iv x8), (9, iv x9), (10, iv x10)] [] := by
    intro x2 x3 x4 z5 x8 x9 x10 v h k0 k1
    unfold b_X12_comes_91 at h
    refine g_lload E gdX12_comes_91 4 rfl ?_
    refine g_lconst (v := 1) E gdX12_comes_93 (by decide) ?_
    refine g_iload E gdX12_comes_94 7 rfl ?_
    refine g_lshl E gdX12_comes_96 ?_
    refine g_lor E gdX12_comes_97 ?_
    obtain ⟨m3, e_m3, h⟩ := qNm_of h
    refine g_nml e_m3 ?_
    refine g_lstore E [(5, .long m3), (0, .ref (ad 0)), (2, iv x2), (3, iv x3), (4, iv x4), (8, iv x8), (9, iv x9), (10, iv x10)] gdX12_comes_98 (by decide) rfl ?_
    refine g_iconst E gdX12_comes_100 ?_
    refine g_istore E [(7, iv 1), (5, .long m3), (0, .ref (ad 0)), (2, iv x2), (3, iv x3), (4, iv x4), (8, iv x8), (9, iv x9), (10, iv x10)] gdX12_comes_101 (by decide) rfl ?_
    refine g_sub E [2, 3, 4, 5, 1, 0, 6, 7] rfl ?_
    exact j103 x2 x3 x4 m3 1 x8 x9 v h k0 k1
  have l29 : ∀ (x2 : Int) (x3 : Int) (x4 : Int) (x8 : Int) (r : (Int64 × Int)) (s0 : Int64 × Int × Int), loopW (fun s => l_X12_comes_29 o x2 x3 x4 x8 s.1 s.2.1 s.2.2) s0 = some r → (∀ (z5 : Int64) (x7 : Int), r = ((z5, x7)) → Go X 109 (wM g ad o) [(0, .ref (ad 0)), (2, iv x2), (3, iv x3), (4, iv x4), (5, .long z5), (7, iv x7), (8, iv x8)] []) → Go X 29 (wM g ad o) [(0, .ref (ad 0)), (2, iv x2), (3, iv x3), (4, iv x4), (5, .long s0.1), (7, iv s0.2.1), (8, iv x8), (9, iv s0.2.2)] [] := by
    intro x2 x3 x4 x8 r s0 h k1
    refine loop_rule (Head := fun s0 => Go X 29 (wM g ad o) [(0, .ref (ad 0)), (2, iv x2), (3, iv x3), (4, iv x4), (5, .long s0.1), (7, iv s0.2.1), (8, iv x8), (9, iv s0.2.2)] []) h ?_
    intro s v h kk kx
    obtain ⟨z5, x7, x9⟩ := s
    have h : l_X12_comes_29 o x2 x3 x4 x8 z5 x7 x9 = some v := h
    have k0 : ∀ (z5 : Int64) (x7 : Int) (x9 : Int), v = .inl (z5, x7, x9) → Go X 29 (wM g ad o) [(0, .ref (ad 0)), (2, iv x2), (3, iv x3), (4, iv x4), (5, .long z5), (7, iv x7), (8, iv x8), (9, iv x9)] [] := fun z5 x7 x9 e => kk (z5, x7, x9) e
    have k1 : ∀ (z5 : Int64) (x7 : Int), v = .inr ((z5, x7)) → Go X 109 (wM g ad o) [(0, .ref (ad 0)), (2, iv x2), (3, iv x3), (4, iv x4), (5, .long z5), (7, iv x7), (8, iv x8)] [] := fun z5 x7 e => k1 z5 x7 (kx _ e).symm
    unfold l_X12_comes_29 at h
    refine g_iload E gdX12_comes_29 7 rfl ?_
    refine g_iconst E gdX12_comes_31 ?_
    refine g_icmp_ge E 109 gdX12_comes_32 (by decide) h (fun h => ?_) (fun h => ?_)
    ·
      refine g_sub E [0, 1, 2, 3, 4, 5, 6] rfl ?_
      exact k1 z5 x7 (Option.some.inj h).symm
    ·
      refine g_iload E gdX12_comes_35 6 rfl ?_
      refine g_iload E gdX12_comes_37 7 rfl ?_
      obtain ⟨r4, hc5, h⟩ := qB_of h
      refine g_Si (r := r4) (As := [iv x8, iv x9]) (rest := []) (w := wM g ad o) E (c_X12_beside l g (wM g ad o) x8 x9 r4 hc5) okm_X12_beside w_1881 w_1880 rfl rfl (Nat.le_of_ble_eq_true rfl) ⟨Nat.le_of_ble_eq_true rfl, Nat.le_of_ble_eq_true rfl⟩ gdX12_comes_39 ?_
      refine g_istore E [(10, iv r4), (0, .ref (ad 0)), (2, iv x2), (3, iv x3), (4, iv x4), (5, .long z5), (7, iv x7), (8, iv x8), (9, iv x9)] gdX12_comes_42 (by decide) rfl ?_
      refine g_lload E gdX12_comes_44 5 rfl ?_
      refine g_iload E gdX12_comes_46 7 rfl ?_
      obtain ⟨r6, hc7, h⟩ := qB_of h
      refine g_Si (r := r6) (As := [.long z5, iv x8]) (rest := []) (w := wM g ad o) E (c_X12_has l g (wM g ad o) z5 x8 r6 hc7) okm_X12_has w_1919 w_1918 rfl rfl (Nat.le_of_ble_eq_true rfl) ⟨Nat.le_of_ble_eq_true rfl, Nat.le_of_ble_eq_true rfl⟩ gdX12_comes_48 ?_
      refine g_if_eq E 103 gdX12_comes_51 (by decide) h (fun h => ?_) (fun h => ?_)
      ·
        refine g_sub E [1, 2, 3, 4, 5, 6, 7, 8] rfl ?_
        exact j103 x2 x3 x4 z5 x7 x8 x9 v h k0 k1
      ·
        refine g_aload_n E gdX12_comes_54 rfl 1 rfl ?_
        refine g_iload E gdX12_comes_55 7 rfl ?_
        refine g_iload E gdX12_comes_57 0 rfl ?_
        refine g_iload_n E gdX12_comes_59 rfl 3 rfl ?_
        obtain ⟨r8, hc9, h⟩ := qB_of h
        refine g_Vi (r := r8) (As := [iv x8, iv r4, iv x3]) (rest := []) (w := wM g ad o) E (c_X12_leads l g ad o x8 r4 x3 r8 hc9) okm_X12_leads okw_X12_leads w_1883 rfl (wM_0 g ad o) rfl rfl (Nat.le_of_ble_eq_true rfl) ⟨Nat.le_of_ble_eq_true rfl, Nat.le_of_ble_eq_true rfl⟩ gdX12_comes_60 ?_
        refine g_if_eq E 103 gdX12_comes_63 (by decide) h (fun h => ?_) (fun h => ?_)
        ·
          refine g_sub E [1, 2, 3, 4, 5, 6, 7, 8] rfl ?_
          exact j103 x2 x3 x4 z5 x7 x8 x9 v h k0 k1
        ·
          refine g_lload E gdX12_comes_66 5 rfl ?_
          refine g_iload E gdX12_comes_68 0 rfl ?_
          obtain ⟨r10, hc11, h⟩ := qB_of h
          refine g_Si (r := r10) (As := [.long z5, iv r4]) (rest := []) (w := wM g ad o) E (c_X12_has l g (wM g ad o) z5 r4 r10 hc11) okm_X12_has w_1919 w_1918 rfl rfl (Nat.le_of_ble_eq_true rfl) ⟨Nat.le_of_ble_eq_true rfl, Nat.le_of_ble_eq_true rfl⟩ gdX12_comes_70 ?_
          refine g_if_ne E 103 gdX12_comes_73 (by decide) h (fun h => ?_) (fun h => ?_)
          ·
            refine g_sub E [1, 2, 3, 4, 5, 6, 7, 8] rfl ?_
            exact j103 x2 x3 x4 z5 x7 x8 x9 v h k0 k1
          ·
            refine g_iload E gdX12_comes_76 4 rfl ?_
            refine g_if_ne E 91 gdX12_comes_78 (by decide) h (fun h => ?_) (fun h => ?_)
            ·
              refine g_sub E [1, 2, 3, 4, 5, 7, 8, 0] rfl ?_
              exact j91 x2 x3 x4 z5 x8 x9 r4 v h k0 k1
            ·
              refine g_aload_n E gdX12_comes_81 rfl 1 rfl ?_
              refine g_get (T := TX12) E fw_X12 0 (wM_0 g ad o) rfl 71 (by decide) w_1537 rfl rfl gdX12_comes_82 ?_
              refine g_iload E gdX12_comes_85 0 rfl ?_
              obtain ⟨hi12, h⟩ := qIn_of h
              refine g_zald E 58 (wM_58 g ad o) (by decide) hi12 gdX12_comes_87 ?_
              obtain ⟨n13, e_n13, h⟩ := qNm_of h
              refine g_nmi e_n13 ?_
              refine g_if_ne E 103 gdX12_comes_88 (by decide) h (fun h => ?_) (fun h => ?_)
              ·
                refine g_sub E [1, 2, 3, 4, 5, 6, 7, 8] rfl ?_
                exact j103 x2 x3 x4 z5 x7 x8 x9 v h k0 k1
              ·
                refine g_sub E [1, 2, 3, 4, 5, 7, 8, 0] rfl ?_
                exact j91 x2 x3 x4 z5 x8 x9 r4 v h k0 k1
  have j29 : ∀ (x2 : Int) (x3 : Int) (x4 : Int) (z5 : Int64) (x7 : Int) (x8 : Int) (x9 : Int) (v : (Int64 × Int × Int) ⊕ ((Int64 × Int))), e_X12_comes_29 o x2 x3 x4 z5 x7 x8 x9 = some v → (∀ (z5 : Int64) (x7 : Int) (x8 : Int), v = .inl (z5, x7, x8) → Go X 19 (wM g ad o) [(0, .ref (ad 0)), (2, iv x2), (3, iv x3), (4, iv x4), (5, .long z5), (7, iv x7), (8, iv x8)] []) → (∀ (z5 : Int64) (x7 : Int), v = .inr ((z5, x7)) → Go X 115 (wM g ad o) [(0, .ref (ad 0)), (2, iv x2), (3, iv x3), (4, iv x4), (5, .long z5), (7, iv x7)] []) → Go X 29 (wM g ad o) [(0, .ref (ad 0)), (2, iv x2), (3, iv x3), (4, iv x4), (5, .long z5), (7, iv x7), (8, iv x8), (9, iv x9)] [] := by
    intro x2 x3 x4 z5 x7 x8 x9 v h k0 k1
    unfold e_X12_comes_29 at h
    obtain ⟨r, hr, h⟩ := qB_of h
    refine l29 x2 x3 x4 x8 r _ hr ?_
    ·
      intro u0 u1 e
      subst e
      have h : b_X12_comes_109 o x2 x3 x4 u0 u1 x8 = some v := h
      exact j109 x2 x3 x4 u0 u1 x8 v h k0 k1
  have l19 : ∀ (x2 : Int) (x3 : Int) (x4 : Int) (r : (Int64 × Int)) (s0 : Int64 × Int × Int), loopW (fun s => l_X12_comes_19 o x2 x3 x4 s.1 s.2.1 s.2.2) s0 = some r → (∀ (z5 : Int64) (x7 : Int), r = ((z5, x7)) → Go X 115 (wM g ad o) [(0, .ref (ad 0)), (2, iv x2), (3, iv x3), (4, iv x4), (5, .long z5), (7, iv x7)] []) → Go X 19 (wM g ad o) [(0, .ref (ad 0)), (2, iv x2), (3, iv x3), (4, iv x4), (5, .long s0.1), (7, iv s0.2.1), (8, iv s0.2.2)] [] := by
    intro x2 x3 x4 r s0 h k1
    refine loop_rule (Head := fun s0 => Go X 19 (wM g ad o) [(0, .ref (ad 0)), (2, iv x2), (3, iv x3), (4, iv x4), (5, .long s0.1), (7, iv s0.2.1), (8, iv s0.2.2)] []) h ?_
    intro s v h kk kx
    obtain ⟨z5, x7, x8⟩ := s
    have h : l_X12_comes_19 o x2 x3 x4 z5 x7 x8 = some v := h
    have k0 : ∀ (z5 : Int64) (x7 : Int) (x8 : Int), v = .inl (z5, x7, x8) → Go X 19 (wM g ad o) [(0, .ref (ad 0)), (2, iv x2), (3, iv x3), (4, iv x4), (5, .long z5), (7, iv x7), (8, iv x8)] [] := fun z5 x7 x8 e => kk (z5, x7, x8) e
    have k1 : ∀ (z5 : Int64) (x7 : Int), v = .inr ((z5, x7)) → Go X 115 (wM g ad o) [(0, .ref (ad 0)), (2, iv x2), (3, iv x3), (4, iv x4), (5, .long z5), (7, iv x7)] [] := fun z5 x7 e => k1 z5 x7 (kx _ e).symm
    unfold l_X12_comes_19 at h
    refine g_iload E gdX12_comes_19 6 rfl ?_
    refine g_bipush E gdX12_comes_21 (by decide) ?_
    refine g_icmp_ge E 115 gdX12_comes_23 (by decide) h (fun h => ?_) (fun h => ?_)
    ·
      refine g_sub E [0, 1, 2, 3, 4, 5] rfl ?_
      exact k1 z5 x7 (Option.some.inj h).symm
    ·
      refine g_iconst E gdX12_comes_26 ?_
      refine g_istore E [(9, iv 0), (0, .ref (ad 0)), (2, iv x2), (3, iv x3), (4, iv x4), (5, .long z5), (7, iv x7), (8, iv x8)] gdX12_comes_27 (by decide) rfl ?_
      refine g_sub E [1, 2, 3, 4, 5, 6, 7, 0] rfl ?_
      exact j29 x2 x3 x4 z5 x7 x8 0 v h k0 k1
  have j19 : ∀ (x2 : Int) (x3 : Int) (x4 : Int) (z5 : Int64) (x7 : Int) (x8 : Int) (v : (Int64 × Int) ⊕ ((Int64))), e_X12_comes_19 o x2 x3 x4 z5 x7 x8 = some v → (∀ (z5 : Int64) (x7 : Int), v = .inl (z5, x7) → Go X 8 (wM g ad o) [(0, .ref (ad 0)), (2, iv x2), (3, iv x3), (4, iv x4), (5, .long z5), (7, iv x7)] []) → (∀ (z5 : Int64), v = .inr (z5) → Go X 118 (wM g ad o) [(2, iv x2), (5, .long z5)] []) → Go X 19 (wM g ad o) [(0, .ref (ad 0)), (2, iv x2), (3, iv x3), (4, iv x4), (5, .long z5), (7, iv x7), (8, iv x8)] [] := by
    intro x2 x3 x4 z5 x7 x8 v h k0 k1
    unfold e_X12_comes_19 at h
    obtain ⟨r, hr, h⟩ := qB_of h
    refine l19 x2 x3 x4 r _ hr ?_
    ·
      intro u0 u1 e
      subst e
      have h : b_X12_comes_115 o x2 x3 x4 u0 u1 = some v := h
      exact j115 x2 x3 x4 u0 u1 v h k0 k1
  have l8 : ∀ (x2 : Int) (x3 : Int) (x4 : Int) (r : (Int64)) (s0 : Int64 × Int), loopW (fun s => l_X12_comes_8 o x2 x3 x4 s.1 s.2) s0 = some r → (∀ (z5 : Int64), r = (z5) → Go X 118 (wM g ad o) [(2, iv x2), (5, .long z5)] []) → Go X 8 (wM g ad o) [(0, .ref (ad 0)), (2, iv x2), (3, iv x3), (4, iv x4), (5, .long s0.1), (7, iv s0.2)] [] := by
    intro x2 x3 x4 r s0 h k1
    refine loop_rule (Head := fun s0 => Go X 8 (wM g ad o) [(0, .ref (ad 0)), (2, iv x2), (3, iv x3), (4, iv x4), (5, .long s0.1), (7, iv s0.2)] []) h ?_
    intro s v h kk kx
    obtain ⟨z5, x7⟩ := s
    have h : l_X12_comes_8 o x2 x3 x4 z5 x7 = some v := h
    have k0 : ∀ (z5 : Int64) (x7 : Int), v = .inl (z5, x7) → Go X 8 (wM g ad o) [(0, .ref (ad 0)), (2, iv x2), (3, iv x3), (4, iv x4), (5, .long z5), (7, iv x7)] [] := fun z5 x7 e => kk (z5, x7) e
    have k1 : ∀ (z5 : Int64), v = .inr (z5) → Go X 118 (wM g ad o) [(2, iv x2), (5, .long z5)] [] := fun z5 e => k1 z5 (kx _ e).symm
    unfold l_X12_comes_8 at h
    refine g_iload E gdX12_comes_8 5 rfl ?_
    refine g_if_eq E 118 gdX12_comes_10 (by decide) h (fun h => ?_) (fun h => ?_)
    ·
      refine g_sub E [1, 4] rfl ?_
      exact k1 z5 (Option.some.inj h).symm
    ·
      refine g_iconst E gdX12_comes_13 ?_
      refine g_istore E [(7, iv 0), (0, .ref (ad 0)), (2, iv x2), (3, iv x3), (4, iv x4), (5, .long z5)] gdX12_comes_14 (by decide) rfl ?_
      refine g_iconst E gdX12_comes_16 ?_
      refine g_istore E [(8, iv 0), (7, iv 0), (0, .ref (ad 0)), (2, iv x2), (3, iv x3), (4, iv x4), (5, .long z5)] gdX12_comes_17 (by decide) rfl ?_
      refine g_sub E [2, 3, 4, 5, 6, 1, 0] rfl ?_
      exact j19 x2 x3 x4 z5 0 0 v h k0 k1
  have j8 : ∀ (x2 : Int) (x3 : Int) (x4 : Int) (z5 : Int64) (x7 : Int), e_X12_comes_8 o x2 x3 x4 z5 x7 = some v → Go X 8 (wM g ad o) [(0, .ref (ad 0)), (2, iv x2), (3, iv x3), (4, iv x4), (5, .long z5), (7, iv x7)] [] := by
    intro x2 x3 x4 z5 x7 h
    unfold e_X12_comes_8 at h
    obtain ⟨r, hr, h⟩ := qB_of h
    refine l8 x2 x3 x4 r _ hr ?_
    ·
      intro u0 e
      have e := e.symm
      subst e
      have h : b_X12_comes_118 o x2 u0 = some v := h
      exact j118 x2 u0 h
  unfold s_X12_comes at h
  refine g_lconst (v := 1) E gdX12_comes_0 (by decide) ?_
  refine g_iload_n E gdX12_comes_1 rfl 1 rfl ?_
  refine g_lshl E gdX12_comes_2 ?_
  obtain ⟨m14, e_m14, h⟩ := qNm_of h
  refine g_nml e_m14 ?_
  refine g_lstore E [(5, .long m14), (0, .ref (ad 0)), (1, iv x1), (2, iv x2), (3, iv x3), (4, iv x4)] gdX12_comes_3 (by decide) rfl ?_
  refine g_iconst E gdX12_comes_5 ?_
  refine g_istore E [(7, iv 1), (5, .long m14), (0, .ref (ad 0)), (1, iv x1), (2, iv x2), (3, iv x3), (4, iv x4)] gdX12_comes_6 (by decide) rfl ?_
  refine g_sub E [2, 4, 5, 6, 1, 0] rfl ?_
  exact j8 x2 x3 x4 m14 1 h
set_option maxHeartbeats 4000000 in
set_option maxRecDepth 100000 in
theorem c_X12_finds (l : Launch) (g : GG) (ad : Nat → Nat) (o : OO) (x1 : Int) (x2 : Int) (x3 : Int) (v : Int × OO) (h : s_X12_finds o x1 x2 x3 = some v) : CI l g yX12_finds cX12_finds 11 (some .boolean) 2 46 (wM g ad o) [.ref (ad 0), iv x1, iv x2, iv x3] v.1 (wM g ad v.2) := by
  refine met_I (by decide) (Nat.le_of_ble_eq_true rfl) ?_
  intro X E hQ
  show Go X 0 (wM g ad o) [(0, .ref (ad 0)), (1, iv x1), (2, iv x2), (3, iv x3)] []
  have j346 : ∀ (o : OO) (y0 : Int), b_X12_finds_346 o y0 = some v → Go X 346 (wM g ad o) [] [iv y0] := by
    intro o y0 h
    unfold b_X12_finds_346 at h
    obtain ⟨hz, h⟩ := qZ_of h
    exact g_zret E hQ hz (by rw [← Option.some.inj h]) (by rw [← Option.some.inj h]) gdX12_finds_346
  have j330 : ∀ (o : OO) (x2 : Int), b_X12_finds_330 o x2 = some v → Go X 330 (wM g ad o) [(0, .ref (ad 0)), (2, iv x2)] [] := by
    intro o x2 h
    unfold b_X12_finds_330 at h
    refine g_aload_n E gdX12_finds_330 rfl 0 rfl ?_
    refine g_get (T := TX12) E fw_X12 0 (wM_0 g ad o) rfl 74 (by decide) w_1540 rfl rfl gdX12_finds_331 ?_
    refine g_iconst E gdX12_finds_334 ?_
    refine g_iload_n E gdX12_finds_335 rfl 1 rfl ?_
    refine g_imul E gdX12_finds_336 ?_
    obtain ⟨hi1, h⟩ := qIn_of h
    refine g_iald E 61 (wM_61 g ad o) (by decide) hi1 gdX12_finds_337 ?_
    obtain ⟨n2, e_n2, h⟩ := qNm_of h
    refine g_nmi e_n2 ?_
    refine g_if_lt E 345 gdX12_finds_338 (by decide) h (fun h => ?_) (fun h => ?_)
    ·
      refine g_iconst E gdX12_finds_345 ?_
      refine g_sub E [] rfl ?_
      exact j346 o 0 h
    ·
      refine g_iconst E gdX12_finds_341 ?_
      refine g_goto E 346 gdX12_finds_342 (by decide) ?_
      refine g_sub E [] rfl ?_
      exact j346 o 1 h
  have j327 : ∀ (o : OO) (x2 : Int) (x3 : Int) (x4 : Int) (x5 : Int) (v : (OO × Int × Int) ⊕ ((OO))), b_X12_finds_327 o x2 x3 x4 x5 = some v → (∀ (o : OO) (x4 : Int) (x5 : Int), v = .inl (o, x4, x5) → Go X 58 (wM g ad o) [(0, .ref (ad 0)), (2, iv x2), (3, iv x3), (4, iv x4), (5, iv x5)] []) → (∀ (o : OO), v = .inr (o) → Go X 330 (wM g ad o) [(0, .ref (ad 0)), (2, iv x2)] []) → Go X 327 (wM g ad o) [(0, .ref (ad 0)), (2, iv x2), (3, iv x3), (4, iv x4), (5, iv x5)] [] := by
    intro o x2 x3 x4 x5 v h k0 k1
    unfold b_X12_finds_327 at h
    refine g_goto E 58 gdX12_finds_327 (by decide) ?_
    exact k0 o x4 x5 (Option.some.inj h).symm
  have j283 : ∀ (o : OO) (x2 : Int) (x3 : Int) (x4 : Int) (x5 : Int) (x6 : Int) (x7 : Int) (x8 : Int) (y0 : Int) (v : (OO × Int × Int) ⊕ ((OO))), b_X12_finds_283 o x2 x3 x4 x5 x6 x7 x8 y0 = some v → (∀ (o : OO) (x4 : Int) (x5 : Int), v = .inl (o, x4, x5) → Go X 58 (wM g ad o) [(0, .ref (ad 0)), (2, iv x2), (3, iv x3), (4, iv x4), (5, iv x5)] []) → (∀ (o : OO), v = .inr (o) → Go X 330 (wM g ad o) [(0, .ref (ad 0)), (2, iv x2)] []) → Go X 283 (wM g ad o) [(0, .ref (ad 0)), (2, iv x2), (3, iv x3), (4, iv x4), (5, iv x5), (6, iv x6), (7, iv x7), (8, iv x8)] [iv y0] := by
    intro o x2 x3 x4 x5 x6 x7 x8 y0 v h k0 k1
    unfold b_X12_finds_283 at h
    refine g_istore E [(9, iv y0), (0, .ref (ad 0)), (2, iv x2), (3, iv x3), (4, iv x4), (5, iv x5), (6, iv x6), (7, iv x7), (8, iv x8)] gdX12_finds_283 (by decide) rfl ?_
    refine g_iload E gdX12_finds_285 8 rfl ?_
    refine g_if_eq E 327 gdX12_finds_287 (by decide) h (fun h => ?_) (fun h => ?_)
    ·
      refine g_sub E [1, 2, 3, 4, 5] rfl ?_
      exact j327 o x2 x3 x4 x5 v h k0 k1
    ·
      refine g_iload E gdX12_finds_290 7 rfl ?_
      refine g_iload_n E gdX12_finds_292 rfl 2 rfl ?_
      refine g_icmp_eq E 327 gdX12_finds_293 (by decide) h (fun h => ?_) (fun h => ?_)
      ·
        refine g_sub E [1, 2, 3, 4, 5] rfl ?_
        exact j327 o x2 x3 x4 x5 v h k0 k1
      ·
        refine g_aload_n E gdX12_finds_296 rfl 1 rfl ?_
        refine g_get (T := TX12) E fw_X12 0 (wM_0 g ad o) rfl 74 (by decide) w_1540 rfl rfl gdX12_finds_297 ?_
        refine g_iload E gdX12_finds_300 0 rfl ?_
        obtain ⟨hi3, h⟩ := qIn_of h
        refine g_iald E 61 (wM_61 g ad o) (by decide) hi3 gdX12_finds_302 ?_
        obtain ⟨n4, e_n4, h⟩ := qNm_of h
        refine g_nmi e_n4 ?_
        refine g_if_ge E 327 gdX12_finds_303 (by decide) h (fun h => ?_) (fun h => ?_)
        ·
          refine g_sub E [1, 2, 3, 4, 5] rfl ?_
          exact j327 o x2 x3 x4 x5 v h k0 k1
        ·
          refine g_aload_n E gdX12_finds_306 rfl 1 rfl ?_
          refine g_get (T := TX12) E fw_X12 0 (wM_0 g ad o) rfl 74 (by decide) w_1540 rfl rfl gdX12_finds_307 ?_
          refine g_iload E gdX12_finds_310 0 rfl ?_
          refine g_iload E gdX12_finds_312 6 rfl ?_
          obtain ⟨hi5, h⟩ := qIn_of h
          obtain ⟨o6, e_o6, h⟩ := qNm_of h
          refine g_iast (ws' := wM g ad o6) E 61 (wM_61 g ad o) (by decide) hi5 (by rw [e_o6]; exact wM_s61 g ad o _ _) gdX12_finds_314 ?_
          refine g_aload_n E gdX12_finds_315 rfl 1 rfl ?_
          refine g_get (T := TX12) E fw_X12 0 (wM_0 g ad o6) rfl 75 (by decide) w_1541 rfl rfl gdX12_finds_316 ?_
          refine g_iload E gdX12_finds_319 5 rfl ?_
          refine g_iload E gdX12_finds_321 0 rfl ?_
          obtain ⟨hi7, h⟩ := qIn_of h
          obtain ⟨o8, e_o8, h⟩ := qNm_of h
          refine g_iast (ws' := wM g ad o8) E 62 (wM_62 g ad o6) (by decide) hi7 (by rw [e_o8]; exact wM_s62 g ad o6 _ _) gdX12_finds_323 ?_
          refine g_iinc E [(5, iv (x5 + 1)), (9, iv y0), (0, .ref (ad 0)), (2, iv x2), (3, iv x3), (4, iv x4), (6, iv x6), (7, iv x7), (8, iv x8)] gdX12_finds_324 5 rfl (by decide) rfl ?_
          refine g_sub E [2, 3, 4, 5, 0] rfl ?_
          exact j327 o8 x2 x3 x4 (x5 + 1) v h k0 k1
  have j263 : ∀ (o : OO) (x2 : Int) (x3 : Int) (x4 : Int) (x5 : Int) (x6 : Int) (x7 : Int) (y0 : Int) (v : (OO × Int × Int) ⊕ ((OO))), b_X12_finds_263 o x2 x3 x4 x5 x6 x7 y0 = some v → (∀ (o : OO) (x4 : Int) (x5 : Int), v = .inl (o, x4, x5) → Go X 58 (wM g ad o) [(0, .ref (ad 0)), (2, iv x2), (3, iv x3), (4, iv x4), (5, iv x5)] []) → (∀ (o : OO), v = .inr (o) → Go X 330 (wM g ad o) [(0, .ref (ad 0)), (2, iv x2)] []) → Go X 263 (wM g ad o) [(0, .ref (ad 0)), (2, iv x2), (3, iv x3), (4, iv x4), (5, iv x5), (6, iv x6), (7, iv x7)] [iv y0] := by
    intro o x2 x3 x4 x5 x6 x7 y0 v h k0 k1
    unfold b_X12_finds_263 at h
    refine g_istore E [(8, iv y0), (0, .ref (ad 0)), (2, iv x2), (3, iv x3), (4, iv x4), (5, iv x5), (6, iv x6), (7, iv x7)] gdX12_finds_263 (by decide) rfl ?_
    refine g_iload E gdX12_finds_265 6 rfl ?_
    refine g_iconst E gdX12_finds_267 ?_
    obtain ⟨hd9, h⟩ := qDv_of h
    refine g_irem E hd9 gdX12_finds_268 ?_
    refine g_if_ne E 279 gdX12_finds_269 (by decide) h (fun h => ?_) (fun h => ?_)
    ·
      refine g_iload E gdX12_finds_279 6 rfl ?_
      refine g_iconst E gdX12_finds_281 ?_
      refine g_isub E gdX12_finds_282 ?_
      refine g_sub E [1, 2, 3, 4, 5, 6, 7, 0] rfl ?_
      exact j283 o x2 x3 x4 x5 x6 x7 y0 (x6 - 1) v h k0 k1
    ·
      refine g_iload E gdX12_finds_272 6 rfl ?_
      refine g_iconst E gdX12_finds_274 ?_
      refine g_iadd E gdX12_finds_275 ?_
      refine g_goto E 283 gdX12_finds_276 (by decide) ?_
      refine g_sub E [1, 2, 3, 4, 5, 6, 7, 0] rfl ?_
      exact j283 o x2 x3 x4 x5 x6 x7 y0 (x6 + 1) v h k0 k1
  have j240 : ∀ (o : OO) (x2 : Int) (x3 : Int) (x4 : Int) (x5 : Int) (x6 : Int) (x7 : Int) (v : (OO × Int × Int) ⊕ ((OO))), b_X12_finds_240 o x2 x3 x4 x5 x6 x7 = some v → (∀ (o : OO) (x4 : Int) (x5 : Int), v = .inl (o, x4, x5) → Go X 58 (wM g ad o) [(0, .ref (ad 0)), (2, iv x2), (3, iv x3), (4, iv x4), (5, iv x5)] []) → (∀ (o : OO), v = .inr (o) → Go X 330 (wM g ad o) [(0, .ref (ad 0)), (2, iv x2)] []) → Go X 240 (wM g ad o) [(0, .ref (ad 0)), (2, iv x2), (3, iv x3), (4, iv x4), (5, iv x5), (6, iv x6), (7, iv x7)] [] := by
    intro o x2 x3 x4 x5 x6 x7 v h k0 k1
    unfold b_X12_finds_240 at h
    refine g_iconst E gdX12_finds_240 ?_
    refine g_goto E 263 gdX12_finds_241 (by decide) ?_
    exact j263 o x2 x3 x4 x5 x6 x7 1 v h k0 k1
  have j213 : ∀ (o : OO) (x2 : Int) (x3 : Int) (x4 : Int) (x5 : Int) (x6 : Int) (x7 : Int) (v : (OO × Int × Int) ⊕ ((OO))), b_X12_finds_213 o x2 x3 x4 x5 x6 x7 = some v → (∀ (o : OO) (x4 : Int) (x5 : Int), v = .inl (o, x4, x5) → Go X 58 (wM g ad o) [(0, .ref (ad 0)), (2, iv x2), (3, iv x3), (4, iv x4), (5, iv x5)] []) → (∀ (o : OO), v = .inr (o) → Go X 330 (wM g ad o) [(0, .ref (ad 0)), (2, iv x2)] []) → Go X 213 (wM g ad o) [(0, .ref (ad 0)), (2, iv x2), (3, iv x3), (4, iv x4), (5, iv x5), (6, iv x6), (7, iv x7)] [] := by
    intro o x2 x3 x4 x5 x6 x7 v h k0 k1
    unfold b_X12_finds_213 at h
    refine g_iload E gdX12_finds_213 5 rfl ?_
    refine g_iconst E gdX12_finds_215 ?_
    obtain ⟨hd10, h⟩ := qDv_of h
    refine g_irem E hd10 gdX12_finds_216 ?_
    refine g_if_ne E 248 gdX12_finds_217 (by decide) h (fun h => ?_) (fun h => ?_)
    ·
      refine g_aload_n E gdX12_finds_248 rfl 0 rfl ?_
      refine g_get (T := TX12) E fw_X12 0 (wM_0 g ad o) rfl 72 (by decide) w_1538 rfl rfl gdX12_finds_249 ?_
      refine g_iload E gdX12_finds_252 6 rfl ?_
      obtain ⟨hi11, h⟩ := qIn_of h
      refine g_iald E 59 (wM_59 g ad o) (by decide) hi11 gdX12_finds_254 ?_
      obtain ⟨n12, e_n12, h⟩ := qNm_of h
      refine g_nmi e_n12 ?_
      refine g_if_le E 262 gdX12_finds_255 (by decide) h (fun h => ?_) (fun h => ?_)
      ·
        refine g_iconst E gdX12_finds_262 ?_
        exact j263 o x2 x3 x4 x5 x6 x7 0 v h k0 k1
      ·
        refine g_iconst E gdX12_finds_258 ?_
        refine g_goto E 263 gdX12_finds_259 (by decide) ?_
        exact j263 o x2 x3 x4 x5 x6 x7 1 v h k0 k1
    ·
      refine g_aload_n E gdX12_finds_220 rfl 0 rfl ?_
      refine g_get (T := TX12) E fw_X12 0 (wM_0 g ad o) rfl 71 (by decide) w_1537 rfl rfl gdX12_finds_221 ?_
      refine g_iload E gdX12_finds_224 6 rfl ?_
      obtain ⟨hi13, h⟩ := qIn_of h
      refine g_zald E 58 (wM_58 g ad o) (by decide) hi13 gdX12_finds_226 ?_
      obtain ⟨n14, e_n14, h⟩ := qNm_of h
      refine g_nmi e_n14 ?_
      refine g_if_eq E 240 gdX12_finds_227 (by decide) h (fun h => ?_) (fun h => ?_)
      ·
        exact j240 o x2 x3 x4 x5 x6 x7 v h k0 k1
      ·
        refine g_aload_n E gdX12_finds_230 rfl 0 rfl ?_
        refine g_get (T := TX12) E fw_X12 0 (wM_0 g ad o) rfl 72 (by decide) w_1538 rfl rfl gdX12_finds_231 ?_
        refine g_iload E gdX12_finds_234 6 rfl ?_
        obtain ⟨hi15, h⟩ := qIn_of h
        refine g_iald E 59 (wM_59 g ad o) (by decide) hi15 gdX12_finds_236 ?_
        obtain ⟨n16, e_n16, h⟩ := qNm_of h
        refine g_nmi e_n16 ?_
        refine g_if_ne E 244 gdX12_finds_237 (by decide) h (fun h => ?_) (fun h => ?_)
        ·
          refine g_iconst E gdX12_finds_244 ?_
          refine g_goto E 263 gdX12_finds_245 (by decide) ?_
          exact j263 o x2 x3 x4 x5 x6 x7 0 v h k0 k1
        ·
          exact j240 o x2 x3 x4 x5 x6 x7 v h k0 k1
  have j207 : ∀ (o : OO) (x2 : Int) (x3 : Int) (x4 : Int) (x5 : Int) (x6 : Int) (x7 : Int) (x8 : Int) (v : (OO × Int × Int) ⊕ ((OO × Int))), b_X12_finds_207 o x2 x3 x4 x5 x6 x7 x8 = some v → (∀ (o : OO) (x5 : Int) (x8 : Int), v = .inl (o, x5, x8) → Go X 86 (wM g ad o) [(0, .ref (ad 0)), (2, iv x2), (3, iv x3), (4, iv x4), (5, iv x5), (6, iv x6), (7, iv x7), (8, iv x8)] []) → (∀ (o : OO) (x5 : Int), v = .inr ((o, x5)) → Go X 213 (wM g ad o) [(0, .ref (ad 0)), (2, iv x2), (3, iv x3), (4, iv x4), (5, iv x5), (6, iv x6), (7, iv x7)] []) → Go X 207 (wM g ad o) [(0, .ref (ad 0)), (2, iv x2), (3, iv x3), (4, iv x4), (5, iv x5), (6, iv x6), (7, iv x7), (8, iv x8)] [] := by
    intro o x2 x3 x4 x5 x6 x7 x8 v h k0 k1
    unfold b_X12_finds_207 at h
    refine g_iinc E [(8, iv (x8 + 1)), (0, .ref (ad 0)), (2, iv x2), (3, iv x3), (4, iv x4), (5, iv x5), (6, iv x6), (7, iv x7)] gdX12_finds_207 7 rfl (by decide) rfl ?_
    refine g_goto E 86 gdX12_finds_210 (by decide) ?_
    refine g_sub E [1, 2, 3, 4, 5, 6, 7, 0] rfl ?_
    exact k0 o x5 (x8 + 1) (Option.some.inj h).symm
  have j169 : ∀ (o : OO) (x2 : Int) (x3 : Int) (x4 : Int) (x5 : Int) (x6 : Int) (x7 : Int) (x8 : Int) (y0 : Int) (v : (OO × Int × Int) ⊕ ((OO × Int))), b_X12_finds_169 o x2 x3 x4 x5 x6 x7 x8 y0 = some v → (∀ (o : OO) (x5 : Int) (x8 : Int), v = .inl (o, x5, x8) → Go X 86 (wM g ad o) [(0, .ref (ad 0)), (2, iv x2), (3, iv x3), (4, iv x4), (5, iv x5), (6, iv x6), (7, iv x7), (8, iv x8)] []) → (∀ (o : OO) (x5 : Int), v = .inr ((o, x5)) → Go X 213 (wM g ad o) [(0, .ref (ad 0)), (2, iv x2), (3, iv x3), (4, iv x4), (5, iv x5), (6, iv x6), (7, iv x7)] []) → Go X 169 (wM g ad o) [(0, .ref (ad 0)), (2, iv x2), (3, iv x3), (4, iv x4), (5, iv x5), (6, iv x6), (7, iv x7), (8, iv x8)] [iv y0] := by
    intro o x2 x3 x4 x5 x6 x7 x8 y0 v h k0 k1
    unfold b_X12_finds_169 at h
    refine g_istore E [(10, iv y0), (0, .ref (ad 0)), (2, iv x2), (3, iv x3), (4, iv x4), (5, iv x5), (6, iv x6), (7, iv x7), (8, iv x8)] gdX12_finds_169 (by decide) rfl ?_
    refine g_iload E gdX12_finds_171 0 rfl ?_
    refine g_if_lt E 207 gdX12_finds_173 (by decide) h (fun h => ?_) (fun h => ?_)
    ·
      refine g_sub E [1, 2, 3, 4, 5, 6, 7, 8] rfl ?_
      exact j207 o x2 x3 x4 x5 x6 x7 x8 v h k0 k1
    ·
      refine g_aload_n E gdX12_finds_176 rfl 1 rfl ?_
      refine g_get (T := TX12) E fw_X12 0 (wM_0 g ad o) rfl 74 (by decide) w_1540 rfl rfl gdX12_finds_177 ?_
      refine g_iload E gdX12_finds_180 0 rfl ?_
      obtain ⟨hi17, h⟩ := qIn_of h
      refine g_iald E 61 (wM_61 g ad o) (by decide) hi17 gdX12_finds_182 ?_
      obtain ⟨n18, e_n18, h⟩ := qNm_of h
      refine g_nmi e_n18 ?_
      refine g_if_ge E 207 gdX12_finds_183 (by decide) h (fun h => ?_) (fun h => ?_)
      ·
        refine g_sub E [1, 2, 3, 4, 5, 6, 7, 8] rfl ?_
        exact j207 o x2 x3 x4 x5 x6 x7 x8 v h k0 k1
      ·
        refine g_aload_n E gdX12_finds_186 rfl 1 rfl ?_
        refine g_get (T := TX12) E fw_X12 0 (wM_0 g ad o) rfl 74 (by decide) w_1540 rfl rfl gdX12_finds_187 ?_
        refine g_iload E gdX12_finds_190 0 rfl ?_
        refine g_iload E gdX12_finds_192 6 rfl ?_
        obtain ⟨hi19, h⟩ := qIn_of h
        obtain ⟨o20, e_o20, h⟩ := qNm_of h
        refine g_iast (ws' := wM g ad o20) E 61 (wM_61 g ad o) (by decide) hi19 (by rw [e_o20]; exact wM_s61 g ad o _ _) gdX12_finds_194 ?_
        refine g_aload_n E gdX12_finds_195 rfl 1 rfl ?_
        refine g_get (T := TX12) E fw_X12 0 (wM_0 g ad o20) rfl 75 (by decide) w_1541 rfl rfl gdX12_finds_196 ?_
        refine g_iload E gdX12_finds_199 5 rfl ?_
        refine g_iload E gdX12_finds_201 0 rfl ?_
        obtain ⟨hi21, h⟩ := qIn_of h
        obtain ⟨o22, e_o22, h⟩ := qNm_of h
        refine g_iast (ws' := wM g ad o22) E 62 (wM_62 g ad o20) (by decide) hi21 (by rw [e_o22]; exact wM_s62 g ad o20 _ _) gdX12_finds_203 ?_
        refine g_iinc E [(5, iv (x5 + 1)), (10, iv y0), (0, .ref (ad 0)), (2, iv x2), (3, iv x3), (4, iv x4), (6, iv x6), (7, iv x7), (8, iv x8)] gdX12_finds_204 5 rfl (by decide) rfl ?_
        refine g_sub E [2, 3, 4, 5, 0, 6, 7, 8] rfl ?_
        exact j207 o22 x2 x3 x4 (x5 + 1) x6 x7 x8 v h k0 k1
  have l86 : ∀ (x2 : Int) (x3 : Int) (x4 : Int) (x6 : Int) (x7 : Int) (r : (OO × Int)) (s0 : OO × Int × Int), loopW (fun s => l_X12_finds_86 x2 x3 x4 x6 x7 s.1 s.2.1 s.2.2) s0 = some r → (∀ (o : OO) (x5 : Int), r = ((o, x5)) → Go X 213 (wM g ad o) [(0, .ref (ad 0)), (2, iv x2), (3, iv x3), (4, iv x4), (5, iv x5), (6, iv x6), (7, iv x7)] []) → Go X 86 (wM g ad s0.1) [(0, .ref (ad 0)), (2, iv x2), (3, iv x3), (4, iv x4), (5, iv s0.2.1), (6, iv x6), (7, iv x7), (8, iv s0.2.2)] [] := by
    intro x2 x3 x4 x6 x7 r s0 h k1
    refine loop_rule (Head := fun s0 => Go X 86 (wM g ad s0.1) [(0, .ref (ad 0)), (2, iv x2), (3, iv x3), (4, iv x4), (5, iv s0.2.1), (6, iv x6), (7, iv x7), (8, iv s0.2.2)] []) h ?_
    intro s v h kk kx
    obtain ⟨o, x5, x8⟩ := s
    have h : l_X12_finds_86 x2 x3 x4 x6 x7 o x5 x8 = some v := h
    have k0 : ∀ (o : OO) (x5 : Int) (x8 : Int), v = .inl (o, x5, x8) → Go X 86 (wM g ad o) [(0, .ref (ad 0)), (2, iv x2), (3, iv x3), (4, iv x4), (5, iv x5), (6, iv x6), (7, iv x7), (8, iv x8)] [] := fun o x5 x8 e => kk (o, x5, x8) e
    have k1 : ∀ (o : OO) (x5 : Int), v = .inr ((o, x5)) → Go X 213 (wM g ad o) [(0, .ref (ad 0)), (2, iv x2), (3, iv x3), (4, iv x4), (5, iv x5), (6, iv x6), (7, iv x7)] [] := fun o x5 e => k1 o x5 (kx _ e).symm
    unfold l_X12_finds_86 at h
    refine g_iload E gdX12_finds_86 7 rfl ?_
    refine g_iconst E gdX12_finds_88 ?_
    refine g_icmp_ge E 213 gdX12_finds_89 (by decide) h (fun h => ?_) (fun h => ?_)
    ·
      refine g_sub E [0, 1, 2, 3, 4, 5, 6] rfl ?_
      exact k1 o x5 (Option.some.inj h).symm
    ·
      refine g_iload E gdX12_finds_92 6 rfl ?_
      refine g_iload E gdX12_finds_94 7 rfl ?_
      obtain ⟨r23, hc24, h⟩ := qB_of h
      refine g_Si (r := r23) (As := [iv x7, iv x8]) (rest := []) (w := wM g ad o) E (c_X12_beside l g (wM g ad o) x7 x8 r23 hc24) okm_X12_beside w_1881 w_1880 rfl rfl (Nat.le_of_ble_eq_true rfl) ⟨Nat.le_of_ble_eq_true rfl, Nat.le_of_ble_eq_true rfl⟩ gdX12_finds_96 ?_
      refine g_istore E [(9, iv r23), (0, .ref (ad 0)), (2, iv x2), (3, iv x3), (4, iv x4), (5, iv x5), (6, iv x6), (7, iv x7), (8, iv x8)] gdX12_finds_99 (by decide) rfl ?_
      refine g_iload E gdX12_finds_101 0 rfl ?_
      refine g_if_ge E 109 gdX12_finds_103 (by decide) h (fun h => ?_) (fun h => ?_)
      ·
        refine g_iload E gdX12_finds_109 6 rfl ?_
        refine g_iconst E gdX12_finds_111 ?_
        obtain ⟨hd25, h⟩ := qDv_of h
        refine g_irem E hd25 gdX12_finds_112 ?_
        refine g_iconst E gdX12_finds_113 ?_
        refine g_icmp_ne E 141 gdX12_finds_114 (by decide) h (fun h => ?_) (fun h => ?_)
        ·
          refine g_aload_n E gdX12_finds_141 rfl 1 rfl ?_
          refine g_get (T := TX12) E fw_X12 0 (wM_0 g ad o) rfl 73 (by decide) w_1539 rfl rfl gdX12_finds_142 ?_
          refine g_iconst E gdX12_finds_145 ?_
          refine g_iload E gdX12_finds_146 0 rfl ?_
          refine g_imul E gdX12_finds_148 ?_
          refine g_iconst E gdX12_finds_149 ?_
          refine g_iadd E gdX12_finds_150 ?_
          refine g_iload E gdX12_finds_151 8 rfl ?_
          refine g_isub E gdX12_finds_153 ?_
          obtain ⟨hi26, h⟩ := qIn_of h
          refine g_iald E 60 (wM_60 g ad o) (by decide) hi26 gdX12_finds_154 ?_
          obtain ⟨n27, e_n27, h⟩ := qNm_of h
          refine g_nmi e_n27 ?_
          refine g_if_le E 167 gdX12_finds_155 (by decide) h (fun h => ?_) (fun h => ?_)
          ·
            refine g_bipush E gdX12_finds_167 (by decide) ?_
            refine g_sub E [1, 2, 3, 4, 5, 6, 7, 8] rfl ?_
            exact j169 o x2 x3 x4 x5 x6 x7 x8 (-9) v h k0 k1
          ·
            refine g_iconst E gdX12_finds_158 ?_
            refine g_iload E gdX12_finds_159 0 rfl ?_
            refine g_imul E gdX12_finds_161 ?_
            refine g_iconst E gdX12_finds_162 ?_
            refine g_iadd E gdX12_finds_163 ?_
            refine g_goto E 169 gdX12_finds_164 (by decide) ?_
            refine g_sub E [1, 2, 3, 4, 5, 6, 7, 8] rfl ?_
            exact j169 o x2 x3 x4 x5 x6 x7 x8 ((2 * r23) + 1) v h k0 k1
        ·
          refine g_aload_n E gdX12_finds_117 rfl 1 rfl ?_
          refine g_iload E gdX12_finds_118 7 rfl ?_
          refine g_iload E gdX12_finds_120 0 rfl ?_
          refine g_iload_n E gdX12_finds_122 rfl 3 rfl ?_
          obtain ⟨r28, hc29, h⟩ := qB_of h
          refine g_Vi (r := r28) (As := [iv x7, iv r23, iv x3]) (rest := []) (w := wM g ad o) E (c_X12_leads l g ad o x7 r23 x3 r28 hc29) okm_X12_leads okw_X12_leads w_1883 rfl (wM_0 g ad o) rfl rfl (Nat.le_of_ble_eq_true rfl) ⟨Nat.le_of_ble_eq_true rfl, Nat.le_of_ble_eq_true rfl⟩ gdX12_finds_123 ?_
          refine g_if_eq E 136 gdX12_finds_126 (by decide) h (fun h => ?_) (fun h => ?_)
          ·
            refine g_bipush E gdX12_finds_136 (by decide) ?_
            refine g_goto E 169 gdX12_finds_138 (by decide) ?_
            refine g_sub E [1, 2, 3, 4, 5, 6, 7, 8] rfl ?_
            exact j169 o x2 x3 x4 x5 x6 x7 x8 (-9) v h k0 k1
          ·
            refine g_iconst E gdX12_finds_129 ?_
            refine g_iload E gdX12_finds_130 0 rfl ?_
            refine g_imul E gdX12_finds_132 ?_
            refine g_goto E 169 gdX12_finds_133 (by decide) ?_
            refine g_sub E [1, 2, 3, 4, 5, 6, 7, 8] rfl ?_
            exact j169 o x2 x3 x4 x5 x6 x7 x8 (2 * r23) v h k0 k1
      ·
        refine g_goto E 207 gdX12_finds_106 (by decide) ?_
        refine g_sub E [1, 2, 3, 4, 5, 6, 7, 8] rfl ?_
        exact j207 o x2 x3 x4 x5 x6 x7 x8 v h k0 k1
  have j86 : ∀ (o : OO) (x2 : Int) (x3 : Int) (x4 : Int) (x5 : Int) (x6 : Int) (x7 : Int) (x8 : Int) (v : (OO × Int × Int) ⊕ ((OO))), e_X12_finds_86 o x2 x3 x4 x5 x6 x7 x8 = some v → (∀ (o : OO) (x4 : Int) (x5 : Int), v = .inl (o, x4, x5) → Go X 58 (wM g ad o) [(0, .ref (ad 0)), (2, iv x2), (3, iv x3), (4, iv x4), (5, iv x5)] []) → (∀ (o : OO), v = .inr (o) → Go X 330 (wM g ad o) [(0, .ref (ad 0)), (2, iv x2)] []) → Go X 86 (wM g ad o) [(0, .ref (ad 0)), (2, iv x2), (3, iv x3), (4, iv x4), (5, iv x5), (6, iv x6), (7, iv x7), (8, iv x8)] [] := by
    intro o x2 x3 x4 x5 x6 x7 x8 v h k0 k1
    unfold e_X12_finds_86 at h
    obtain ⟨r, hr, h⟩ := qB_of h
    refine l86 x2 x3 x4 x6 x7 r _ hr ?_
    ·
      intro u0 u1 e
      subst e
      have h : b_X12_finds_213 u0 x2 x3 x4 u1 x6 x7 = some v := h
      exact j213 u0 x2 x3 x4 u1 x6 x7 v h k0 k1
  have l58 : ∀ (x2 : Int) (x3 : Int) (r : (OO)) (s0 : OO × Int × Int), loopW (fun s => l_X12_finds_58 x2 x3 s.1 s.2.1 s.2.2) s0 = some r → (∀ (o : OO), r = (o) → Go X 330 (wM g ad o) [(0, .ref (ad 0)), (2, iv x2)] []) → Go X 58 (wM g ad s0.1) [(0, .ref (ad 0)), (2, iv x2), (3, iv x3), (4, iv s0.2.1), (5, iv s0.2.2)] [] := by
    intro x2 x3 r s0 h k1
    refine loop_rule (Head := fun s0 => Go X 58 (wM g ad s0.1) [(0, .ref (ad 0)), (2, iv x2), (3, iv x3), (4, iv s0.2.1), (5, iv s0.2.2)] []) h ?_
    intro s v h kk kx
    obtain ⟨o, x4, x5⟩ := s
    have h : l_X12_finds_58 x2 x3 o x4 x5 = some v := h
    have k0 : ∀ (o : OO) (x4 : Int) (x5 : Int), v = .inl (o, x4, x5) → Go X 58 (wM g ad o) [(0, .ref (ad 0)), (2, iv x2), (3, iv x3), (4, iv x4), (5, iv x5)] [] := fun o x4 x5 e => kk (o, x4, x5) e
    have k1 : ∀ (o : OO), v = .inr (o) → Go X 330 (wM g ad o) [(0, .ref (ad 0)), (2, iv x2)] [] := fun o e => k1 o (kx _ e).symm
    unfold l_X12_finds_58 at h
    refine g_iload E gdX12_finds_58 3 rfl ?_
    refine g_iload E gdX12_finds_60 4 rfl ?_
    refine g_icmp_ge E 330 gdX12_finds_62 (by decide) h (fun h => ?_) (fun h => ?_)
    ·
      refine g_sub E [0, 1] rfl ?_
      exact k1 o (Option.some.inj h).symm
    ·
      refine g_aload_n E gdX12_finds_65 rfl 0 rfl ?_
      refine g_get (T := TX12) E fw_X12 0 (wM_0 g ad o) rfl 75 (by decide) w_1541 rfl rfl gdX12_finds_66 ?_
      refine g_iload E gdX12_finds_69 3 rfl ?_
      obtain ⟨hi30, h⟩ := qIn_of h
      refine g_iald E 62 (wM_62 g ad o) (by decide) hi30 gdX12_finds_71 ?_
      obtain ⟨n31, e_n31, h⟩ := qNm_of h
      refine g_nmi e_n31 ?_
      refine g_istore E [(6, iv n31), (0, .ref (ad 0)), (2, iv x2), (3, iv x3), (4, iv x4), (5, iv x5)] gdX12_finds_72 (by decide) rfl ?_
      refine g_iload E gdX12_finds_74 0 rfl ?_
      refine g_iconst E gdX12_finds_76 ?_
      obtain ⟨hd32, h⟩ := qDv_of h
      refine g_idiv E hd32 gdX12_finds_77 ?_
      obtain ⟨n33, e_n33, h⟩ := qNm_of h
      refine g_nmi e_n33 ?_
      refine g_istore E [(7, iv n33), (6, iv n31), (0, .ref (ad 0)), (2, iv x2), (3, iv x3), (4, iv x4), (5, iv x5)] gdX12_finds_78 (by decide) rfl ?_
      refine g_iinc E [(4, iv (x4 + 1)), (7, iv n33), (6, iv n31), (0, .ref (ad 0)), (2, iv x2), (3, iv x3), (5, iv x5)] gdX12_finds_80 5 rfl (by decide) rfl ?_
      refine g_iconst E gdX12_finds_83 ?_
      refine g_istore E [(8, iv 0), (4, iv (x4 + 1)), (7, iv n33), (6, iv n31), (0, .ref (ad 0)), (2, iv x2), (3, iv x3), (5, iv x5)] gdX12_finds_84 (by decide) rfl ?_
      refine g_sub E [4, 5, 6, 1, 7, 3, 2, 0] rfl ?_
      exact j86 o x2 x3 (x4 + 1) x5 n31 n33 0 v h k0 k1
  have j58 : ∀ (o : OO) (x2 : Int) (x3 : Int) (x4 : Int) (x5 : Int), e_X12_finds_58 o x2 x3 x4 x5 = some v → Go X 58 (wM g ad o) [(0, .ref (ad 0)), (2, iv x2), (3, iv x3), (4, iv x4), (5, iv x5)] [] := by
    intro o x2 x3 x4 x5 h
    unfold e_X12_finds_58 at h
    obtain ⟨r, hr, h⟩ := qB_of h
    refine l58 x2 x3 r _ hr ?_
    ·
      intro u0 e
      have e := e.symm
      subst e
      have h : b_X12_finds_330 u0 x2 = some v := h
      exact j330 u0 x2 h
  have j26 : ∀ (o : OO) (x1 : Int) (x2 : Int) (x3 : Int), b_X12_finds_26 o x1 x2 x3 = some v → Go X 26 (wM g ad o) [(0, .ref (ad 0)), (1, iv x1), (2, iv x2), (3, iv x3)] [] := by
    intro o x1 x2 x3 h
    unfold b_X12_finds_26 at h
    refine g_iconst E gdX12_finds_26 ?_
    refine g_istore E [(4, iv 0), (0, .ref (ad 0)), (1, iv x1), (2, iv x2), (3, iv x3)] gdX12_finds_27 (by decide) rfl ?_
    refine g_iconst E gdX12_finds_29 ?_
    refine g_istore E [(5, iv 1), (4, iv 0), (0, .ref (ad 0)), (1, iv x1), (2, iv x2), (3, iv x3)] gdX12_finds_30 (by decide) rfl ?_
    refine g_aload_n E gdX12_finds_32 rfl 2 rfl ?_
    refine g_get (T := TX12) E fw_X12 0 (wM_0 g ad o) rfl 75 (by decide) w_1541 rfl rfl gdX12_finds_33 ?_
    refine g_iconst E gdX12_finds_36 ?_
    refine g_iconst E gdX12_finds_37 ?_
    refine g_iload_n E gdX12_finds_38 rfl 3 rfl ?_
    refine g_imul E gdX12_finds_39 ?_
    refine g_iconst E gdX12_finds_40 ?_
    refine g_iadd E gdX12_finds_41 ?_
    obtain ⟨o34, e_o34, h⟩ := qNm_of h
    refine g_iast (ws' := wM g ad o34) E 62 (wM_62 g ad o) (by decide) ⟨by decide, by decide⟩ (by rw [e_o34]; exact wM_s62 g ad o _ _) gdX12_finds_42 ?_
    refine g_aload_n E gdX12_finds_43 rfl 2 rfl ?_
    refine g_get (T := TX12) E fw_X12 0 (wM_0 g ad o34) rfl 74 (by decide) w_1540 rfl rfl gdX12_finds_44 ?_
    refine g_iconst E gdX12_finds_47 ?_
    refine g_iload_n E gdX12_finds_48 rfl 3 rfl ?_
    refine g_imul E gdX12_finds_49 ?_
    refine g_iconst E gdX12_finds_50 ?_
    refine g_iadd E gdX12_finds_51 ?_
    refine g_iconst E gdX12_finds_52 ?_
    refine g_iload_n E gdX12_finds_53 rfl 3 rfl ?_
    refine g_imul E gdX12_finds_54 ?_
    refine g_iconst E gdX12_finds_55 ?_
    refine g_iadd E gdX12_finds_56 ?_
    obtain ⟨hi35, h⟩ := qIn_of h
    obtain ⟨o36, e_o36, h⟩ := qNm_of h
    refine g_iast (ws' := wM g ad o36) E 61 (wM_61 g ad o34) (by decide) hi35 (by rw [e_o36]; exact wM_s61 g ad o34 _ _) gdX12_finds_57 ?_
    refine g_sub E [2, 4, 5, 1, 0] rfl ?_
    exact j58 o36 x2 x3 0 1 h
  have l3 : ∀ (x1 : Int) (x2 : Int) (x3 : Int) (r : (OO)) (s0 : OO × Int), loopW (fun s => l_X12_finds_3 x1 x2 x3 s.1 s.2) s0 = some r → (∀ (o : OO), r = (o) → Go X 26 (wM g ad o) [(0, .ref (ad 0)), (1, iv x1), (2, iv x2), (3, iv x3)] []) → Go X 3 (wM g ad s0.1) [(0, .ref (ad 0)), (1, iv x1), (2, iv x2), (3, iv x3), (4, iv s0.2)] [] := by
    intro x1 x2 x3 r s0 h k1
    refine loop_rule (Head := fun s0 => Go X 3 (wM g ad s0.1) [(0, .ref (ad 0)), (1, iv x1), (2, iv x2), (3, iv x3), (4, iv s0.2)] []) h ?_
    intro s v h kk kx
    obtain ⟨o, x4⟩ := s
    have h : l_X12_finds_3 x1 x2 x3 o x4 = some v := h
    have k0 : ∀ (o : OO) (x4 : Int), v = .inl (o, x4) → Go X 3 (wM g ad o) [(0, .ref (ad 0)), (1, iv x1), (2, iv x2), (3, iv x3), (4, iv x4)] [] := fun o x4 e => kk (o, x4) e
    have k1 : ∀ (o : OO), v = .inr (o) → Go X 26 (wM g ad o) [(0, .ref (ad 0)), (1, iv x1), (2, iv x2), (3, iv x3)] [] := fun o e => k1 o (kx _ e).symm
    unfold l_X12_finds_3 at h
    refine g_iload E gdX12_finds_3 4 rfl ?_
    refine g_sipush E gdX12_finds_5 (by decide) ?_
    refine g_icmp_ge E 26 gdX12_finds_8 (by decide) h (fun h => ?_) (fun h => ?_)
    ·
      refine g_sub E [0, 1, 2, 3] rfl ?_
      exact k1 o (Option.some.inj h).symm
    ·
      refine g_aload_n E gdX12_finds_11 rfl 0 rfl ?_
      refine g_get (T := TX12) E fw_X12 0 (wM_0 g ad o) rfl 74 (by decide) w_1540 rfl rfl gdX12_finds_12 ?_
      refine g_iload E gdX12_finds_15 4 rfl ?_
      refine g_bipush E gdX12_finds_17 (by decide) ?_
      obtain ⟨hi37, h⟩ := qIn_of h
      obtain ⟨o38, e_o38, h⟩ := qNm_of h
      refine g_iast (ws' := wM g ad o38) E 61 (wM_61 g ad o) (by decide) hi37 (by rw [e_o38]; exact wM_s61 g ad o _ _) gdX12_finds_19 ?_
      refine g_iinc E [(4, iv (x4 + 1)), (0, .ref (ad 0)), (1, iv x1), (2, iv x2), (3, iv x3)] gdX12_finds_20 4 rfl (by decide) rfl ?_
      refine g_goto E 3 gdX12_finds_23 (by decide) ?_
      refine g_sub E [1, 2, 3, 4, 0] rfl ?_
      exact k0 o38 (x4 + 1) (Option.some.inj h).symm
  have j3 : ∀ (o : OO) (x1 : Int) (x2 : Int) (x3 : Int) (x4 : Int), e_X12_finds_3 o x1 x2 x3 x4 = some v → Go X 3 (wM g ad o) [(0, .ref (ad 0)), (1, iv x1), (2, iv x2), (3, iv x3), (4, iv x4)] [] := by
    intro o x1 x2 x3 x4 h
    unfold e_X12_finds_3 at h
    obtain ⟨r, hr, h⟩ := qB_of h
    refine l3 x1 x2 x3 r _ hr ?_
    ·
      intro u0 e
      have e := e.symm
      subst e
      have h : b_X12_finds_26 u0 x1 x2 x3 = some v := h
      exact j26 u0 x1 x2 x3 h
  unfold s_X12_finds at h
  refine g_iconst E gdX12_finds_0 ?_
  refine g_istore E [(4, iv 0), (0, .ref (ad 0)), (1, iv x1), (2, iv x2), (3, iv x3)] gdX12_finds_1 (by decide) rfl ?_
  refine g_sub E [1, 2, 3, 4, 0] rfl ?_
  exact j3 o x1 x2 x3 0 h
