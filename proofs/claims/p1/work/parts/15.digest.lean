set_option maxRecDepth 200000 in
theorem q_1429 : Cond.constantLong "CityRoad$Ground" 51 (31) ∈ tb := tb_mem 1429 (by decide +kernel) rfl
set_option maxRecDepth 200000 in
theorem q_1459 : Cond.constantLong "CityRoad$Shelf" 51 (31) ∈ tb := tb_mem 1459 (by decide +kernel) rfl
set_option maxRecDepth 200000 in
theorem q_1422 : Cond.constantLong "CityRoad" 480 (17) ∈ tb := tb_mem 1422 (by decide +kernel) rfl
set_option maxRecDepth 200000 in
theorem q_1423 : Cond.constantLong "CityRoad" 482 (31) ∈ tb := tb_mem 1423 (by decide +kernel) rfl
set_option maxRecDepth 200000 in
theorem q_1396 : Cond.code yX11_count cX11_count 2 (some .int) ∈ tb := tb_mem 1396 (by rfl) rfl
set_option maxRecDepth 200000 in
theorem q_1394 : Cond.instanceMethod yX11_count ∈ tb := tb_mem 1394 (by decide +kernel) rfl
set_option maxRecDepth 200000 in
theorem q_1395 : Cond.selects "CityRoad" yX11_count yX11_count ∈ tb := tb_mem 1395 (by decide +kernel) rfl
set_option maxRecDepth 200000 in
theorem q_1424 : Cond.methodLink "CityRoad" 484 yX11_count ∈ tb := tb_mem 1424 (by decide +kernel) rfl
set_option maxRecDepth 200000 in
theorem q_1428 : Cond.code yX3_hash cX3_hash 4 (some .long) ∈ tb := tb_mem 1428 (by rfl) rfl
set_option maxRecDepth 200000 in
theorem q_1426 : Cond.instanceMethod yX3_hash ∈ tb := tb_mem 1426 (by decide +kernel) rfl
set_option maxRecDepth 200000 in
theorem q_1427 : Cond.selects "CityRoad$Ground" yX3_hash yX3_hash ∈ tb := tb_mem 1427 (by decide +kernel) rfl
set_option maxRecDepth 200000 in
theorem q_1425 : Cond.methodLink "CityRoad" 487 yX3_hash ∈ tb := tb_mem 1425 (by decide +kernel) rfl
set_option maxRecDepth 200000 in
theorem q_1433 : Cond.code yX1_hash cX1_hash 5 (some .long) ∈ tb := tb_mem 1433 (by rfl) rfl
set_option maxRecDepth 200000 in
theorem q_1431 : Cond.instanceMethod yX1_hash ∈ tb := tb_mem 1431 (by decide +kernel) rfl
set_option maxRecDepth 200000 in
theorem q_1432 : Cond.selects "CityRoad$Buildings" yX1_hash yX1_hash ∈ tb := tb_mem 1432 (by decide +kernel) rfl
set_option maxRecDepth 200000 in
theorem q_1430 : Cond.methodLink "CityRoad" 490 yX1_hash ∈ tb := tb_mem 1430 (by decide +kernel) rfl
set_option maxRecDepth 200000 in
theorem q_1439 : Cond.code yX5_hash cX5_hash 5 (some .long) ∈ tb := tb_mem 1439 (by rfl) rfl
set_option maxRecDepth 200000 in
theorem q_1437 : Cond.instanceMethod yX5_hash ∈ tb := tb_mem 1437 (by decide +kernel) rfl
set_option maxRecDepth 200000 in
theorem q_1438 : Cond.selects "CityRoad$Persons" yX5_hash yX5_hash ∈ tb := tb_mem 1438 (by decide +kernel) rfl
set_option maxRecDepth 200000 in
theorem q_1436 : Cond.methodLink "CityRoad" 491 yX5_hash ∈ tb := tb_mem 1436 (by decide +kernel) rfl
set_option maxRecDepth 200000 in
theorem q_1445 : Cond.code yX7_hash cX7_hash 4 (some .long) ∈ tb := tb_mem 1445 (by rfl) rfl
set_option maxRecDepth 200000 in
theorem q_1443 : Cond.instanceMethod yX7_hash ∈ tb := tb_mem 1443 (by decide +kernel) rfl
set_option maxRecDepth 200000 in
theorem q_1444 : Cond.selects "CityRoad$Rules" yX7_hash yX7_hash ∈ tb := tb_mem 1444 (by decide +kernel) rfl
set_option maxRecDepth 200000 in
theorem q_1442 : Cond.methodLink "CityRoad" 492 yX7_hash ∈ tb := tb_mem 1442 (by decide +kernel) rfl
set_option maxRecDepth 200000 in
theorem q_1450 : Cond.code yX4_hash cX4_hash 5 (some .long) ∈ tb := tb_mem 1450 (by rfl) rfl
set_option maxRecDepth 200000 in
theorem q_1448 : Cond.instanceMethod yX4_hash ∈ tb := tb_mem 1448 (by decide +kernel) rfl
set_option maxRecDepth 200000 in
theorem q_1449 : Cond.selects "CityRoad$Marks" yX4_hash yX4_hash ∈ tb := tb_mem 1449 (by decide +kernel) rfl
set_option maxRecDepth 200000 in
theorem q_1447 : Cond.methodLink "CityRoad" 493 yX4_hash ∈ tb := tb_mem 1447 (by decide +kernel) rfl
set_option maxRecDepth 200000 in
theorem q_1458 : Cond.code yX8_hash cX8_hash 5 (some .long) ∈ tb := tb_mem 1458 (by rfl) rfl
set_option maxRecDepth 200000 in
theorem q_1456 : Cond.instanceMethod yX8_hash ∈ tb := tb_mem 1456 (by decide +kernel) rfl
set_option maxRecDepth 200000 in
theorem q_1457 : Cond.selects "CityRoad$Shelf" yX8_hash yX8_hash ∈ tb := tb_mem 1457 (by decide +kernel) rfl
set_option maxRecDepth 200000 in
theorem q_1455 : Cond.methodLink "CityRoad" 494 yX8_hash ∈ tb := tb_mem 1455 (by decide +kernel) rfl
theorem dX3_hash_0 : decode cX3_hash 0 = .ok (.iconst 0, 1) := by decide +kernel
theorem dX3_hash_1 : decode cX3_hash 1 = .ok (.istore_n 3, 1) := by decide +kernel
theorem dX3_hash_2 : decode cX3_hash 2 = .ok (.iload_n 3, 1) := by decide +kernel
theorem dX3_hash_3 : decode cX3_hash 3 = .ok (.bipush 64, 2) := by decide +kernel
theorem dX3_hash_5 : decode cX3_hash 5 = .ok (.if_icmp .ge 37, 3) := by decide +kernel
theorem dX3_hash_8 : decode cX3_hash 8 = .ok (.ldc2_w 51, 3) := by decide +kernel
theorem dX3_hash_11 : decode cX3_hash 11 = .ok (.lload_n 1, 1) := by decide +kernel
theorem dX3_hash_12 : decode cX3_hash 12 = .ok (.lmul, 1) := by decide +kernel
theorem dX3_hash_13 : decode cX3_hash 13 = .ok (.aload_n 0, 1) := by decide +kernel
theorem dX3_hash_14 : decode cX3_hash 14 = .ok (.getfield 11, 3) := by decide +kernel
theorem dX3_hash_17 : decode cX3_hash 17 = .ok (.iload_n 3, 1) := by decide +kernel
theorem dX3_hash_18 : decode cX3_hash 18 = .ok (.iaload, 1) := by decide +kernel
theorem dX3_hash_19 : decode cX3_hash 19 = .ok (.i2l, 1) := by decide +kernel
theorem dX3_hash_20 : decode cX3_hash 20 = .ok (.ladd, 1) := by decide +kernel
theorem dX3_hash_21 : decode cX3_hash 21 = .ok (.lstore_n 1, 1) := by decide +kernel
theorem dX3_hash_22 : decode cX3_hash 22 = .ok (.ldc2_w 51, 3) := by decide +kernel
theorem dX3_hash_25 : decode cX3_hash 25 = .ok (.lload_n 1, 1) := by decide +kernel
theorem dX3_hash_26 : decode cX3_hash 26 = .ok (.lmul, 1) := by decide +kernel
theorem dX3_hash_27 : decode cX3_hash 27 = .ok (.aload_n 0, 1) := by decide +kernel
theorem dX3_hash_28 : decode cX3_hash 28 = .ok (.getfield 15, 3) := by decide +kernel
theorem dX3_hash_31 : decode cX3_hash 31 = .ok (.iload_n 3, 1) := by decide +kernel
theorem dX3_hash_32 : decode cX3_hash 32 = .ok (.iaload, 1) := by decide +kernel
theorem dX3_hash_33 : decode cX3_hash 33 = .ok (.i2l, 1) := by decide +kernel
theorem dX3_hash_34 : decode cX3_hash 34 = .ok (.ladd, 1) := by decide +kernel
theorem dX3_hash_35 : decode cX3_hash 35 = .ok (.lstore_n 1, 1) := by decide +kernel
theorem dX3_hash_36 : decode cX3_hash 36 = .ok (.iinc 3 1, 3) := by decide +kernel
theorem dX3_hash_39 : decode cX3_hash 39 = .ok (.goto (-37), 3) := by decide +kernel
theorem dX3_hash_42 : decode cX3_hash 42 = .ok (.lload_n 1, 1) := by decide +kernel
theorem dX3_hash_43 : decode cX3_hash 43 = .ok (.lreturn, 1) := by decide +kernel
theorem dX1_hash_0 : decode cX1_hash 0 = .ok (.iconst 0, 1) := by decide +kernel
theorem dX1_hash_1 : decode cX1_hash 1 = .ok (.istore_n 3, 1) := by decide +kernel
theorem dX1_hash_2 : decode cX1_hash 2 = .ok (.iload_n 3, 1) := by decide +kernel
theorem dX1_hash_3 : decode cX1_hash 3 = .ok (.aload_n 0, 1) := by decide +kernel
theorem dX1_hash_4 : decode cX1_hash 4 = .ok (.getfield 58, 3) := by decide +kernel
theorem dX1_hash_7 : decode cX1_hash 7 = .ok (.if_icmp .ge 53, 3) := by decide +kernel
theorem dX1_hash_60 : decode cX1_hash 60 = .ok (.lload_n 1, 1) := by decide +kernel
theorem dX1_hash_61 : decode cX1_hash 61 = .ok (.lreturn, 1) := by decide +kernel
theorem dX5_hash_0 : decode cX5_hash 0 = .ok (.iconst 0, 1) := by decide +kernel
theorem dX5_hash_1 : decode cX5_hash 1 = .ok (.istore_n 3, 1) := by decide +kernel
theorem dX5_hash_2 : decode cX5_hash 2 = .ok (.iload_n 3, 1) := by decide +kernel
theorem dX5_hash_3 : decode cX5_hash 3 = .ok (.aload_n 0, 1) := by decide +kernel
theorem dX5_hash_4 : decode cX5_hash 4 = .ok (.getfield 25, 3) := by decide +kernel
theorem dX5_hash_7 : decode cX5_hash 7 = .ok (.if_icmp .ge 39, 3) := by decide +kernel
theorem dX5_hash_46 : decode cX5_hash 46 = .ok (.lload_n 1, 1) := by decide +kernel
theorem dX5_hash_47 : decode cX5_hash 47 = .ok (.lreturn, 1) := by decide +kernel
theorem dX7_hash_0 : decode cX7_hash 0 = .ok (.iconst 0, 1) := by decide +kernel
theorem dX7_hash_1 : decode cX7_hash 1 = .ok (.istore_n 3, 1) := by decide +kernel
theorem dX7_hash_2 : decode cX7_hash 2 = .ok (.iload_n 3, 1) := by decide +kernel
theorem dX7_hash_3 : decode cX7_hash 3 = .ok (.aload_n 0, 1) := by decide +kernel
theorem dX7_hash_4 : decode cX7_hash 4 = .ok (.getfield 21, 3) := by decide +kernel
theorem dX7_hash_7 : decode cX7_hash 7 = .ok (.if_icmp .ge 37, 3) := by decide +kernel
theorem dX7_hash_44 : decode cX7_hash 44 = .ok (.lload_n 1, 1) := by decide +kernel
theorem dX7_hash_45 : decode cX7_hash 45 = .ok (.lreturn, 1) := by decide +kernel
theorem dX4_hash_0 : decode cX4_hash 0 = .ok (.iconst 0, 1) := by decide +kernel
theorem dX4_hash_1 : decode cX4_hash 1 = .ok (.istore_n 3, 1) := by decide +kernel
theorem dX4_hash_2 : decode cX4_hash 2 = .ok (.iload_n 3, 1) := by decide +kernel
theorem dX4_hash_3 : decode cX4_hash 3 = .ok (.aload_n 0, 1) := by decide +kernel
theorem dX4_hash_4 : decode cX4_hash 4 = .ok (.getfield 54, 3) := by decide +kernel
theorem dX4_hash_7 : decode cX4_hash 7 = .ok (.if_icmp .ge 114, 3) := by decide +kernel
theorem dX4_hash_121 : decode cX4_hash 121 = .ok (.lload_n 1, 1) := by decide +kernel
theorem dX4_hash_122 : decode cX4_hash 122 = .ok (.lreturn, 1) := by decide +kernel
theorem dX8_hash_0 : decode cX8_hash 0 = .ok (.iconst 0, 1) := by decide +kernel
theorem dX8_hash_1 : decode cX8_hash 1 = .ok (.istore_n 3, 1) := by decide +kernel
theorem dX8_hash_2 : decode cX8_hash 2 = .ok (.iload_n 3, 1) := by decide +kernel
theorem dX8_hash_3 : decode cX8_hash 3 = .ok (.aload_n 0, 1) := by decide +kernel
theorem dX8_hash_4 : decode cX8_hash 4 = .ok (.getfield 22, 3) := by decide +kernel
theorem dX8_hash_7 : decode cX8_hash 7 = .ok (.if_icmp .ge 58, 3) := by decide +kernel
theorem dX8_hash_10 : decode cX8_hash 10 = .ok (.ldc2_w 51, 3) := by decide +kernel
theorem dX8_hash_13 : decode cX8_hash 13 = .ok (.lload_n 1, 1) := by decide +kernel
theorem dX8_hash_14 : decode cX8_hash 14 = .ok (.lmul, 1) := by decide +kernel
theorem dX8_hash_15 : decode cX8_hash 15 = .ok (.aload_n 0, 1) := by decide +kernel
theorem dX8_hash_16 : decode cX8_hash 16 = .ok (.getfield 9, 3) := by decide +kernel
theorem dX8_hash_19 : decode cX8_hash 19 = .ok (.iload_n 3, 1) := by decide +kernel
theorem dX8_hash_20 : decode cX8_hash 20 = .ok (.iaload, 1) := by decide +kernel
theorem dX8_hash_21 : decode cX8_hash 21 = .ok (.i2l, 1) := by decide +kernel
theorem dX8_hash_22 : decode cX8_hash 22 = .ok (.ladd, 1) := by decide +kernel
theorem dX8_hash_23 : decode cX8_hash 23 = .ok (.lstore_n 1, 1) := by decide +kernel
theorem dX8_hash_24 : decode cX8_hash 24 = .ok (.iconst 0, 1) := by decide +kernel
theorem dX8_hash_25 : decode cX8_hash 25 = .ok (.istore 4, 2) := by decide +kernel
theorem dX8_hash_27 : decode cX8_hash 27 = .ok (.iload 4, 2) := by decide +kernel
theorem dX8_hash_29 : decode cX8_hash 29 = .ok (.aload_n 0, 1) := by decide +kernel
theorem dX8_hash_30 : decode cX8_hash 30 = .ok (.getfield 9, 3) := by decide +kernel
theorem dX8_hash_33 : decode cX8_hash 33 = .ok (.iload_n 3, 1) := by decide +kernel
theorem dX8_hash_34 : decode cX8_hash 34 = .ok (.iaload, 1) := by decide +kernel
theorem dX8_hash_35 : decode cX8_hash 35 = .ok (.if_icmp .ge 24, 3) := by decide +kernel
theorem dX8_hash_59 : decode cX8_hash 59 = .ok (.iinc 3 1, 3) := by decide +kernel
theorem dX8_hash_62 : decode cX8_hash 62 = .ok (.goto (-60), 3) := by decide +kernel
theorem dX8_hash_65 : decode cX8_hash 65 = .ok (.lload_n 1, 1) := by decide +kernel
theorem dX8_hash_66 : decode cX8_hash 66 = .ok (.lreturn, 1) := by decide +kernel
theorem dX11_digest_0 : decode cX11_digest 0 = .ok (.ldc2_w 480, 3) := by decide +kernel
theorem dX11_digest_3 : decode cX11_digest 3 = .ok (.lstore_n 1, 1) := by decide +kernel
theorem dX11_digest_4 : decode cX11_digest 4 = .ok (.iconst 0, 1) := by decide +kernel
theorem dX11_digest_5 : decode cX11_digest 5 = .ok (.istore_n 3, 1) := by decide +kernel
theorem dX11_digest_6 : decode cX11_digest 6 = .ok (.iload_n 3, 1) := by decide +kernel
theorem dX11_digest_7 : decode cX11_digest 7 = .ok (.bipush 9, 2) := by decide +kernel
theorem dX11_digest_9 : decode cX11_digest 9 = .ok (.if_icmp .gt 22, 3) := by decide +kernel
theorem dX11_digest_12 : decode cX11_digest 12 = .ok (.ldc2_w 482, 3) := by decide +kernel
theorem dX11_digest_15 : decode cX11_digest 15 = .ok (.lload_n 1, 1) := by decide +kernel
theorem dX11_digest_16 : decode cX11_digest 16 = .ok (.lmul, 1) := by decide +kernel
theorem dX11_digest_17 : decode cX11_digest 17 = .ok (.aload_n 0, 1) := by decide +kernel
theorem dX11_digest_18 : decode cX11_digest 18 = .ok (.iload_n 3, 1) := by decide +kernel
theorem dX11_digest_19 : decode cX11_digest 19 = .ok (.invokevirtual 484, 3) := by decide +kernel
theorem dX11_digest_22 : decode cX11_digest 22 = .ok (.i2l, 1) := by decide +kernel
theorem dX11_digest_23 : decode cX11_digest 23 = .ok (.ladd, 1) := by decide +kernel
theorem dX11_digest_24 : decode cX11_digest 24 = .ok (.lstore_n 1, 1) := by decide +kernel
theorem dX11_digest_25 : decode cX11_digest 25 = .ok (.iinc 3 1, 3) := by decide +kernel
theorem dX11_digest_28 : decode cX11_digest 28 = .ok (.goto (-22), 3) := by decide +kernel
theorem dX11_digest_31 : decode cX11_digest 31 = .ok (.aload_n 0, 1) := by decide +kernel
theorem dX11_digest_32 : decode cX11_digest 32 = .ok (.getfield 26, 3) := by decide +kernel
theorem dX11_digest_35 : decode cX11_digest 35 = .ok (.lload_n 1, 1) := by decide +kernel
theorem dX11_digest_36 : decode cX11_digest 36 = .ok (.invokevirtual 487, 3) := by decide +kernel
theorem dX11_digest_39 : decode cX11_digest 39 = .ok (.lstore_n 1, 1) := by decide +kernel
theorem dX11_digest_40 : decode cX11_digest 40 = .ok (.aload_n 0, 1) := by decide +kernel
theorem dX11_digest_41 : decode cX11_digest 41 = .ok (.getfield 33, 3) := by decide +kernel
theorem dX11_digest_44 : decode cX11_digest 44 = .ok (.lload_n 1, 1) := by decide +kernel
theorem dX11_digest_45 : decode cX11_digest 45 = .ok (.invokevirtual 490, 3) := by decide +kernel
theorem dX11_digest_48 : decode cX11_digest 48 = .ok (.lstore_n 1, 1) := by decide +kernel
theorem dX11_digest_49 : decode cX11_digest 49 = .ok (.aload_n 0, 1) := by decide +kernel
theorem dX11_digest_50 : decode cX11_digest 50 = .ok (.getfield 40, 3) := by decide +kernel
theorem dX11_digest_53 : decode cX11_digest 53 = .ok (.lload_n 1, 1) := by decide +kernel
theorem dX11_digest_54 : decode cX11_digest 54 = .ok (.invokevirtual 491, 3) := by decide +kernel
theorem dX11_digest_57 : decode cX11_digest 57 = .ok (.lstore_n 1, 1) := by decide +kernel
theorem dX11_digest_58 : decode cX11_digest 58 = .ok (.aload_n 0, 1) := by decide +kernel
theorem dX11_digest_59 : decode cX11_digest 59 = .ok (.getfield 45, 3) := by decide +kernel
theorem dX11_digest_62 : decode cX11_digest 62 = .ok (.lload_n 1, 1) := by decide +kernel
theorem dX11_digest_63 : decode cX11_digest 63 = .ok (.invokevirtual 492, 3) := by decide +kernel
theorem dX11_digest_66 : decode cX11_digest 66 = .ok (.lstore_n 1, 1) := by decide +kernel
theorem dX11_digest_67 : decode cX11_digest 67 = .ok (.aload_n 0, 1) := by decide +kernel
theorem dX11_digest_68 : decode cX11_digest 68 = .ok (.getfield 52, 3) := by decide +kernel
theorem dX11_digest_71 : decode cX11_digest 71 = .ok (.lload_n 1, 1) := by decide +kernel
theorem dX11_digest_72 : decode cX11_digest 72 = .ok (.invokevirtual 493, 3) := by decide +kernel
theorem dX11_digest_75 : decode cX11_digest 75 = .ok (.lstore_n 1, 1) := by decide +kernel
theorem dX11_digest_76 : decode cX11_digest 76 = .ok (.aload_n 0, 1) := by decide +kernel
theorem dX11_digest_77 : decode cX11_digest 77 = .ok (.getfield 12, 3) := by decide +kernel
theorem dX11_digest_80 : decode cX11_digest 80 = .ok (.lload_n 1, 1) := by decide +kernel
theorem dX11_digest_81 : decode cX11_digest 81 = .ok (.invokevirtual 494, 3) := by decide +kernel
theorem dX11_digest_84 : decode cX11_digest 84 = .ok (.lstore_n 1, 1) := by decide +kernel
theorem dX11_digest_85 : decode cX11_digest 85 = .ok (.aload_n 0, 1) := by decide +kernel
theorem dX11_digest_86 : decode cX11_digest 86 = .ok (.getfield 20, 3) := by decide +kernel
theorem dX11_digest_89 : decode cX11_digest 89 = .ok (.lload_n 1, 1) := by decide +kernel
theorem dX11_digest_90 : decode cX11_digest 90 = .ok (.invokevirtual 494, 3) := by decide +kernel
theorem dX11_digest_93 : decode cX11_digest 93 = .ok (.lreturn, 1) := by decide +kernel
theorem ok_X11_count : okM yX11_count cX11_count 2 (some .int) 1 := ⟨q_1396, q_89, by decide +kernel, by decide +kernel, by decide +kernel⟩
theorem okv_X11_count : okV yX11_count := ⟨q_1394, q_1395⟩
theorem ok_X3_hash : okM yX3_hash cX3_hash 4 (some .long) 1 := ⟨q_1428, q_93, by decide +kernel, by decide +kernel, by decide +kernel⟩
theorem okv_X3_hash : okV yX3_hash := ⟨q_1426, q_1427⟩
theorem ok_X1_hash : okM yX1_hash cX1_hash 5 (some .long) 1 := ⟨q_1433, q_94, by decide +kernel, by decide +kernel, by decide +kernel⟩
theorem okv_X1_hash : okV yX1_hash := ⟨q_1431, q_1432⟩
theorem ok_X5_hash : okM yX5_hash cX5_hash 5 (some .long) 1 := ⟨q_1439, q_95, by decide +kernel, by decide +kernel, by decide +kernel⟩
theorem okv_X5_hash : okV yX5_hash := ⟨q_1437, q_1438⟩
theorem ok_X7_hash : okM yX7_hash cX7_hash 4 (some .long) 1 := ⟨q_1445, q_96, by decide +kernel, by decide +kernel, by decide +kernel⟩
theorem okv_X7_hash : okV yX7_hash := ⟨q_1443, q_1444⟩
theorem ok_X4_hash : okM yX4_hash cX4_hash 5 (some .long) 1 := ⟨q_1450, q_97, by decide +kernel, by decide +kernel, by decide +kernel⟩
theorem okv_X4_hash : okV yX4_hash := ⟨q_1448, q_1449⟩
theorem ok_X8_hash : okM yX8_hash cX8_hash 5 (some .long) 1 := ⟨q_1458, q_90, by decide +kernel, by decide +kernel, by decide +kernel⟩
theorem okv_X8_hash : okV yX8_hash := ⟨q_1456, q_1457⟩
def sp_X11_count0 (g : GG) (x0 : Nat) (xr : Nat) (xt : Nat) (xg : Nat) (xb : Nat) (xp : Nat) (xu : Nat) (xm : Nat) (xd : Nat) (xw : Nat) (xh : Nat) (xa : Nat) (xs : Nat) (xf : Nat) : Int32 × va_W := (0, [(x0, .inr (11, [.ref xr, .ref xt, .ref xg, .ref xb, .ref xp, .ref xu, .ref xm, .ref xd, .ref xw, .ref xh, .ref xa, .ref xs, .ref xf, .int 0, .int 0, .long 0, .long 0, .int 0]))])
set_option maxHeartbeats 4000000 in
set_option maxRecDepth 100000 in
theorem c_X11_count0 (l : Launch) (g : GG) (x0 : Nat) (xr : Nat) (xt : Nat) (xg : Nat) (xb : Nat) (xp : Nat) (xu : Nat) (xm : Nat) (xd : Nat) (xw : Nat) (xh : Nat) (xa : Nat) (xs : Nat) (xf : Nat) : MI l g yX11_count cX11_count 2 (some .int) 0 0 0 0 [(x0, .inr (11, [.ref xr, .ref xt, .ref xg, .ref xb, .ref xp, .ref xu, .ref xm, .ref xd, .ref xw, .ref xh, .ref xa, .ref xs, .ref xf, .int 0, .int 0, .long 0, .long 0, .int 0]))] [.ref x0, .int 0] (fun rr_ ww_ => (rr_, ww_) = sp_X11_count0 g x0 xr xt xg xb xp xu xm xd xw xh xa xs xf) := by
  refine met_of (fun A => va_Qi _ (bW g A) A) (by decide) (Nat.le_of_ble_eq_true rfl) ?_
  intro p e s m below meth c A ls X hK hP hD hA hZ hS hl
  have hx := X.1
  have hb := X.2.1
  have hml := X.2.2.1
  have hown := X.2.2.2.1
  have hts := X.2.2.2.2.1
  have hnm := X.2.2.2.2.2.2.2
  have hl : lv_has ls 2 [(0, .ref x0), (1, .int 0)] := hl
  refine lv_iload_n hx hb dX11_count_0 rfl (lv_at hl 1 rfl) ?_
  refine lv_tableIn (off := 55) (tgt := 56) hx hb dX11_count_1 (by decide) (by decide) (by decide) (by decide) ?_
  refine lv_aload_n hx hb dX11_count_56 rfl (lv_at hl 0 rfl) ?_
  refine va_get (D := g.1) (ci := 11) (v := .int 0) (C := RX11) (T := TX11) (N := 18) hx hb hts fw_X11 hown hK hP 0 rfl rfl 13 (by decide) (hts _ q_471) (fun _ h9 => h9) rfl dX11_count_57 ?_
  exact rI X hK hP hD hS dX11_count_60 (by rfl) (Nat.le_of_ble_eq_true rfl) (Nat.le_of_ble_eq_true rfl) (by show ((_, _) : Int32 × va_W) = _; unfold sp_X11_count0; try rfl)
def sp_X11_count1 (g : GG) (x0 : Nat) (xr : Nat) (xt : Nat) (xg : Nat) (xb : Nat) (xp : Nat) (xu : Nat) (xm : Nat) (xd : Nat) (xw : Nat) (xh : Nat) (xa : Nat) (xs : Nat) (xf : Nat) (xba0 : Nat) (xba1 : Nat) (xba2 : Nat) (xba3 : Nat) (xba4 : Nat) (xba5 : Nat) (xba6 : Nat) (xba7 : Nat) (xba8 : Nat) (xba9 : Nat) (xba10 : Nat) (xba11 : Nat) : Int32 × va_W := (0, [(x0, .inr (11, [.ref xr, .ref xt, .ref xg, .ref xb, .ref xp, .ref xu, .ref xm, .ref xd, .ref xw, .ref xh, .ref xa, .ref xs, .ref xf, .int 0, .int 0, .long 0, .long 0, .int 0])), (xb, .inr (1, [.ref xba0, .ref xba1, .ref xba2, .ref xba3, .ref xba4, .ref xba5, .ref xba6, .ref xba7, .ref xba8, .ref xba9, .ref xba10, .ref xba11, .int 0, .int 0]))])
set_option maxHeartbeats 4000000 in
set_option maxRecDepth 100000 in
theorem c_X11_count1 (l : Launch) (g : GG) (x0 : Nat) (xr : Nat) (xt : Nat) (xg : Nat) (xb : Nat) (xp : Nat) (xu : Nat) (xm : Nat) (xd : Nat) (xw : Nat) (xh : Nat) (xa : Nat) (xs : Nat) (xf : Nat) (xba0 : Nat) (xba1 : Nat) (xba2 : Nat) (xba3 : Nat) (xba4 : Nat) (xba5 : Nat) (xba6 : Nat) (xba7 : Nat) (xba8 : Nat) (xba9 : Nat) (xba10 : Nat) (xba11 : Nat) : MI l g yX11_count cX11_count 2 (some .int) 2 45 0 0 [(x0, .inr (11, [.ref xr, .ref xt, .ref xg, .ref xb, .ref xp, .ref xu, .ref xm, .ref xd, .ref xw, .ref xh, .ref xa, .ref xs, .ref xf, .int 0, .int 0, .long 0, .long 0, .int 0])), (xb, .inr (1, [.ref xba0, .ref xba1, .ref xba2, .ref xba3, .ref xba4, .ref xba5, .ref xba6, .ref xba7, .ref xba8, .ref xba9, .ref xba10, .ref xba11, .int 0, .int 0]))] [.ref x0, .int 1] (fun rr_ ww_ => (rr_, ww_) = sp_X11_count1 g x0 xr xt xg xb xp xu xm xd xw xh xa xs xf xba0 xba1 xba2 xba3 xba4 xba5 xba6 xba7 xba8 xba9 xba10 xba11) := by
  refine met_of (fun A => va_Qi _ (bW g A) A) (by decide) (Nat.le_of_ble_eq_true rfl) ?_
  intro p e s m below meth c A ls X hK hP hD hA hZ hS hl
  have hx := X.1
  have hb := X.2.1
  have hml := X.2.2.1
  have hown := X.2.2.2.1
  have hts := X.2.2.2.2.1
  have hnm := X.2.2.2.2.2.2.2
  have hl : lv_has ls 2 [(0, .ref x0), (1, .int 1)] := hl
  refine lv_iload_n hx hb dX11_count_0 rfl (lv_at hl 1 rfl) ?_
  refine lv_tableIn (off := 60) (tgt := 61) hx hb dX11_count_1 (by decide) (by decide) (by decide) (by decide) ?_
  refine lv_aload_n hx hb dX11_count_61 rfl (lv_at hl 0 rfl) ?_
  refine va_get (D := g.1) (ci := 11) (v := .ref xb) (C := RX11) (T := TX11) (N := 18) hx hb hts fw_X11 hown hK hP 0 rfl rfl 3 (by decide) (hts _ q_461) (fun _ h9 => h9) rfl dX11_count_62 ?_
  refine lv_ldc2 (v := (-1)) hx hb hown (hts _ q_1185) dX11_count_65 ?_
  refine kVi (As := [.long (-1)]) (rest := []) (wr := [(x0, .inr (11, [.ref xr, .ref xt, .ref xg, .ref xb, .ref xp, .ref xu, .ref xm, .ref xd, .ref xw, .ref xh, .ref xa, .ref xs, .ref xf, .int 0, .int 0, .long 0, .long 0, .int 0]))]) X (c_X1_standingIn l g xb (-1) xba0 xba1 xba2 xba3 xba4 xba5 xba6 xba7 xba8 xba9 xba10 xba11) ok_X1_standingIn okv_X1_standingIn q_926 rfl hK hP hD hS hA hZ hl.1 [1] [0] rfl rfl rfl rfl rfl 0 1 rfl rfl rfl (Nat.le_of_ble_eq_true rfl) ⟨Nat.le_of_ble_eq_true rfl, Nat.le_of_ble_eq_true rfl⟩ dX11_count_68 ⟨Nat.le_of_ble_eq_true rfl, Nat.le_of_ble_eq_true rfl⟩ (fun r_1 w1 H locs hw_2 hP hD hS => ?_)
  rw [sp_X1_standingIn] at hw_2
  obtain ⟨e1, e2⟩ := Prod.mk.inj hw_2
  subst e1; subst e2
  have hP : va_P g.1 classes [(x0, .inr (11, [.ref xr, .ref xt, .ref xg, .ref xb, .ref xp, .ref xu, .ref xm, .ref xd, .ref xw, .ref xh, .ref xa, .ref xs, .ref xf, .int 0, .int 0, .long 0, .long 0, .int 0])), (xb, .inr (1, [.ref xba0, .ref xba1, .ref xba2, .ref xba3, .ref xba4, .ref xba5, .ref xba6, .ref xba7, .ref xba8, .ref xba9, .ref xba10, .ref xba11, .int 0, .int 0]))] H := hP
  have hD : va_D A [(x0, .inr (11, [.ref xr, .ref xt, .ref xg, .ref xb, .ref xp, .ref xu, .ref xm, .ref xd, .ref xw, .ref xh, .ref xa, .ref xs, .ref xf, .int 0, .int 0, .long 0, .long 0, .int 0])), (xb, .inr (1, [.ref xba0, .ref xba1, .ref xba2, .ref xba3, .ref xba4, .ref xba5, .ref xba6, .ref xba7, .ref xba8, .ref xba9, .ref xba10, .ref xba11, .int 0, .int 0]))] := hD
  exact rI X hK hP hD hS dX11_count_71 (by rfl) (Nat.le_of_ble_eq_true rfl) (Nat.le_of_ble_eq_true rfl) (by show ((_, _) : Int32 × va_W) = _; unfold sp_X11_count1; try rfl)
def sp_X11_count2 (g : GG) (x0 : Nat) (xr : Nat) (xt : Nat) (xg : Nat) (xb : Nat) (xp : Nat) (xu : Nat) (xm : Nat) (xd : Nat) (xw : Nat) (xh : Nat) (xa : Nat) (xs : Nat) (xf : Nat) (xpa0 : Nat) (xpa1 : Nat) (xpa2 : Nat) (xpa3 : Nat) : Int32 × va_W := (0, [(x0, .inr (11, [.ref xr, .ref xt, .ref xg, .ref xb, .ref xp, .ref xu, .ref xm, .ref xd, .ref xw, .ref xh, .ref xa, .ref xs, .ref xf, .int 0, .int 0, .long 0, .long 0, .int 0])), (xp, .inr (5, [.ref xpa0, .ref xpa1, .ref xpa2, .ref xpa3, .int 0]))])
set_option maxHeartbeats 4000000 in
set_option maxRecDepth 100000 in
theorem c_X11_count2 (l : Launch) (g : GG) (x0 : Nat) (xr : Nat) (xt : Nat) (xg : Nat) (xb : Nat) (xp : Nat) (xu : Nat) (xm : Nat) (xd : Nat) (xw : Nat) (xh : Nat) (xa : Nat) (xs : Nat) (xf : Nat) (xpa0 : Nat) (xpa1 : Nat) (xpa2 : Nat) (xpa3 : Nat) : MI l g yX11_count cX11_count 2 (some .int) 1 20 0 0 [(x0, .inr (11, [.ref xr, .ref xt, .ref xg, .ref xb, .ref xp, .ref xu, .ref xm, .ref xd, .ref xw, .ref xh, .ref xa, .ref xs, .ref xf, .int 0, .int 0, .long 0, .long 0, .int 0])), (xp, .inr (5, [.ref xpa0, .ref xpa1, .ref xpa2, .ref xpa3, .int 0]))] [.ref x0, .int 2] (fun rr_ ww_ => (rr_, ww_) = sp_X11_count2 g x0 xr xt xg xb xp xu xm xd xw xh xa xs xf xpa0 xpa1 xpa2 xpa3) := by
  refine met_of (fun A => va_Qi _ (bW g A) A) (by decide) (Nat.le_of_ble_eq_true rfl) ?_
  intro p e s m below meth c A ls X hK hP hD hA hZ hS hl
  have hx := X.1
  have hb := X.2.1
  have hml := X.2.2.1
  have hown := X.2.2.2.1
  have hts := X.2.2.2.2.1
  have hnm := X.2.2.2.2.2.2.2
  have hl : lv_has ls 2 [(0, .ref x0), (1, .int 2)] := hl
  refine lv_iload_n hx hb dX11_count_0 rfl (lv_at hl 1 rfl) ?_
  refine lv_tableIn (off := 71) (tgt := 72) hx hb dX11_count_1 (by decide) (by decide) (by decide) (by decide) ?_
  refine lv_aload_n hx hb dX11_count_72 rfl (lv_at hl 0 rfl) ?_
  refine va_get (D := g.1) (ci := 11) (v := .ref xp) (C := RX11) (T := TX11) (N := 18) hx hb hts fw_X11 hown hK hP 0 rfl rfl 4 (by decide) (hts _ q_462) (fun _ h9 => h9) rfl dX11_count_73 ?_
  refine kVi (As := []) (rest := []) (wr := [(x0, .inr (11, [.ref xr, .ref xt, .ref xg, .ref xb, .ref xp, .ref xu, .ref xm, .ref xd, .ref xw, .ref xh, .ref xa, .ref xs, .ref xf, .int 0, .int 0, .long 0, .long 0, .int 0]))]) X (c_X5_number l g xp xpa0 xpa1 xpa2 xpa3) ok_X5_number okv_X5_number q_703 rfl hK hP hD hS hA hZ hl.1 [1] [0] rfl rfl rfl rfl rfl 0 5 rfl rfl rfl (Nat.le_of_ble_eq_true rfl) ⟨Nat.le_of_ble_eq_true rfl, Nat.le_of_ble_eq_true rfl⟩ dX11_count_76 ⟨Nat.le_of_ble_eq_true rfl, Nat.le_of_ble_eq_true rfl⟩ (fun r_1 w1 H locs hw_2 hP hD hS => ?_)
  rw [sp_X5_number] at hw_2
  obtain ⟨e1, e2⟩ := Prod.mk.inj hw_2
  subst e1; subst e2
  have hP : va_P g.1 classes [(x0, .inr (11, [.ref xr, .ref xt, .ref xg, .ref xb, .ref xp, .ref xu, .ref xm, .ref xd, .ref xw, .ref xh, .ref xa, .ref xs, .ref xf, .int 0, .int 0, .long 0, .long 0, .int 0])), (xp, .inr (5, [.ref xpa0, .ref xpa1, .ref xpa2, .ref xpa3, .int 0]))] H := hP
  have hD : va_D A [(x0, .inr (11, [.ref xr, .ref xt, .ref xg, .ref xb, .ref xp, .ref xu, .ref xm, .ref xd, .ref xw, .ref xh, .ref xa, .ref xs, .ref xf, .int 0, .int 0, .long 0, .long 0, .int 0])), (xp, .inr (5, [.ref xpa0, .ref xpa1, .ref xpa2, .ref xpa3, .int 0]))] := hD
  exact rI X hK hP hD hS dX11_count_79 (by rfl) (Nat.le_of_ble_eq_true rfl) (Nat.le_of_ble_eq_true rfl) (by show ((_, _) : Int32 × va_W) = _; unfold sp_X11_count2; try rfl)
def sp_X11_count3 (g : GG) (x0 : Nat) (xr : Nat) (xt : Nat) (xg : Nat) (xb : Nat) (xp : Nat) (xu : Nat) (xm : Nat) (xd : Nat) (xw : Nat) (xh : Nat) (xa : Nat) (xs : Nat) (xf : Nat) (xpa0 : Nat) (xpa1 : Nat) (xpa2 : Nat) (xpa3 : Nat) : Int32 × va_W := (0, [(x0, .inr (11, [.ref xr, .ref xt, .ref xg, .ref xb, .ref xp, .ref xu, .ref xm, .ref xd, .ref xw, .ref xh, .ref xa, .ref xs, .ref xf, .int 0, .int 0, .long 0, .long 0, .int 0])), (xp, .inr (5, [.ref xpa0, .ref xpa1, .ref xpa2, .ref xpa3, .int 0]))])
set_option maxHeartbeats 4000000 in
set_option maxRecDepth 100000 in
theorem c_X11_count3 (l : Launch) (g : GG) (x0 : Nat) (xr : Nat) (xt : Nat) (xg : Nat) (xb : Nat) (xp : Nat) (xu : Nat) (xm : Nat) (xd : Nat) (xw : Nat) (xh : Nat) (xa : Nat) (xs : Nat) (xf : Nat) (xpa0 : Nat) (xpa1 : Nat) (xpa2 : Nat) (xpa3 : Nat) : MI l g yX11_count cX11_count 2 (some .int) 1 22 0 0 [(x0, .inr (11, [.ref xr, .ref xt, .ref xg, .ref xb, .ref xp, .ref xu, .ref xm, .ref xd, .ref xw, .ref xh, .ref xa, .ref xs, .ref xf, .int 0, .int 0, .long 0, .long 0, .int 0])), (xp, .inr (5, [.ref xpa0, .ref xpa1, .ref xpa2, .ref xpa3, .int 0]))] [.ref x0, .int 3] (fun rr_ ww_ => (rr_, ww_) = sp_X11_count3 g x0 xr xt xg xb xp xu xm xd xw xh xa xs xf xpa0 xpa1 xpa2 xpa3) := by
  refine met_of (fun A => va_Qi _ (bW g A) A) (by decide) (Nat.le_of_ble_eq_true rfl) ?_
  intro p e s m below meth c A ls X hK hP hD hA hZ hS hl
  have hx := X.1
  have hb := X.2.1
  have hml := X.2.2.1
  have hown := X.2.2.2.1
  have hts := X.2.2.2.2.1
  have hnm := X.2.2.2.2.2.2.2
  have hl : lv_has ls 2 [(0, .ref x0), (1, .int 3)] := hl
  refine lv_iload_n hx hb dX11_count_0 rfl (lv_at hl 1 rfl) ?_
  refine lv_tableIn (off := 79) (tgt := 80) hx hb dX11_count_1 (by decide) (by decide) (by decide) (by decide) ?_
  refine lv_aload_n hx hb dX11_count_80 rfl (lv_at hl 0 rfl) ?_
  refine va_get (D := g.1) (ci := 11) (v := .ref xp) (C := RX11) (T := TX11) (N := 18) hx hb hts fw_X11 hown hK hP 0 rfl rfl 4 (by decide) (hts _ q_462) (fun _ h9 => h9) rfl dX11_count_81 ?_
  refine kVi (As := []) (rest := []) (wr := [(x0, .inr (11, [.ref xr, .ref xt, .ref xg, .ref xb, .ref xp, .ref xu, .ref xm, .ref xd, .ref xw, .ref xh, .ref xa, .ref xs, .ref xf, .int 0, .int 0, .long 0, .long 0, .int 0]))]) X (c_X5_homeless l g xp xpa0 xpa1 xpa2 xpa3) ok_X5_homeless okv_X5_homeless q_1397 rfl hK hP hD hS hA hZ hl.1 [1] [0] rfl rfl rfl rfl rfl 0 5 rfl rfl rfl (Nat.le_of_ble_eq_true rfl) ⟨Nat.le_of_ble_eq_true rfl, Nat.le_of_ble_eq_true rfl⟩ dX11_count_84 ⟨Nat.le_of_ble_eq_true rfl, Nat.le_of_ble_eq_true rfl⟩ (fun r_1 w1 H locs hw_2 hP hD hS => ?_)
  rw [sp_X5_homeless] at hw_2
  obtain ⟨e1, e2⟩ := Prod.mk.inj hw_2
  subst e1; subst e2
  have hP : va_P g.1 classes [(x0, .inr (11, [.ref xr, .ref xt, .ref xg, .ref xb, .ref xp, .ref xu, .ref xm, .ref xd, .ref xw, .ref xh, .ref xa, .ref xs, .ref xf, .int 0, .int 0, .long 0, .long 0, .int 0])), (xp, .inr (5, [.ref xpa0, .ref xpa1, .ref xpa2, .ref xpa3, .int 0]))] H := hP
  have hD : va_D A [(x0, .inr (11, [.ref xr, .ref xt, .ref xg, .ref xb, .ref xp, .ref xu, .ref xm, .ref xd, .ref xw, .ref xh, .ref xa, .ref xs, .ref xf, .int 0, .int 0, .long 0, .long 0, .int 0])), (xp, .inr (5, [.ref xpa0, .ref xpa1, .ref xpa2, .ref xpa3, .int 0]))] := hD
  exact rI X hK hP hD hS dX11_count_87 (by rfl) (Nat.le_of_ble_eq_true rfl) (Nat.le_of_ble_eq_true rfl) (by show ((_, _) : Int32 × va_W) = _; unfold sp_X11_count3; try rfl)
def sp_X11_count4 (g : GG) (x0 : Nat) (xr : Nat) (xt : Nat) (xg : Nat) (xb : Nat) (xp : Nat) (xu : Nat) (xm : Nat) (xd : Nat) (xw : Nat) (xh : Nat) (xa : Nat) (xs : Nat) (xf : Nat) (xua0 : Nat) (xua1 : Nat) (xua2 : Nat) : Int32 × va_W := (0, [(x0, .inr (11, [.ref xr, .ref xt, .ref xg, .ref xb, .ref xp, .ref xu, .ref xm, .ref xd, .ref xw, .ref xh, .ref xa, .ref xs, .ref xf, .int 0, .int 0, .long 0, .long 0, .int 0])), (xu, .inr (7, [.ref xua0, .ref xua1, .ref xua2, .int 0]))])
set_option maxHeartbeats 4000000 in
set_option maxRecDepth 100000 in
theorem c_X11_count4 (l : Launch) (g : GG) (x0 : Nat) (xr : Nat) (xt : Nat) (xg : Nat) (xb : Nat) (xp : Nat) (xu : Nat) (xm : Nat) (xd : Nat) (xw : Nat) (xh : Nat) (xa : Nat) (xs : Nat) (xf : Nat) (xua0 : Nat) (xua1 : Nat) (xua2 : Nat) : MI l g yX11_count cX11_count 2 (some .int) 1 20 0 0 [(x0, .inr (11, [.ref xr, .ref xt, .ref xg, .ref xb, .ref xp, .ref xu, .ref xm, .ref xd, .ref xw, .ref xh, .ref xa, .ref xs, .ref xf, .int 0, .int 0, .long 0, .long 0, .int 0])), (xu, .inr (7, [.ref xua0, .ref xua1, .ref xua2, .int 0]))] [.ref x0, .int 4] (fun rr_ ww_ => (rr_, ww_) = sp_X11_count4 g x0 xr xt xg xb xp xu xm xd xw xh xa xs xf xua0 xua1 xua2) := by
  refine met_of (fun A => va_Qi _ (bW g A) A) (by decide) (Nat.le_of_ble_eq_true rfl) ?_
  intro p e s m below meth c A ls X hK hP hD hA hZ hS hl
  have hx := X.1
  have hb := X.2.1
  have hml := X.2.2.1
  have hown := X.2.2.2.1
  have hts := X.2.2.2.2.1
  have hnm := X.2.2.2.2.2.2.2
  have hl : lv_has ls 2 [(0, .ref x0), (1, .int 4)] := hl
  refine lv_iload_n hx hb dX11_count_0 rfl (lv_at hl 1 rfl) ?_
  refine lv_tableIn (off := 87) (tgt := 88) hx hb dX11_count_1 (by decide) (by decide) (by decide) (by decide) ?_
  refine lv_aload_n hx hb dX11_count_88 rfl (lv_at hl 0 rfl) ?_
  refine va_get (D := g.1) (ci := 11) (v := .ref xu) (C := RX11) (T := TX11) (N := 18) hx hb hts fw_X11 hown hK hP 0 rfl rfl 5 (by decide) (hts _ q_463) (fun _ h9 => h9) rfl dX11_count_89 ?_
  refine kVi (As := []) (rest := []) (wr := [(x0, .inr (11, [.ref xr, .ref xt, .ref xg, .ref xb, .ref xp, .ref xu, .ref xm, .ref xd, .ref xw, .ref xh, .ref xa, .ref xs, .ref xf, .int 0, .int 0, .long 0, .long 0, .int 0]))]) X (c_X7_number l g xu xua0 xua1 xua2) ok_X7_number okv_X7_number q_752 rfl hK hP hD hS hA hZ hl.1 [1] [0] rfl rfl rfl rfl rfl 0 7 rfl rfl rfl (Nat.le_of_ble_eq_true rfl) ⟨Nat.le_of_ble_eq_true rfl, Nat.le_of_ble_eq_true rfl⟩ dX11_count_92 ⟨Nat.le_of_ble_eq_true rfl, Nat.le_of_ble_eq_true rfl⟩ (fun r_1 w1 H locs hw_2 hP hD hS => ?_)
  rw [sp_X7_number] at hw_2
  obtain ⟨e1, e2⟩ := Prod.mk.inj hw_2
  subst e1; subst e2
  have hP : va_P g.1 classes [(x0, .inr (11, [.ref xr, .ref xt, .ref xg, .ref xb, .ref xp, .ref xu, .ref xm, .ref xd, .ref xw, .ref xh, .ref xa, .ref xs, .ref xf, .int 0, .int 0, .long 0, .long 0, .int 0])), (xu, .inr (7, [.ref xua0, .ref xua1, .ref xua2, .int 0]))] H := hP
  have hD : va_D A [(x0, .inr (11, [.ref xr, .ref xt, .ref xg, .ref xb, .ref xp, .ref xu, .ref xm, .ref xd, .ref xw, .ref xh, .ref xa, .ref xs, .ref xf, .int 0, .int 0, .long 0, .long 0, .int 0])), (xu, .inr (7, [.ref xua0, .ref xua1, .ref xua2, .int 0]))] := hD
  exact rI X hK hP hD hS dX11_count_95 (by rfl) (Nat.le_of_ble_eq_true rfl) (Nat.le_of_ble_eq_true rfl) (by show ((_, _) : Int32 × va_W) = _; unfold sp_X11_count4; try rfl)
def sp_X11_count5 (g : GG) (x0 : Nat) (xr : Nat) (xt : Nat) (xg : Nat) (xb : Nat) (xp : Nat) (xu : Nat) (xm : Nat) (xd : Nat) (xw : Nat) (xh : Nat) (xa : Nat) (xs : Nat) (xf : Nat) (xma0 : Nat) (xma1 : Nat) (xma2 : Nat) (xma3 : Nat) (xma4 : Nat) (xma5 : Nat) (xma6 : Nat) (xma7 : Nat) (xma8 : Nat) (xma9 : Nat) (xma10 : Nat) (xma11 : Nat) (xma12 : Nat) : Int32 × va_W := (0, [(x0, .inr (11, [.ref xr, .ref xt, .ref xg, .ref xb, .ref xp, .ref xu, .ref xm, .ref xd, .ref xw, .ref xh, .ref xa, .ref xs, .ref xf, .int 0, .int 0, .long 0, .long 0, .int 0])), (xm, .inr (4, [.ref xma0, .ref xma1, .ref xma2, .ref xma3, .ref xma4, .ref xma5, .ref xma6, .ref xma7, .ref xma8, .ref xma9, .ref xma10, .ref xma11, .ref xma12, .int 0]))])
set_option maxHeartbeats 4000000 in
set_option maxRecDepth 100000 in
theorem c_X11_count5 (l : Launch) (g : GG) (x0 : Nat) (xr : Nat) (xt : Nat) (xg : Nat) (xb : Nat) (xp : Nat) (xu : Nat) (xm : Nat) (xd : Nat) (xw : Nat) (xh : Nat) (xa : Nat) (xs : Nat) (xf : Nat) (xma0 : Nat) (xma1 : Nat) (xma2 : Nat) (xma3 : Nat) (xma4 : Nat) (xma5 : Nat) (xma6 : Nat) (xma7 : Nat) (xma8 : Nat) (xma9 : Nat) (xma10 : Nat) (xma11 : Nat) (xma12 : Nat) : MI l g yX11_count cX11_count 2 (some .int) 1 20 0 0 [(x0, .inr (11, [.ref xr, .ref xt, .ref xg, .ref xb, .ref xp, .ref xu, .ref xm, .ref xd, .ref xw, .ref xh, .ref xa, .ref xs, .ref xf, .int 0, .int 0, .long 0, .long 0, .int 0])), (xm, .inr (4, [.ref xma0, .ref xma1, .ref xma2, .ref xma3, .ref xma4, .ref xma5, .ref xma6, .ref xma7, .ref xma8, .ref xma9, .ref xma10, .ref xma11, .ref xma12, .int 0]))] [.ref x0, .int 5] (fun rr_ ww_ => (rr_, ww_) = sp_X11_count5 g x0 xr xt xg xb xp xu xm xd xw xh xa xs xf xma0 xma1 xma2 xma3 xma4 xma5 xma6 xma7 xma8 xma9 xma10 xma11 xma12) := by
  refine met_of (fun A => va_Qi _ (bW g A) A) (by decide) (Nat.le_of_ble_eq_true rfl) ?_
  intro p e s m below meth c A ls X hK hP hD hA hZ hS hl
  have hx := X.1
  have hb := X.2.1
  have hml := X.2.2.1
  have hown := X.2.2.2.1
  have hts := X.2.2.2.2.1
  have hnm := X.2.2.2.2.2.2.2
  have hl : lv_has ls 2 [(0, .ref x0), (1, .int 5)] := hl
  refine lv_iload_n hx hb dX11_count_0 rfl (lv_at hl 1 rfl) ?_
  refine lv_tableIn (off := 95) (tgt := 96) hx hb dX11_count_1 (by decide) (by decide) (by decide) (by decide) ?_
  refine lv_aload_n hx hb dX11_count_96 rfl (lv_at hl 0 rfl) ?_
  refine va_get (D := g.1) (ci := 11) (v := .ref xm) (C := RX11) (T := TX11) (N := 18) hx hb hts fw_X11 hown hK hP 0 rfl rfl 6 (by decide) (hts _ q_464) (fun _ h9 => h9) rfl dX11_count_97 ?_
  refine kVi (As := []) (rest := []) (wr := [(x0, .inr (11, [.ref xr, .ref xt, .ref xg, .ref xb, .ref xp, .ref xu, .ref xm, .ref xd, .ref xw, .ref xh, .ref xa, .ref xs, .ref xf, .int 0, .int 0, .long 0, .long 0, .int 0]))]) X (c_X4_number l g xm xma0 xma1 xma2 xma3 xma4 xma5 xma6 xma7 xma8 xma9 xma10 xma11 xma12) ok_X4_number okv_X4_number q_790 rfl hK hP hD hS hA hZ hl.1 [1] [0] rfl rfl rfl rfl rfl 0 4 rfl rfl rfl (Nat.le_of_ble_eq_true rfl) ⟨Nat.le_of_ble_eq_true rfl, Nat.le_of_ble_eq_true rfl⟩ dX11_count_100 ⟨Nat.le_of_ble_eq_true rfl, Nat.le_of_ble_eq_true rfl⟩ (fun r_1 w1 H locs hw_2 hP hD hS => ?_)
  rw [sp_X4_number] at hw_2
  obtain ⟨e1, e2⟩ := Prod.mk.inj hw_2
  subst e1; subst e2
  have hP : va_P g.1 classes [(x0, .inr (11, [.ref xr, .ref xt, .ref xg, .ref xb, .ref xp, .ref xu, .ref xm, .ref xd, .ref xw, .ref xh, .ref xa, .ref xs, .ref xf, .int 0, .int 0, .long 0, .long 0, .int 0])), (xm, .inr (4, [.ref xma0, .ref xma1, .ref xma2, .ref xma3, .ref xma4, .ref xma5, .ref xma6, .ref xma7, .ref xma8, .ref xma9, .ref xma10, .ref xma11, .ref xma12, .int 0]))] H := hP
  have hD : va_D A [(x0, .inr (11, [.ref xr, .ref xt, .ref xg, .ref xb, .ref xp, .ref xu, .ref xm, .ref xd, .ref xw, .ref xh, .ref xa, .ref xs, .ref xf, .int 0, .int 0, .long 0, .long 0, .int 0])), (xm, .inr (4, [.ref xma0, .ref xma1, .ref xma2, .ref xma3, .ref xma4, .ref xma5, .ref xma6, .ref xma7, .ref xma8, .ref xma9, .ref xma10, .ref xma11, .ref xma12, .int 0]))] := hD
  exact rI X hK hP hD hS dX11_count_103 (by rfl) (Nat.le_of_ble_eq_true rfl) (Nat.le_of_ble_eq_true rfl) (by show ((_, _) : Int32 × va_W) = _; unfold sp_X11_count5; try rfl)
def sp_X11_count6 (g : GG) (x0 : Nat) (xr : Nat) (xt : Nat) (xg : Nat) (xb : Nat) (xp : Nat) (xu : Nat) (xm : Nat) (xd : Nat) (xw : Nat) (xh : Nat) (xa : Nat) (xs : Nat) (xf : Nat) (xda0 : Nat) (xda1 : Nat) (xda2 : Nat) (xda3 : Nat) (xda4 : Nat) (xda5 : Nat) : Int32 × va_W := (0, [(x0, .inr (11, [.ref xr, .ref xt, .ref xg, .ref xb, .ref xp, .ref xu, .ref xm, .ref xd, .ref xw, .ref xh, .ref xa, .ref xs, .ref xf, .int 0, .int 0, .long 0, .long 0, .int 0])), (xd, .inr (2, [.ref xda0, .ref xda1, .ref xda2, .ref xda3, .ref xda4, .ref xda5, .int 0, .int 0]))])
set_option maxHeartbeats 4000000 in
set_option maxRecDepth 100000 in
theorem c_X11_count6 (l : Launch) (g : GG) (x0 : Nat) (xr : Nat) (xt : Nat) (xg : Nat) (xb : Nat) (xp : Nat) (xu : Nat) (xm : Nat) (xd : Nat) (xw : Nat) (xh : Nat) (xa : Nat) (xs : Nat) (xf : Nat) (xda0 : Nat) (xda1 : Nat) (xda2 : Nat) (xda3 : Nat) (xda4 : Nat) (xda5 : Nat) : MI l g yX11_count cX11_count 2 (some .int) 1 20 0 0 [(x0, .inr (11, [.ref xr, .ref xt, .ref xg, .ref xb, .ref xp, .ref xu, .ref xm, .ref xd, .ref xw, .ref xh, .ref xa, .ref xs, .ref xf, .int 0, .int 0, .long 0, .long 0, .int 0])), (xd, .inr (2, [.ref xda0, .ref xda1, .ref xda2, .ref xda3, .ref xda4, .ref xda5, .int 0, .int 0]))] [.ref x0, .int 6] (fun rr_ ww_ => (rr_, ww_) = sp_X11_count6 g x0 xr xt xg xb xp xu xm xd xw xh xa xs xf xda0 xda1 xda2 xda3 xda4 xda5) := by
  refine met_of (fun A => va_Qi _ (bW g A) A) (by decide) (Nat.le_of_ble_eq_true rfl) ?_
  intro p e s m below meth c A ls X hK hP hD hA hZ hS hl
  have hx := X.1
  have hb := X.2.1
  have hml := X.2.2.1
  have hown := X.2.2.2.1
  have hts := X.2.2.2.2.1
  have hnm := X.2.2.2.2.2.2.2
  have hl : lv_has ls 2 [(0, .ref x0), (1, .int 6)] := hl
  refine lv_iload_n hx hb dX11_count_0 rfl (lv_at hl 1 rfl) ?_
  refine lv_tableIn (off := 103) (tgt := 104) hx hb dX11_count_1 (by decide) (by decide) (by decide) (by decide) ?_
  refine lv_aload_n hx hb dX11_count_104 rfl (lv_at hl 0 rfl) ?_
  refine va_get (D := g.1) (ci := 11) (v := .ref xd) (C := RX11) (T := TX11) (N := 18) hx hb hts fw_X11 hown hK hP 0 rfl rfl 7 (by decide) (hts _ q_465) (fun _ h9 => h9) rfl dX11_count_105 ?_
  refine kVi (As := []) (rest := []) (wr := [(x0, .inr (11, [.ref xr, .ref xt, .ref xg, .ref xb, .ref xp, .ref xu, .ref xm, .ref xd, .ref xw, .ref xh, .ref xa, .ref xs, .ref xf, .int 0, .int 0, .long 0, .long 0, .int 0]))]) X (c_X2_buys l g xd xda0 xda1 xda2 xda3 xda4 xda5) ok_X2_buys okv_X2_buys q_1070 rfl hK hP hD hS hA hZ hl.1 [1] [0] rfl rfl rfl rfl rfl 0 2 rfl rfl rfl (Nat.le_of_ble_eq_true rfl) ⟨Nat.le_of_ble_eq_true rfl, Nat.le_of_ble_eq_true rfl⟩ dX11_count_108 ⟨Nat.le_of_ble_eq_true rfl, Nat.le_of_ble_eq_true rfl⟩ (fun r_1 w1 H locs hw_2 hP hD hS => ?_)
  rw [sp_X2_buys] at hw_2
  obtain ⟨e1, e2⟩ := Prod.mk.inj hw_2
  subst e1; subst e2
  have hP : va_P g.1 classes [(x0, .inr (11, [.ref xr, .ref xt, .ref xg, .ref xb, .ref xp, .ref xu, .ref xm, .ref xd, .ref xw, .ref xh, .ref xa, .ref xs, .ref xf, .int 0, .int 0, .long 0, .long 0, .int 0])), (xd, .inr (2, [.ref xda0, .ref xda1, .ref xda2, .ref xda3, .ref xda4, .ref xda5, .int 0, .int 0]))] H := hP
  have hD : va_D A [(x0, .inr (11, [.ref xr, .ref xt, .ref xg, .ref xb, .ref xp, .ref xu, .ref xm, .ref xd, .ref xw, .ref xh, .ref xa, .ref xs, .ref xf, .int 0, .int 0, .long 0, .long 0, .int 0])), (xd, .inr (2, [.ref xda0, .ref xda1, .ref xda2, .ref xda3, .ref xda4, .ref xda5, .int 0, .int 0]))] := hD
  exact rI X hK hP hD hS dX11_count_111 (by rfl) (Nat.le_of_ble_eq_true rfl) (Nat.le_of_ble_eq_true rfl) (by show ((_, _) : Int32 × va_W) = _; unfold sp_X11_count6; try rfl)
def sp_X11_count7 (g : GG) (x0 : Nat) (xr : Nat) (xt : Nat) (xg : Nat) (xb : Nat) (xp : Nat) (xu : Nat) (xm : Nat) (xd : Nat) (xw : Nat) (xh : Nat) (xa : Nat) (xs : Nat) (xf : Nat) (xba0 : Nat) (xba1 : Nat) (xba2 : Nat) (xba3 : Nat) (xba4 : Nat) (xba5 : Nat) (xba6 : Nat) (xba7 : Nat) (xba8 : Nat) (xba9 : Nat) (xba10 : Nat) (xba11 : Nat) : Int32 × va_W := (0, [(x0, .inr (11, [.ref xr, .ref xt, .ref xg, .ref xb, .ref xp, .ref xu, .ref xm, .ref xd, .ref xw, .ref xh, .ref xa, .ref xs, .ref xf, .int 0, .int 0, .long 0, .long 0, .int 0])), (xb, .inr (1, [.ref xba0, .ref xba1, .ref xba2, .ref xba3, .ref xba4, .ref xba5, .ref xba6, .ref xba7, .ref xba8, .ref xba9, .ref xba10, .ref xba11, .int 0, .int 0]))])
set_option maxHeartbeats 4000000 in
set_option maxRecDepth 100000 in
theorem c_X11_count7 (l : Launch) (g : GG) (x0 : Nat) (xr : Nat) (xt : Nat) (xg : Nat) (xb : Nat) (xp : Nat) (xu : Nat) (xm : Nat) (xd : Nat) (xw : Nat) (xh : Nat) (xa : Nat) (xs : Nat) (xf : Nat) (xba0 : Nat) (xba1 : Nat) (xba2 : Nat) (xba3 : Nat) (xba4 : Nat) (xba5 : Nat) (xba6 : Nat) (xba7 : Nat) (xba8 : Nat) (xba9 : Nat) (xba10 : Nat) (xba11 : Nat) : MI l g yX11_count cX11_count 2 (some .int) 1 20 0 0 [(x0, .inr (11, [.ref xr, .ref xt, .ref xg, .ref xb, .ref xp, .ref xu, .ref xm, .ref xd, .ref xw, .ref xh, .ref xa, .ref xs, .ref xf, .int 0, .int 0, .long 0, .long 0, .int 0])), (xb, .inr (1, [.ref xba0, .ref xba1, .ref xba2, .ref xba3, .ref xba4, .ref xba5, .ref xba6, .ref xba7, .ref xba8, .ref xba9, .ref xba10, .ref xba11, .int 0, .int 0]))] [.ref x0, .int 7] (fun rr_ ww_ => (rr_, ww_) = sp_X11_count7 g x0 xr xt xg xb xp xu xm xd xw xh xa xs xf xba0 xba1 xba2 xba3 xba4 xba5 xba6 xba7 xba8 xba9 xba10 xba11) := by
  refine met_of (fun A => va_Qi _ (bW g A) A) (by decide) (Nat.le_of_ble_eq_true rfl) ?_
  intro p e s m below meth c A ls X hK hP hD hA hZ hS hl
  have hx := X.1
  have hb := X.2.1
  have hml := X.2.2.1
  have hown := X.2.2.2.1
  have hts := X.2.2.2.2.1
  have hnm := X.2.2.2.2.2.2.2
  have hl : lv_has ls 2 [(0, .ref x0), (1, .int 7)] := hl
  refine lv_iload_n hx hb dX11_count_0 rfl (lv_at hl 1 rfl) ?_
  refine lv_tableIn (off := 111) (tgt := 112) hx hb dX11_count_1 (by decide) (by decide) (by decide) (by decide) ?_
  refine lv_aload_n hx hb dX11_count_112 rfl (lv_at hl 0 rfl) ?_
  refine va_get (D := g.1) (ci := 11) (v := .ref xb) (C := RX11) (T := TX11) (N := 18) hx hb hts fw_X11 hown hK hP 0 rfl rfl 3 (by decide) (hts _ q_461) (fun _ h9 => h9) rfl dX11_count_113 ?_
  refine kVi (As := []) (rest := []) (wr := [(x0, .inr (11, [.ref xr, .ref xt, .ref xg, .ref xb, .ref xp, .ref xu, .ref xm, .ref xd, .ref xw, .ref xh, .ref xa, .ref xs, .ref xf, .int 0, .int 0, .long 0, .long 0, .int 0]))]) X (c_X1_tellings l g xb xba0 xba1 xba2 xba3 xba4 xba5 xba6 xba7 xba8 xba9 xba10 xba11) ok_X1_tellings okv_X1_tellings q_1401 rfl hK hP hD hS hA hZ hl.1 [1] [0] rfl rfl rfl rfl rfl 0 1 rfl rfl rfl (Nat.le_of_ble_eq_true rfl) ⟨Nat.le_of_ble_eq_true rfl, Nat.le_of_ble_eq_true rfl⟩ dX11_count_116 ⟨Nat.le_of_ble_eq_true rfl, Nat.le_of_ble_eq_true rfl⟩ (fun r_1 w1 H locs hw_2 hP hD hS => ?_)
  rw [sp_X1_tellings] at hw_2
  obtain ⟨e1, e2⟩ := Prod.mk.inj hw_2
  subst e1; subst e2
  have hP : va_P g.1 classes [(x0, .inr (11, [.ref xr, .ref xt, .ref xg, .ref xb, .ref xp, .ref xu, .ref xm, .ref xd, .ref xw, .ref xh, .ref xa, .ref xs, .ref xf, .int 0, .int 0, .long 0, .long 0, .int 0])), (xb, .inr (1, [.ref xba0, .ref xba1, .ref xba2, .ref xba3, .ref xba4, .ref xba5, .ref xba6, .ref xba7, .ref xba8, .ref xba9, .ref xba10, .ref xba11, .int 0, .int 0]))] H := hP
  have hD : va_D A [(x0, .inr (11, [.ref xr, .ref xt, .ref xg, .ref xb, .ref xp, .ref xu, .ref xm, .ref xd, .ref xw, .ref xh, .ref xa, .ref xs, .ref xf, .int 0, .int 0, .long 0, .long 0, .int 0])), (xb, .inr (1, [.ref xba0, .ref xba1, .ref xba2, .ref xba3, .ref xba4, .ref xba5, .ref xba6, .ref xba7, .ref xba8, .ref xba9, .ref xba10, .ref xba11, .int 0, .int 0]))] := hD
  exact rI X hK hP hD hS dX11_count_119 (by rfl) (Nat.le_of_ble_eq_true rfl) (Nat.le_of_ble_eq_true rfl) (by show ((_, _) : Int32 × va_W) = _; unfold sp_X11_count7; try rfl)
def sp_X11_count8 (g : GG) (x0 : Nat) (xr : Nat) (xt : Nat) (xg : Nat) (xb : Nat) (xp : Nat) (xu : Nat) (xm : Nat) (xd : Nat) (xw : Nat) (xh : Nat) (xa : Nat) (xs : Nat) (xf : Nat) (xrs : Nat) (xrp : Nat) : Int32 × va_W := (0, [(x0, .inr (11, [.ref xr, .ref xt, .ref xg, .ref xb, .ref xp, .ref xu, .ref xm, .ref xd, .ref xw, .ref xh, .ref xa, .ref xs, .ref xf, .int 0, .int 0, .long 0, .long 0, .int 0])), (xr, .inr (8, [.int 6, .int 0, .ref xrs, .ref xrp])), (xrs, .inl (cI g, 6, .inl (fun _ => (-1))))])
set_option maxHeartbeats 4000000 in
set_option maxRecDepth 100000 in
theorem c_X11_count8 (l : Launch) (g : GG) (x0 : Nat) (xr : Nat) (xt : Nat) (xg : Nat) (xb : Nat) (xp : Nat) (xu : Nat) (xm : Nat) (xd : Nat) (xw : Nat) (xh : Nat) (xa : Nat) (xs : Nat) (xf : Nat) (xrs : Nat) (xrp : Nat) : MI l g yX11_count cX11_count 2 (some .int) 2 43 0 0 [(x0, .inr (11, [.ref xr, .ref xt, .ref xg, .ref xb, .ref xp, .ref xu, .ref xm, .ref xd, .ref xw, .ref xh, .ref xa, .ref xs, .ref xf, .int 0, .int 0, .long 0, .long 0, .int 0])), (xr, .inr (8, [.int 6, .int 0, .ref xrs, .ref xrp])), (xrs, .inl (cI g, 6, .inl (fun _ => (-1))))] [.ref x0, .int 8] (fun rr_ ww_ => (rr_, ww_) = sp_X11_count8 g x0 xr xt xg xb xp xu xm xd xw xh xa xs xf xrs xrp) := by
  refine met_of (fun A => va_Qi _ (bW g A) A) (by decide) (Nat.le_of_ble_eq_true rfl) ?_
  intro p e s m below meth c A ls X hK hP hD hA hZ hS hl
  have hx := X.1
  have hb := X.2.1
  have hml := X.2.2.1
  have hown := X.2.2.2.1
  have hts := X.2.2.2.2.1
  have hnm := X.2.2.2.2.2.2.2
  have hl : lv_has ls 2 [(0, .ref x0), (1, .int 8)] := hl
  refine lv_iload_n hx hb dX11_count_0 rfl (lv_at hl 1 rfl) ?_
  refine lv_tableIn (off := 119) (tgt := 120) hx hb dX11_count_1 (by decide) (by decide) (by decide) (by decide) ?_
  refine lv_aload_n hx hb dX11_count_120 rfl (lv_at hl 0 rfl) ?_
  refine va_get (D := g.1) (ci := 11) (v := .ref xr) (C := RX11) (T := TX11) (N := 18) hx hb hts fw_X11 hown hK hP 0 rfl rfl 0 (by decide) (hts _ q_458) (fun _ h9 => h9) rfl dX11_count_121 ?_
  refine kVi (As := []) (rest := []) (wr := [(x0, .inr (11, [.ref xr, .ref xt, .ref xg, .ref xb, .ref xp, .ref xu, .ref xm, .ref xd, .ref xw, .ref xh, .ref xa, .ref xs, .ref xf, .int 0, .int 0, .long 0, .long 0, .int 0]))]) X (c_X8_present6 l g xr xrs xrp) ok_X8_present okv_X8_present q_1405 rfl hK hP hD hS hA hZ hl.1 [1, 2] [0] rfl rfl rfl rfl rfl 0 8 rfl rfl rfl (Nat.le_of_ble_eq_true rfl) ⟨Nat.le_of_ble_eq_true rfl, Nat.le_of_ble_eq_true rfl⟩ dX11_count_124 ⟨Nat.le_of_ble_eq_true rfl, Nat.le_of_ble_eq_true rfl⟩ (fun r_1 w1 H locs hw_2 hP hD hS => ?_)
  rw [sp_X8_present6] at hw_2
  obtain ⟨e1, e2⟩ := Prod.mk.inj hw_2
  subst e1; subst e2
  have hP : va_P g.1 classes [(x0, .inr (11, [.ref xr, .ref xt, .ref xg, .ref xb, .ref xp, .ref xu, .ref xm, .ref xd, .ref xw, .ref xh, .ref xa, .ref xs, .ref xf, .int 0, .int 0, .long 0, .long 0, .int 0])), (xr, .inr (8, [.int 6, .int 0, .ref xrs, .ref xrp])), (xrs, .inl (cI g, 6, .inl (fun _ => (-1))))] H := hP
  have hD : va_D A [(x0, .inr (11, [.ref xr, .ref xt, .ref xg, .ref xb, .ref xp, .ref xu, .ref xm, .ref xd, .ref xw, .ref xh, .ref xa, .ref xs, .ref xf, .int 0, .int 0, .long 0, .long 0, .int 0])), (xr, .inr (8, [.int 6, .int 0, .ref xrs, .ref xrp])), (xrs, .inl (cI g, 6, .inl (fun _ => (-1))))] := hD
  exact rI X hK hP hD hS dX11_count_127 (by rfl) (Nat.le_of_ble_eq_true rfl) (Nat.le_of_ble_eq_true rfl) (by show ((_, _) : Int32 × va_W) = _; unfold sp_X11_count8; try rfl)
def sp_X11_count9 (g : GG) (x0 : Nat) (xr : Nat) (xt : Nat) (xg : Nat) (xb : Nat) (xp : Nat) (xu : Nat) (xm : Nat) (xd : Nat) (xw : Nat) (xh : Nat) (xa : Nat) (xs : Nat) (xf : Nat) (xts : Nat) (xtp : Nat) : Int32 × va_W := (0, [(x0, .inr (11, [.ref xr, .ref xt, .ref xg, .ref xb, .ref xp, .ref xu, .ref xm, .ref xd, .ref xw, .ref xh, .ref xa, .ref xs, .ref xf, .int 0, .int 0, .long 0, .long 0, .int 0])), (xt, .inr (8, [.int 4, .int 32, .ref xts, .ref xtp])), (xts, .inl (cI g, 6, .inl (fun _ => (-1))))])
set_option maxHeartbeats 4000000 in
set_option maxRecDepth 100000 in
theorem c_X11_count9 (l : Launch) (g : GG) (x0 : Nat) (xr : Nat) (xt : Nat) (xg : Nat) (xb : Nat) (xp : Nat) (xu : Nat) (xm : Nat) (xd : Nat) (xw : Nat) (xh : Nat) (xa : Nat) (xs : Nat) (xf : Nat) (xts : Nat) (xtp : Nat) : MI l g yX11_count cX11_count 2 (some .int) 2 43 0 0 [(x0, .inr (11, [.ref xr, .ref xt, .ref xg, .ref xb, .ref xp, .ref xu, .ref xm, .ref xd, .ref xw, .ref xh, .ref xa, .ref xs, .ref xf, .int 0, .int 0, .long 0, .long 0, .int 0])), (xt, .inr (8, [.int 4, .int 32, .ref xts, .ref xtp])), (xts, .inl (cI g, 6, .inl (fun _ => (-1))))] [.ref x0, .int 9] (fun rr_ ww_ => (rr_, ww_) = sp_X11_count9 g x0 xr xt xg xb xp xu xm xd xw xh xa xs xf xts xtp) := by
  refine met_of (fun A => va_Qi _ (bW g A) A) (by decide) (Nat.le_of_ble_eq_true rfl) ?_
  intro p e s m below meth c A ls X hK hP hD hA hZ hS hl
  have hx := X.1
  have hb := X.2.1
  have hml := X.2.2.1
  have hown := X.2.2.2.1
  have hts := X.2.2.2.2.1
  have hnm := X.2.2.2.2.2.2.2
  have hl : lv_has ls 2 [(0, .ref x0), (1, .int 9)] := hl
  refine lv_iload_n hx hb dX11_count_0 rfl (lv_at hl 1 rfl) ?_
  refine lv_tableIn (off := 127) (tgt := 128) hx hb dX11_count_1 (by decide) (by decide) (by decide) (by decide) ?_
  refine lv_aload_n hx hb dX11_count_128 rfl (lv_at hl 0 rfl) ?_
  refine va_get (D := g.1) (ci := 11) (v := .ref xt) (C := RX11) (T := TX11) (N := 18) hx hb hts fw_X11 hown hK hP 0 rfl rfl 1 (by decide) (hts _ q_459) (fun _ h9 => h9) rfl dX11_count_129 ?_
  refine kVi (As := []) (rest := []) (wr := [(x0, .inr (11, [.ref xr, .ref xt, .ref xg, .ref xb, .ref xp, .ref xu, .ref xm, .ref xd, .ref xw, .ref xh, .ref xa, .ref xs, .ref xf, .int 0, .int 0, .long 0, .long 0, .int 0]))]) X (c_X8_present4 l g xt xts xtp) ok_X8_present okv_X8_present q_1405 rfl hK hP hD hS hA hZ hl.1 [1, 2] [0] rfl rfl rfl rfl rfl 0 8 rfl rfl rfl (Nat.le_of_ble_eq_true rfl) ⟨Nat.le_of_ble_eq_true rfl, Nat.le_of_ble_eq_true rfl⟩ dX11_count_132 ⟨Nat.le_of_ble_eq_true rfl, Nat.le_of_ble_eq_true rfl⟩ (fun r_1 w1 H locs hw_2 hP hD hS => ?_)
  rw [sp_X8_present4] at hw_2
  obtain ⟨e1, e2⟩ := Prod.mk.inj hw_2
  subst e1; subst e2
  have hP : va_P g.1 classes [(x0, .inr (11, [.ref xr, .ref xt, .ref xg, .ref xb, .ref xp, .ref xu, .ref xm, .ref xd, .ref xw, .ref xh, .ref xa, .ref xs, .ref xf, .int 0, .int 0, .long 0, .long 0, .int 0])), (xt, .inr (8, [.int 4, .int 32, .ref xts, .ref xtp])), (xts, .inl (cI g, 6, .inl (fun _ => (-1))))] H := hP
  have hD : va_D A [(x0, .inr (11, [.ref xr, .ref xt, .ref xg, .ref xb, .ref xp, .ref xu, .ref xm, .ref xd, .ref xw, .ref xh, .ref xa, .ref xs, .ref xf, .int 0, .int 0, .long 0, .long 0, .int 0])), (xt, .inr (8, [.int 4, .int 32, .ref xts, .ref xtp])), (xts, .inl (cI g, 6, .inl (fun _ => (-1))))] := hD
  exact rI X hK hP hD hS dX11_count_135 (by rfl) (Nat.le_of_ble_eq_true rfl) (Nat.le_of_ble_eq_true rfl) (by show ((_, _) : Int32 × va_W) = _; unfold sp_X11_count9; try rfl)
def sp_X3_hash (g : GG) (h0 : Nat) (z0 : Int64) (h0s : Nat) (h0h : Nat) : Int64 × va_W := (gh z0 64, [(h0, .inr (3, [.ref h0s, .ref h0h])), (h0s, .inl (cI g, 64, .inl (fun _ => 0))), (h0h, .inl (cI g, 64, .inl (fun _ => 0)))])
set_option maxHeartbeats 4000000 in
set_option maxRecDepth 100000 in
theorem c_X3_hash (l : Launch) (g : GG) (h0 : Nat) (z0 : Int64) (h0s : Nat) (h0h : Nat) : ML l g yX3_hash cX3_hash 4 (some .long) 0 0 0 0 [(h0, .inr (3, [.ref h0s, .ref h0h])), (h0s, .inl (cI g, 64, .inl (fun _ => 0))), (h0h, .inl (cI g, 64, .inl (fun _ => 0)))] [.ref h0, .long z0] (fun rr_ ww_ => (rr_, ww_) = sp_X3_hash g h0 z0 h0s h0h) := by
  refine met_of (fun A => va_Ql _ (bW g A) A) (by decide) (Nat.le_of_ble_eq_true rfl) ?_
  intro p e s m below meth c A ls X hK hP hD hA hZ hS hl
  have hx := X.1
  have hb := X.2.1
  have hml := X.2.2.1
  have hown := X.2.2.2.1
  have hts := X.2.2.2.2.1
  have hnm := X.2.2.2.2.2.2.2
  have hl : lv_has ls 4 [(0, .ref h0), (1, .long z0)] := hl
  refine lv_iconst (v := 0) hx hb dX3_hash_0 (by decide) ?_
  refine lv_istore_n (lv' := [(3, .int 0), (0, .ref h0), (1, .long z0)]) hx hb dX3_hash_1 rfl hl (by decide) rfl (fun ls hl => ?_)
  refine loopK 64 (fun k H locs ls => va_P g.1 classes [(h0, .inr (3, [.ref h0s, .ref h0h])), (h0s, .inl (cI g, 64, .inl (fun _ => 0))), (h0h, .inl (cI g, 64, .inl (fun _ => 0)))] H ∧ va_D A [(h0, .inr (3, [.ref h0s, .ref h0h])), (h0s, .inl (cI g, 64, .inl (fun _ => 0))), (h0h, .inl (cI g, 64, .inl (fun _ => 0)))] ∧ va_S A s.heap H locs ∧ lv_has ls 4 [(0, .ref h0), (1, .long (gh z0 k)), (3, .int (nI k))]) (Wg := fun H locs ls => W p l e _ s m _ below meth c H locs _ _ _ (F0 m 2 ls [])) ?_ ?_ _ _ _ ⟨hP, hD, hS, lv_sub hl [1, 2, 0] rfl⟩
  · intro k hk_k ih H locs ls hI
    obtain ⟨hP, hD, hS, hl⟩ := hI
    have hn_k : (nI k).toInt = (k : Int) := nI_toInt (by omega)
    refine lv_iload_n hx hb dX3_hash_2 rfl (lv_at hl 2 rfl) ?_
    refine lv_bipush (v := 64) hx hb dX3_hash_3 (by decide) ?_
    refine lv_icmp_ge (tgt := 42) hx hb dX3_hash_5 (by decide) (fun c_1 => (by simp only [i32lt, i32le, i32eq, Int32.reduceToInt] at c_1; omega : False).elim) (fun _ => ?_)
    refine lv_ldc2 (v := 31) hx hb hown (hts _ q_1429) dX3_hash_8 ?_
    refine lv_lload_n hx hb dX3_hash_11 rfl (lv_at hl 1 rfl) ?_
    refine lv_lmul hx hb dX3_hash_12 ?_
    refine lv_aload_n hx hb dX3_hash_13 rfl (lv_at hl 0 rfl) ?_
    refine va_get (D := g.1) (ci := 3) (v := .ref h0s) (C := RX3) (T := TX3) (N := 2) hx hb hts fw_X3 hown hK hP 0 rfl rfl 0 (by decide) (hts _ q_146) (fun _ h9 => h9) rfl dX3_hash_14 ?_
    refine lv_iload_n hx hb dX3_hash_17 rfl (lv_at hl 2 rfl) ?_
    refine va_iald hx hb hK hP 1 0 rfl rfl (vp_in_nI (by omega) (by omega)) dX3_hash_18 ?_
    refine lv_topk (v := 0) rfl ?_
    refine lv_i2l (v := 0) hx hb dX3_hash_19 (by decide) ?_
    refine lv_ladd hx hb dX3_hash_20 ?_
    refine lv_lstore_n (lv' := [(1, .long ((31 * (gh z0 k)) + 0)), (0, .ref h0), (3, .int (nI k))]) hx hb dX3_hash_21 rfl hl (by decide) rfl (fun ls hl => ?_)
    refine lv_ldc2 (v := 31) hx hb hown (hts _ q_1429) dX3_hash_22 ?_
    refine lv_lload_n hx hb dX3_hash_25 rfl (lv_at hl 0 rfl) ?_
    refine lv_lmul hx hb dX3_hash_26 ?_
    refine lv_aload_n hx hb dX3_hash_27 rfl (lv_at hl 1 rfl) ?_
    refine va_get (D := g.1) (ci := 3) (v := .ref h0h) (C := RX3) (T := TX3) (N := 2) hx hb hts fw_X3 hown hK hP 0 rfl rfl 1 (by decide) (hts _ q_147) (fun _ h9 => h9) rfl dX3_hash_28 ?_
    refine lv_iload_n hx hb dX3_hash_31 rfl (lv_at hl 2 rfl) ?_
    refine va_iald hx hb hK hP 2 0 rfl rfl (vp_in_nI (by omega) (by omega)) dX3_hash_32 ?_
    refine lv_topk (v := 0) rfl ?_
    refine lv_i2l (v := 0) hx hb dX3_hash_33 (by decide) ?_
    refine lv_ladd hx hb dX3_hash_34 ?_
    refine lv_lstore_n (lv' := [(1, .long ((31 * ((31 * (gh z0 k)) + 0)) + 0)), (0, .ref h0), (3, .int (nI k))]) hx hb dX3_hash_35 rfl hl (by decide) rfl (fun ls hl => ?_)
    refine lv_iinc (v := nI (k + 1)) (lv' := [(3, .int (nI (k + 1))), (1, .long ((31 * ((31 * (gh z0 k)) + 0)) + 0)), (0, .ref h0)]) hx hb dX3_hash_36 hl (k := 2) rfl (nI_1 _) (by decide) rfl (fun ls hl => ?_)
    refine lv_goto (tgt := 2) hx hb dX3_hash_39 (by decide) ?_
    exact ih _ _ _ ⟨hP, hD, hS, lv_sub hl [2, 1, 0] rfl⟩
  · intro H locs ls hI
    obtain ⟨hP, hD, hS, hl⟩ := hI
    refine lv_iload_n hx hb dX3_hash_2 rfl (lv_at hl 2 rfl) ?_
    refine lv_bipush (v := 64) hx hb dX3_hash_3 (by decide) ?_
    refine lv_icmp_ge (tgt := 42) hx hb dX3_hash_5 (by decide) (fun _ => ?_) (fun c_2 => absurd (by decide) c_2)
    refine lv_lload_n hx hb dX3_hash_42 rfl (lv_at hl 1 rfl) ?_
    exact rL X hK hP hD hS dX3_hash_43 (Nat.le_of_ble_eq_true rfl) (Nat.le_of_ble_eq_true rfl) (by show ((_, _) : Int64 × va_W) = _; unfold sp_X3_hash; try rfl)
def sp_X1_hash (g : GG) (h0 : Nat) (z0 : Int64) (h0a0 : Nat) (h0a1 : Nat) (h0a2 : Nat) (h0a3 : Nat) (h0a4 : Nat) (h0a5 : Nat) (h0a6 : Nat) (h0a7 : Nat) (h0a8 : Nat) (h0a9 : Nat) (h0a10 : Nat) (h0a11 : Nat) : Int64 × va_W := (z0, [(h0, .inr (1, [.ref h0a0, .ref h0a1, .ref h0a2, .ref h0a3, .ref h0a4, .ref h0a5, .ref h0a6, .ref h0a7, .ref h0a8, .ref h0a9, .ref h0a10, .ref h0a11, .int 0, .int 0]))])
set_option maxHeartbeats 4000000 in
set_option maxRecDepth 100000 in
theorem c_X1_hash (l : Launch) (g : GG) (h0 : Nat) (z0 : Int64) (h0a0 : Nat) (h0a1 : Nat) (h0a2 : Nat) (h0a3 : Nat) (h0a4 : Nat) (h0a5 : Nat) (h0a6 : Nat) (h0a7 : Nat) (h0a8 : Nat) (h0a9 : Nat) (h0a10 : Nat) (h0a11 : Nat) : ML l g yX1_hash cX1_hash 5 (some .long) 0 0 0 0 [(h0, .inr (1, [.ref h0a0, .ref h0a1, .ref h0a2, .ref h0a3, .ref h0a4, .ref h0a5, .ref h0a6, .ref h0a7, .ref h0a8, .ref h0a9, .ref h0a10, .ref h0a11, .int 0, .int 0]))] [.ref h0, .long z0] (fun rr_ ww_ => (rr_, ww_) = sp_X1_hash g h0 z0 h0a0 h0a1 h0a2 h0a3 h0a4 h0a5 h0a6 h0a7 h0a8 h0a9 h0a10 h0a11) := by
  refine met_of (fun A => va_Ql _ (bW g A) A) (by decide) (Nat.le_of_ble_eq_true rfl) ?_
  intro p e s m below meth c A ls X hK hP hD hA hZ hS hl
  have hx := X.1
  have hb := X.2.1
  have hml := X.2.2.1
  have hown := X.2.2.2.1
  have hts := X.2.2.2.2.1
  have hnm := X.2.2.2.2.2.2.2
  have hl : lv_has ls 5 [(0, .ref h0), (1, .long z0)] := hl
  refine lv_iconst (v := 0) hx hb dX1_hash_0 (by decide) ?_
  refine lv_istore_n (lv' := [(3, .int 0), (0, .ref h0), (1, .long z0)]) hx hb dX1_hash_1 rfl hl (by decide) rfl (fun ls hl => ?_)
  refine lv_iload_n hx hb dX1_hash_2 rfl (lv_at hl 0 rfl) ?_
  refine lv_aload_n hx hb dX1_hash_3 rfl (lv_at hl 1 rfl) ?_
  refine va_get (D := g.1) (ci := 1) (v := .int 0) (C := RX1) (T := TX1) (N := 14) hx hb hts fw_X1 hown hK hP 0 rfl rfl 12 (by decide) (hts _ q_172) (fun _ h9 => h9) rfl dX1_hash_4 ?_
  refine lv_icmp_ge (tgt := 60) hx hb dX1_hash_7 (by decide) (fun _ => ?_) (fun c_1 => absurd (by decide) c_1)
  refine lv_lload_n hx hb dX1_hash_60 rfl (lv_at hl 2 rfl) ?_
  exact rL X hK hP hD hS dX1_hash_61 (Nat.le_of_ble_eq_true rfl) (Nat.le_of_ble_eq_true rfl) (by show ((_, _) : Int64 × va_W) = _; unfold sp_X1_hash; try rfl)
def sp_X5_hash (g : GG) (h0 : Nat) (z0 : Int64) (h0a0 : Nat) (h0a1 : Nat) (h0a2 : Nat) (h0a3 : Nat) : Int64 × va_W := (z0, [(h0, .inr (5, [.ref h0a0, .ref h0a1, .ref h0a2, .ref h0a3, .int 0]))])
set_option maxHeartbeats 4000000 in
set_option maxRecDepth 100000 in
theorem c_X5_hash (l : Launch) (g : GG) (h0 : Nat) (z0 : Int64) (h0a0 : Nat) (h0a1 : Nat) (h0a2 : Nat) (h0a3 : Nat) : ML l g yX5_hash cX5_hash 5 (some .long) 0 0 0 0 [(h0, .inr (5, [.ref h0a0, .ref h0a1, .ref h0a2, .ref h0a3, .int 0]))] [.ref h0, .long z0] (fun rr_ ww_ => (rr_, ww_) = sp_X5_hash g h0 z0 h0a0 h0a1 h0a2 h0a3) := by
  refine met_of (fun A => va_Ql _ (bW g A) A) (by decide) (Nat.le_of_ble_eq_true rfl) ?_
  intro p e s m below meth c A ls X hK hP hD hA hZ hS hl
  have hx := X.1
  have hb := X.2.1
  have hml := X.2.2.1
  have hown := X.2.2.2.1
  have hts := X.2.2.2.2.1
  have hnm := X.2.2.2.2.2.2.2
  have hl : lv_has ls 5 [(0, .ref h0), (1, .long z0)] := hl
  refine lv_iconst (v := 0) hx hb dX5_hash_0 (by decide) ?_
  refine lv_istore_n (lv' := [(3, .int 0), (0, .ref h0), (1, .long z0)]) hx hb dX5_hash_1 rfl hl (by decide) rfl (fun ls hl => ?_)
  refine lv_iload_n hx hb dX5_hash_2 rfl (lv_at hl 0 rfl) ?_
  refine lv_aload_n hx hb dX5_hash_3 rfl (lv_at hl 1 rfl) ?_
  refine va_get (D := g.1) (ci := 5) (v := .int 0) (C := RX5) (T := TX5) (N := 5) hx hb hts fw_X5 hown hK hP 0 rfl rfl 4 (by decide) (hts _ q_214) (fun _ h9 => h9) rfl dX5_hash_4 ?_
  refine lv_icmp_ge (tgt := 46) hx hb dX5_hash_7 (by decide) (fun _ => ?_) (fun c_1 => absurd (by decide) c_1)
  refine lv_lload_n hx hb dX5_hash_46 rfl (lv_at hl 2 rfl) ?_
  exact rL X hK hP hD hS dX5_hash_47 (Nat.le_of_ble_eq_true rfl) (Nat.le_of_ble_eq_true rfl) (by show ((_, _) : Int64 × va_W) = _; unfold sp_X5_hash; try rfl)
def sp_X7_hash (g : GG) (h0 : Nat) (z0 : Int64) (h0a0 : Nat) (h0a1 : Nat) (h0a2 : Nat) : Int64 × va_W := (z0, [(h0, .inr (7, [.ref h0a0, .ref h0a1, .ref h0a2, .int 0]))])
set_option maxHeartbeats 4000000 in
set_option maxRecDepth 100000 in
theorem c_X7_hash (l : Launch) (g : GG) (h0 : Nat) (z0 : Int64) (h0a0 : Nat) (h0a1 : Nat) (h0a2 : Nat) : ML l g yX7_hash cX7_hash 4 (some .long) 0 0 0 0 [(h0, .inr (7, [.ref h0a0, .ref h0a1, .ref h0a2, .int 0]))] [.ref h0, .long z0] (fun rr_ ww_ => (rr_, ww_) = sp_X7_hash g h0 z0 h0a0 h0a1 h0a2) := by
  refine met_of (fun A => va_Ql _ (bW g A) A) (by decide) (Nat.le_of_ble_eq_true rfl) ?_
  intro p e s m below meth c A ls X hK hP hD hA hZ hS hl
  have hx := X.1
  have hb := X.2.1
  have hml := X.2.2.1
  have hown := X.2.2.2.1
  have hts := X.2.2.2.2.1
  have hnm := X.2.2.2.2.2.2.2
  have hl : lv_has ls 4 [(0, .ref h0), (1, .long z0)] := hl
  refine lv_iconst (v := 0) hx hb dX7_hash_0 (by decide) ?_
  refine lv_istore_n (lv' := [(3, .int 0), (0, .ref h0), (1, .long z0)]) hx hb dX7_hash_1 rfl hl (by decide) rfl (fun ls hl => ?_)
  refine lv_iload_n hx hb dX7_hash_2 rfl (lv_at hl 0 rfl) ?_
  refine lv_aload_n hx hb dX7_hash_3 rfl (lv_at hl 1 rfl) ?_
  refine va_get (D := g.1) (ci := 7) (v := .int 0) (C := RX7) (T := TX7) (N := 4) hx hb hts fw_X7 hown hK hP 0 rfl rfl 3 (by decide) (hts _ q_235) (fun _ h9 => h9) rfl dX7_hash_4 ?_
  refine lv_icmp_ge (tgt := 44) hx hb dX7_hash_7 (by decide) (fun _ => ?_) (fun c_1 => absurd (by decide) c_1)
  refine lv_lload_n hx hb dX7_hash_44 rfl (lv_at hl 2 rfl) ?_
  exact rL X hK hP hD hS dX7_hash_45 (Nat.le_of_ble_eq_true rfl) (Nat.le_of_ble_eq_true rfl) (by show ((_, _) : Int64 × va_W) = _; unfold sp_X7_hash; try rfl)
def sp_X4_hash (g : GG) (h0 : Nat) (z0 : Int64) (h0a0 : Nat) (h0a1 : Nat) (h0a2 : Nat) (h0a3 : Nat) (h0a4 : Nat) (h0a5 : Nat) (h0a6 : Nat) (h0a7 : Nat) (h0a8 : Nat) (h0a9 : Nat) (h0a10 : Nat) (h0a11 : Nat) (h0a12 : Nat) : Int64 × va_W := (z0, [(h0, .inr (4, [.ref h0a0, .ref h0a1, .ref h0a2, .ref h0a3, .ref h0a4, .ref h0a5, .ref h0a6, .ref h0a7, .ref h0a8, .ref h0a9, .ref h0a10, .ref h0a11, .ref h0a12, .int 0]))])
set_option maxHeartbeats 4000000 in
set_option maxRecDepth 100000 in
theorem c_X4_hash (l : Launch) (g : GG) (h0 : Nat) (z0 : Int64) (h0a0 : Nat) (h0a1 : Nat) (h0a2 : Nat) (h0a3 : Nat) (h0a4 : Nat) (h0a5 : Nat) (h0a6 : Nat) (h0a7 : Nat) (h0a8 : Nat) (h0a9 : Nat) (h0a10 : Nat) (h0a11 : Nat) (h0a12 : Nat) : ML l g yX4_hash cX4_hash 5 (some .long) 0 0 0 0 [(h0, .inr (4, [.ref h0a0, .ref h0a1, .ref h0a2, .ref h0a3, .ref h0a4, .ref h0a5, .ref h0a6, .ref h0a7, .ref h0a8, .ref h0a9, .ref h0a10, .ref h0a11, .ref h0a12, .int 0]))] [.ref h0, .long z0] (fun rr_ ww_ => (rr_, ww_) = sp_X4_hash g h0 z0 h0a0 h0a1 h0a2 h0a3 h0a4 h0a5 h0a6 h0a7 h0a8 h0a9 h0a10 h0a11 h0a12) := by
  refine met_of (fun A => va_Ql _ (bW g A) A) (by decide) (Nat.le_of_ble_eq_true rfl) ?_
  intro p e s m below meth c A ls X hK hP hD hA hZ hS hl
  have hx := X.1
  have hb := X.2.1
  have hml := X.2.2.1
  have hown := X.2.2.2.1
  have hts := X.2.2.2.2.1
  have hnm := X.2.2.2.2.2.2.2
  have hl : lv_has ls 5 [(0, .ref h0), (1, .long z0)] := hl
  refine lv_iconst (v := 0) hx hb dX4_hash_0 (by decide) ?_
  refine lv_istore_n (lv' := [(3, .int 0), (0, .ref h0), (1, .long z0)]) hx hb dX4_hash_1 rfl hl (by decide) rfl (fun ls hl => ?_)
  refine lv_iload_n hx hb dX4_hash_2 rfl (lv_at hl 0 rfl) ?_
  refine lv_aload_n hx hb dX4_hash_3 rfl (lv_at hl 1 rfl) ?_
  refine va_get (D := g.1) (ci := 4) (v := .int 0) (C := RX4) (T := TX4) (N := 14) hx hb hts fw_X4 hown hK hP 0 rfl rfl 13 (by decide) (hts _ q_264) (fun _ h9 => h9) rfl dX4_hash_4 ?_
  refine lv_icmp_ge (tgt := 121) hx hb dX4_hash_7 (by decide) (fun _ => ?_) (fun c_1 => absurd (by decide) c_1)
  refine lv_lload_n hx hb dX4_hash_121 rfl (lv_at hl 2 rfl) ?_
  exact rL X hK hP hD hS dX4_hash_122 (Nat.le_of_ble_eq_true rfl) (Nat.le_of_ble_eq_true rfl) (by show ((_, _) : Int64 × va_W) = _; unfold sp_X4_hash; try rfl)
def sp_X8_hash6 (g : GG) (h0 : Nat) (z0 : Int64) (h0s : Nat) (h0p : Nat) : Int64 × va_W := ((31 * ((31 * ((31 * ((31 * ((31 * ((31 * z0) + (-1))) + (-1))) + (-1))) + (-1))) + (-1))) + (-1), [(h0, .inr (8, [.int 6, .int 0, .ref h0s, .ref h0p])), (h0s, .inl (cI g, 6, .inl (fun _ => (-1))))])
set_option maxHeartbeats 4000000 in
set_option maxRecDepth 100000 in
theorem c_X8_hash6 (l : Launch) (g : GG) (h0 : Nat) (z0 : Int64) (h0s : Nat) (h0p : Nat) : ML l g yX8_hash cX8_hash 5 (some .long) 0 0 0 0 [(h0, .inr (8, [.int 6, .int 0, .ref h0s, .ref h0p])), (h0s, .inl (cI g, 6, .inl (fun _ => (-1))))] [.ref h0, .long z0] (fun rr_ ww_ => (rr_, ww_) = sp_X8_hash6 g h0 z0 h0s h0p) := by
  refine met_of (fun A => va_Ql _ (bW g A) A) (by decide) (Nat.le_of_ble_eq_true rfl) ?_
  intro p e s m below meth c A ls X hK hP hD hA hZ hS hl
  have hx := X.1
  have hb := X.2.1
  have hml := X.2.2.1
  have hown := X.2.2.2.1
  have hts := X.2.2.2.2.1
  have hnm := X.2.2.2.2.2.2.2
  have hl : lv_has ls 5 [(0, .ref h0), (1, .long z0)] := hl
  refine lv_iconst (v := 0) hx hb dX8_hash_0 (by decide) ?_
  refine lv_istore_n (lv' := [(3, .int 0), (0, .ref h0), (1, .long z0)]) hx hb dX8_hash_1 rfl hl (by decide) rfl (fun ls hl => ?_)
  refine lv_iload_n hx hb dX8_hash_2 rfl (lv_at hl 0 rfl) ?_
  refine lv_aload_n hx hb dX8_hash_3 rfl (lv_at hl 1 rfl) ?_
  refine va_get (D := g.1) (ci := 8) (v := .int 6) (C := RX8) (T := TX8) (N := 4) hx hb hts fw_X8 hown hK hP 0 rfl rfl 0 (by decide) (hts _ q_126) (fun _ h9 => h9) rfl dX8_hash_4 ?_
  refine lv_icmp_ge (tgt := 65) hx hb dX8_hash_7 (by decide) (fun c_1 => absurd c_1 (by decide)) (fun _ => ?_)
  refine lv_ldc2 (v := 31) hx hb hown (hts _ q_1459) dX8_hash_10 ?_
  refine lv_lload_n hx hb dX8_hash_13 rfl (lv_at hl 2 rfl) ?_
  refine lv_lmul hx hb dX8_hash_14 ?_
  refine lv_aload_n hx hb dX8_hash_15 rfl (lv_at hl 1 rfl) ?_
  refine va_get (D := g.1) (ci := 8) (v := .ref h0s) (C := RX8) (T := TX8) (N := 4) hx hb hts fw_X8 hown hK hP 0 rfl rfl 2 (by decide) (hts _ q_128) (fun _ h9 => h9) rfl dX8_hash_16 ?_
  refine lv_iload_n hx hb dX8_hash_19 rfl (lv_at hl 0 rfl) ?_
  refine va_iald hx hb hK hP 1 0 rfl rfl (by unfold vp_in; decide) dX8_hash_20 ?_
  refine lv_topk (v := (-1)) rfl ?_
  refine lv_i2l (v := (-1)) hx hb dX8_hash_21 (by decide) ?_
  refine lv_ladd hx hb dX8_hash_22 ?_
  refine lv_lstore_n (lv' := [(1, .long ((31 * z0) + (-1))), (3, .int 0), (0, .ref h0)]) hx hb dX8_hash_23 rfl hl (by decide) rfl (fun ls hl => ?_)
  refine lv_iconst (v := 0) hx hb dX8_hash_24 (by decide) ?_
  refine lv_istore (lv' := [(4, .int 0), (1, .long ((31 * z0) + (-1))), (3, .int 0), (0, .ref h0)]) hx hb dX8_hash_25 hl (by decide) rfl (fun ls hl => ?_)
  refine lv_iload hx hb dX8_hash_27 (lv_at hl 0 rfl) ?_
  refine lv_aload_n hx hb dX8_hash_29 rfl (lv_at hl 3 rfl) ?_
  refine va_get (D := g.1) (ci := 8) (v := .ref h0s) (C := RX8) (T := TX8) (N := 4) hx hb hts fw_X8 hown hK hP 0 rfl rfl 2 (by decide) (hts _ q_128) (fun _ h9 => h9) rfl dX8_hash_30 ?_
  refine lv_iload_n hx hb dX8_hash_33 rfl (lv_at hl 2 rfl) ?_
  refine va_iald hx hb hK hP 1 0 rfl rfl (by unfold vp_in; decide) dX8_hash_34 ?_
  refine lv_topk (v := (-1)) rfl ?_
  refine lv_icmp_ge (tgt := 59) hx hb dX8_hash_35 (by decide) (fun _ => ?_) (fun c_2 => absurd (by decide) c_2)
  refine lv_iinc (v := 1) (lv' := [(3, .int 1), (4, .int 0), (1, .long ((31 * z0) + (-1))), (0, .ref h0)]) hx hb dX8_hash_59 hl (k := 2) rfl (by decide) (by decide) rfl (fun ls hl => ?_)
  refine lv_goto (tgt := 2) hx hb dX8_hash_62 (by decide) ?_
  refine lv_iload_n hx hb dX8_hash_2 rfl (lv_at hl 0 rfl) ?_
  refine lv_aload_n hx hb dX8_hash_3 rfl (lv_at hl 3 rfl) ?_
  refine va_get (D := g.1) (ci := 8) (v := .int 6) (C := RX8) (T := TX8) (N := 4) hx hb hts fw_X8 hown hK hP 0 rfl rfl 0 (by decide) (hts _ q_126) (fun _ h9 => h9) rfl dX8_hash_4 ?_
  refine lv_icmp_ge (tgt := 65) hx hb dX8_hash_7 (by decide) (fun c_3 => absurd c_3 (by decide)) (fun _ => ?_)
  refine lv_ldc2 (v := 31) hx hb hown (hts _ q_1459) dX8_hash_10 ?_
  refine lv_lload_n hx hb dX8_hash_13 rfl (lv_at hl 2 rfl) ?_
  refine lv_lmul hx hb dX8_hash_14 ?_
  refine lv_aload_n hx hb dX8_hash_15 rfl (lv_at hl 3 rfl) ?_
  refine va_get (D := g.1) (ci := 8) (v := .ref h0s) (C := RX8) (T := TX8) (N := 4) hx hb hts fw_X8 hown hK hP 0 rfl rfl 2 (by decide) (hts _ q_128) (fun _ h9 => h9) rfl dX8_hash_16 ?_
  refine lv_iload_n hx hb dX8_hash_19 rfl (lv_at hl 0 rfl) ?_
  refine va_iald hx hb hK hP 1 0 rfl rfl (by unfold vp_in; decide) dX8_hash_20 ?_
  refine lv_topk (v := (-1)) rfl ?_
  refine lv_i2l (v := (-1)) hx hb dX8_hash_21 (by decide) ?_
  refine lv_ladd hx hb dX8_hash_22 ?_
  refine lv_lstore_n (lv' := [(1, .long ((31 * ((31 * z0) + (-1))) + (-1))), (3, .int 1), (4, .int 0), (0, .ref h0)]) hx hb dX8_hash_23 rfl hl (by decide) rfl (fun ls hl => ?_)
  refine lv_iconst (v := 0) hx hb dX8_hash_24 (by decide) ?_
  refine lv_istore (lv' := [(4, .int 0), (1, .long ((31 * ((31 * z0) + (-1))) + (-1))), (3, .int 1), (0, .ref h0)]) hx hb dX8_hash_25 hl (by decide) rfl (fun ls hl => ?_)
  refine lv_iload hx hb dX8_hash_27 (lv_at hl 0 rfl) ?_
  refine lv_aload_n hx hb dX8_hash_29 rfl (lv_at hl 3 rfl) ?_
  refine va_get (D := g.1) (ci := 8) (v := .ref h0s) (C := RX8) (T := TX8) (N := 4) hx hb hts fw_X8 hown hK hP 0 rfl rfl 2 (by decide) (hts _ q_128) (fun _ h9 => h9) rfl dX8_hash_30 ?_
  refine lv_iload_n hx hb dX8_hash_33 rfl (lv_at hl 2 rfl) ?_
  refine va_iald hx hb hK hP 1 0 rfl rfl (by unfold vp_in; decide) dX8_hash_34 ?_
  refine lv_topk (v := (-1)) rfl ?_
  refine lv_icmp_ge (tgt := 59) hx hb dX8_hash_35 (by decide) (fun _ => ?_) (fun c_4 => absurd (by decide) c_4)
  refine lv_iinc (v := 2) (lv' := [(3, .int 2), (4, .int 0), (1, .long ((31 * ((31 * z0) + (-1))) + (-1))), (0, .ref h0)]) hx hb dX8_hash_59 hl (k := 2) rfl (by decide) (by decide) rfl (fun ls hl => ?_)
  refine lv_goto (tgt := 2) hx hb dX8_hash_62 (by decide) ?_
  refine lv_iload_n hx hb dX8_hash_2 rfl (lv_at hl 0 rfl) ?_
  refine lv_aload_n hx hb dX8_hash_3 rfl (lv_at hl 3 rfl) ?_
  refine va_get (D := g.1) (ci := 8) (v := .int 6) (C := RX8) (T := TX8) (N := 4) hx hb hts fw_X8 hown hK hP 0 rfl rfl 0 (by decide) (hts _ q_126) (fun _ h9 => h9) rfl dX8_hash_4 ?_
  refine lv_icmp_ge (tgt := 65) hx hb dX8_hash_7 (by decide) (fun c_5 => absurd c_5 (by decide)) (fun _ => ?_)
  refine lv_ldc2 (v := 31) hx hb hown (hts _ q_1459) dX8_hash_10 ?_
  refine lv_lload_n hx hb dX8_hash_13 rfl (lv_at hl 2 rfl) ?_
  refine lv_lmul hx hb dX8_hash_14 ?_
  refine lv_aload_n hx hb dX8_hash_15 rfl (lv_at hl 3 rfl) ?_
  refine va_get (D := g.1) (ci := 8) (v := .ref h0s) (C := RX8) (T := TX8) (N := 4) hx hb hts fw_X8 hown hK hP 0 rfl rfl 2 (by decide) (hts _ q_128) (fun _ h9 => h9) rfl dX8_hash_16 ?_
  refine lv_iload_n hx hb dX8_hash_19 rfl (lv_at hl 0 rfl) ?_
  refine va_iald hx hb hK hP 1 0 rfl rfl (by unfold vp_in; decide) dX8_hash_20 ?_
  refine lv_topk (v := (-1)) rfl ?_
  refine lv_i2l (v := (-1)) hx hb dX8_hash_21 (by decide) ?_
  refine lv_ladd hx hb dX8_hash_22 ?_
  refine lv_lstore_n (lv' := [(1, .long ((31 * ((31 * ((31 * z0) + (-1))) + (-1))) + (-1))), (3, .int 2), (4, .int 0), (0, .ref h0)]) hx hb dX8_hash_23 rfl hl (by decide) rfl (fun ls hl => ?_)
  refine lv_iconst (v := 0) hx hb dX8_hash_24 (by decide) ?_
  refine lv_istore (lv' := [(4, .int 0), (1, .long ((31 * ((31 * ((31 * z0) + (-1))) + (-1))) + (-1))), (3, .int 2), (0, .ref h0)]) hx hb dX8_hash_25 hl (by decide) rfl (fun ls hl => ?_)
  refine lv_iload hx hb dX8_hash_27 (lv_at hl 0 rfl) ?_
  refine lv_aload_n hx hb dX8_hash_29 rfl (lv_at hl 3 rfl) ?_
  refine va_get (D := g.1) (ci := 8) (v := .ref h0s) (C := RX8) (T := TX8) (N := 4) hx hb hts fw_X8 hown hK hP 0 rfl rfl 2 (by decide) (hts _ q_128) (fun _ h9 => h9) rfl dX8_hash_30 ?_
  refine lv_iload_n hx hb dX8_hash_33 rfl (lv_at hl 2 rfl) ?_
  refine va_iald hx hb hK hP 1 0 rfl rfl (by unfold vp_in; decide) dX8_hash_34 ?_
  refine lv_topk (v := (-1)) rfl ?_
  refine lv_icmp_ge (tgt := 59) hx hb dX8_hash_35 (by decide) (fun _ => ?_) (fun c_6 => absurd (by decide) c_6)
  refine lv_iinc (v := 3) (lv' := [(3, .int 3), (4, .int 0), (1, .long ((31 * ((31 * ((31 * z0) + (-1))) + (-1))) + (-1))), (0, .ref h0)]) hx hb dX8_hash_59 hl (k := 2) rfl (by decide) (by decide) rfl (fun ls hl => ?_)
  refine lv_goto (tgt := 2) hx hb dX8_hash_62 (by decide) ?_
  refine lv_iload_n hx hb dX8_hash_2 rfl (lv_at hl 0 rfl) ?_
  refine lv_aload_n hx hb dX8_hash_3 rfl (lv_at hl 3 rfl) ?_
  refine va_get (D := g.1) (ci := 8) (v := .int 6) (C := RX8) (T := TX8) (N := 4) hx hb hts fw_X8 hown hK hP 0 rfl rfl 0 (by decide) (hts _ q_126) (fun _ h9 => h9) rfl dX8_hash_4 ?_
  refine lv_icmp_ge (tgt := 65) hx hb dX8_hash_7 (by decide) (fun c_7 => absurd c_7 (by decide)) (fun _ => ?_)
  refine lv_ldc2 (v := 31) hx hb hown (hts _ q_1459) dX8_hash_10 ?_
  refine lv_lload_n hx hb dX8_hash_13 rfl (lv_at hl 2 rfl) ?_
  refine lv_lmul hx hb dX8_hash_14 ?_
  refine lv_aload_n hx hb dX8_hash_15 rfl (lv_at hl 3 rfl) ?_
  refine va_get (D := g.1) (ci := 8) (v := .ref h0s) (C := RX8) (T := TX8) (N := 4) hx hb hts fw_X8 hown hK hP 0 rfl rfl 2 (by decide) (hts _ q_128) (fun _ h9 => h9) rfl dX8_hash_16 ?_
  refine lv_iload_n hx hb dX8_hash_19 rfl (lv_at hl 0 rfl) ?_
  refine va_iald hx hb hK hP 1 0 rfl rfl (by unfold vp_in; decide) dX8_hash_20 ?_
  refine lv_topk (v := (-1)) rfl ?_
  refine lv_i2l (v := (-1)) hx hb dX8_hash_21 (by decide) ?_
  refine lv_ladd hx hb dX8_hash_22 ?_
  refine lv_lstore_n (lv' := [(1, .long ((31 * ((31 * ((31 * ((31 * z0) + (-1))) + (-1))) + (-1))) + (-1))), (3, .int 3), (4, .int 0), (0, .ref h0)]) hx hb dX8_hash_23 rfl hl (by decide) rfl (fun ls hl => ?_)
  refine lv_iconst (v := 0) hx hb dX8_hash_24 (by decide) ?_
  refine lv_istore (lv' := [(4, .int 0), (1, .long ((31 * ((31 * ((31 * ((31 * z0) + (-1))) + (-1))) + (-1))) + (-1))), (3, .int 3), (0, .ref h0)]) hx hb dX8_hash_25 hl (by decide) rfl (fun ls hl => ?_)
  refine lv_iload hx hb dX8_hash_27 (lv_at hl 0 rfl) ?_
  refine lv_aload_n hx hb dX8_hash_29 rfl (lv_at hl 3 rfl) ?_
  refine va_get (D := g.1) (ci := 8) (v := .ref h0s) (C := RX8) (T := TX8) (N := 4) hx hb hts fw_X8 hown hK hP 0 rfl rfl 2 (by decide) (hts _ q_128) (fun _ h9 => h9) rfl dX8_hash_30 ?_
  refine lv_iload_n hx hb dX8_hash_33 rfl (lv_at hl 2 rfl) ?_
  refine va_iald hx hb hK hP 1 0 rfl rfl (by unfold vp_in; decide) dX8_hash_34 ?_
  refine lv_topk (v := (-1)) rfl ?_
  refine lv_icmp_ge (tgt := 59) hx hb dX8_hash_35 (by decide) (fun _ => ?_) (fun c_8 => absurd (by decide) c_8)
  refine lv_iinc (v := 4) (lv' := [(3, .int 4), (4, .int 0), (1, .long ((31 * ((31 * ((31 * ((31 * z0) + (-1))) + (-1))) + (-1))) + (-1))), (0, .ref h0)]) hx hb dX8_hash_59 hl (k := 2) rfl (by decide) (by decide) rfl (fun ls hl => ?_)
  refine lv_goto (tgt := 2) hx hb dX8_hash_62 (by decide) ?_
  refine lv_iload_n hx hb dX8_hash_2 rfl (lv_at hl 0 rfl) ?_
  refine lv_aload_n hx hb dX8_hash_3 rfl (lv_at hl 3 rfl) ?_
  refine va_get (D := g.1) (ci := 8) (v := .int 6) (C := RX8) (T := TX8) (N := 4) hx hb hts fw_X8 hown hK hP 0 rfl rfl 0 (by decide) (hts _ q_126) (fun _ h9 => h9) rfl dX8_hash_4 ?_
  refine lv_icmp_ge (tgt := 65) hx hb dX8_hash_7 (by decide) (fun c_9 => absurd c_9 (by decide)) (fun _ => ?_)
  refine lv_ldc2 (v := 31) hx hb hown (hts _ q_1459) dX8_hash_10 ?_
  refine lv_lload_n hx hb dX8_hash_13 rfl (lv_at hl 2 rfl) ?_
  refine lv_lmul hx hb dX8_hash_14 ?_
  refine lv_aload_n hx hb dX8_hash_15 rfl (lv_at hl 3 rfl) ?_
  refine va_get (D := g.1) (ci := 8) (v := .ref h0s) (C := RX8) (T := TX8) (N := 4) hx hb hts fw_X8 hown hK hP 0 rfl rfl 2 (by decide) (hts _ q_128) (fun _ h9 => h9) rfl dX8_hash_16 ?_
  refine lv_iload_n hx hb dX8_hash_19 rfl (lv_at hl 0 rfl) ?_
  refine va_iald hx hb hK hP 1 0 rfl rfl (by unfold vp_in; decide) dX8_hash_20 ?_
  refine lv_topk (v := (-1)) rfl ?_
  refine lv_i2l (v := (-1)) hx hb dX8_hash_21 (by decide) ?_
  refine lv_ladd hx hb dX8_hash_22 ?_
  refine lv_lstore_n (lv' := [(1, .long ((31 * ((31 * ((31 * ((31 * ((31 * z0) + (-1))) + (-1))) + (-1))) + (-1))) + (-1))), (3, .int 4), (4, .int 0), (0, .ref h0)]) hx hb dX8_hash_23 rfl hl (by decide) rfl (fun ls hl => ?_)
  refine lv_iconst (v := 0) hx hb dX8_hash_24 (by decide) ?_
  refine lv_istore (lv' := [(4, .int 0), (1, .long ((31 * ((31 * ((31 * ((31 * ((31 * z0) + (-1))) + (-1))) + (-1))) + (-1))) + (-1))), (3, .int 4), (0, .ref h0)]) hx hb dX8_hash_25 hl (by decide) rfl (fun ls hl => ?_)
  refine lv_iload hx hb dX8_hash_27 (lv_at hl 0 rfl) ?_
  refine lv_aload_n hx hb dX8_hash_29 rfl (lv_at hl 3 rfl) ?_
  refine va_get (D := g.1) (ci := 8) (v := .ref h0s) (C := RX8) (T := TX8) (N := 4) hx hb hts fw_X8 hown hK hP 0 rfl rfl 2 (by decide) (hts _ q_128) (fun _ h9 => h9) rfl dX8_hash_30 ?_
  refine lv_iload_n hx hb dX8_hash_33 rfl (lv_at hl 2 rfl) ?_
  refine va_iald hx hb hK hP 1 0 rfl rfl (by unfold vp_in; decide) dX8_hash_34 ?_
  refine lv_topk (v := (-1)) rfl ?_
  refine lv_icmp_ge (tgt := 59) hx hb dX8_hash_35 (by decide) (fun _ => ?_) (fun c_10 => absurd (by decide) c_10)
  refine lv_iinc (v := 5) (lv' := [(3, .int 5), (4, .int 0), (1, .long ((31 * ((31 * ((31 * ((31 * ((31 * z0) + (-1))) + (-1))) + (-1))) + (-1))) + (-1))), (0, .ref h0)]) hx hb dX8_hash_59 hl (k := 2) rfl (by decide) (by decide) rfl (fun ls hl => ?_)
  refine lv_goto (tgt := 2) hx hb dX8_hash_62 (by decide) ?_
  refine lv_iload_n hx hb dX8_hash_2 rfl (lv_at hl 0 rfl) ?_
  refine lv_aload_n hx hb dX8_hash_3 rfl (lv_at hl 3 rfl) ?_
  refine va_get (D := g.1) (ci := 8) (v := .int 6) (C := RX8) (T := TX8) (N := 4) hx hb hts fw_X8 hown hK hP 0 rfl rfl 0 (by decide) (hts _ q_126) (fun _ h9 => h9) rfl dX8_hash_4 ?_
  refine lv_icmp_ge (tgt := 65) hx hb dX8_hash_7 (by decide) (fun c_11 => absurd c_11 (by decide)) (fun _ => ?_)
  refine lv_ldc2 (v := 31) hx hb hown (hts _ q_1459) dX8_hash_10 ?_
  refine lv_lload_n hx hb dX8_hash_13 rfl (lv_at hl 2 rfl) ?_
  refine lv_lmul hx hb dX8_hash_14 ?_
  refine lv_aload_n hx hb dX8_hash_15 rfl (lv_at hl 3 rfl) ?_
  refine va_get (D := g.1) (ci := 8) (v := .ref h0s) (C := RX8) (T := TX8) (N := 4) hx hb hts fw_X8 hown hK hP 0 rfl rfl 2 (by decide) (hts _ q_128) (fun _ h9 => h9) rfl dX8_hash_16 ?_
  refine lv_iload_n hx hb dX8_hash_19 rfl (lv_at hl 0 rfl) ?_
  refine va_iald hx hb hK hP 1 0 rfl rfl (by unfold vp_in; decide) dX8_hash_20 ?_
  refine lv_topk (v := (-1)) rfl ?_
  refine lv_i2l (v := (-1)) hx hb dX8_hash_21 (by decide) ?_
  refine lv_ladd hx hb dX8_hash_22 ?_
  refine lv_lstore_n (lv' := [(1, .long ((31 * ((31 * ((31 * ((31 * ((31 * ((31 * z0) + (-1))) + (-1))) + (-1))) + (-1))) + (-1))) + (-1))), (3, .int 5), (4, .int 0), (0, .ref h0)]) hx hb dX8_hash_23 rfl hl (by decide) rfl (fun ls hl => ?_)
  refine lv_iconst (v := 0) hx hb dX8_hash_24 (by decide) ?_
  refine lv_istore (lv' := [(4, .int 0), (1, .long ((31 * ((31 * ((31 * ((31 * ((31 * ((31 * z0) + (-1))) + (-1))) + (-1))) + (-1))) + (-1))) + (-1))), (3, .int 5), (0, .ref h0)]) hx hb dX8_hash_25 hl (by decide) rfl (fun ls hl => ?_)
  refine lv_iload hx hb dX8_hash_27 (lv_at hl 0 rfl) ?_
  refine lv_aload_n hx hb dX8_hash_29 rfl (lv_at hl 3 rfl) ?_
  refine va_get (D := g.1) (ci := 8) (v := .ref h0s) (C := RX8) (T := TX8) (N := 4) hx hb hts fw_X8 hown hK hP 0 rfl rfl 2 (by decide) (hts _ q_128) (fun _ h9 => h9) rfl dX8_hash_30 ?_
  refine lv_iload_n hx hb dX8_hash_33 rfl (lv_at hl 2 rfl) ?_
  refine va_iald hx hb hK hP 1 0 rfl rfl (by unfold vp_in; decide) dX8_hash_34 ?_
  refine lv_topk (v := (-1)) rfl ?_
  refine lv_icmp_ge (tgt := 59) hx hb dX8_hash_35 (by decide) (fun _ => ?_) (fun c_12 => absurd (by decide) c_12)
  refine lv_iinc (v := 6) (lv' := [(3, .int 6), (4, .int 0), (1, .long ((31 * ((31 * ((31 * ((31 * ((31 * ((31 * z0) + (-1))) + (-1))) + (-1))) + (-1))) + (-1))) + (-1))), (0, .ref h0)]) hx hb dX8_hash_59 hl (k := 2) rfl (by decide) (by decide) rfl (fun ls hl => ?_)
  refine lv_goto (tgt := 2) hx hb dX8_hash_62 (by decide) ?_
  refine lv_iload_n hx hb dX8_hash_2 rfl (lv_at hl 0 rfl) ?_
  refine lv_aload_n hx hb dX8_hash_3 rfl (lv_at hl 3 rfl) ?_
  refine va_get (D := g.1) (ci := 8) (v := .int 6) (C := RX8) (T := TX8) (N := 4) hx hb hts fw_X8 hown hK hP 0 rfl rfl 0 (by decide) (hts _ q_126) (fun _ h9 => h9) rfl dX8_hash_4 ?_
  refine lv_icmp_ge (tgt := 65) hx hb dX8_hash_7 (by decide) (fun _ => ?_) (fun c_13 => absurd (by decide) c_13)
  refine lv_lload_n hx hb dX8_hash_65 rfl (lv_at hl 2 rfl) ?_
  exact rL X hK hP hD hS dX8_hash_66 (Nat.le_of_ble_eq_true rfl) (Nat.le_of_ble_eq_true rfl) (by show ((_, _) : Int64 × va_W) = _; unfold sp_X8_hash6; try rfl)
def sp_X8_hash4 (g : GG) (h0 : Nat) (z0 : Int64) (h0s : Nat) (h0p : Nat) : Int64 × va_W := ((31 * ((31 * ((31 * ((31 * z0) + (-1))) + (-1))) + (-1))) + (-1), [(h0, .inr (8, [.int 4, .int 32, .ref h0s, .ref h0p])), (h0s, .inl (cI g, 6, .inl (fun _ => (-1))))])
set_option maxHeartbeats 4000000 in
set_option maxRecDepth 100000 in
theorem c_X8_hash4 (l : Launch) (g : GG) (h0 : Nat) (z0 : Int64) (h0s : Nat) (h0p : Nat) : ML l g yX8_hash cX8_hash 5 (some .long) 0 0 0 0 [(h0, .inr (8, [.int 4, .int 32, .ref h0s, .ref h0p])), (h0s, .inl (cI g, 6, .inl (fun _ => (-1))))] [.ref h0, .long z0] (fun rr_ ww_ => (rr_, ww_) = sp_X8_hash4 g h0 z0 h0s h0p) := by
  refine met_of (fun A => va_Ql _ (bW g A) A) (by decide) (Nat.le_of_ble_eq_true rfl) ?_
  intro p e s m below meth c A ls X hK hP hD hA hZ hS hl
  have hx := X.1
  have hb := X.2.1
  have hml := X.2.2.1
  have hown := X.2.2.2.1
  have hts := X.2.2.2.2.1
  have hnm := X.2.2.2.2.2.2.2
  have hl : lv_has ls 5 [(0, .ref h0), (1, .long z0)] := hl
  refine lv_iconst (v := 0) hx hb dX8_hash_0 (by decide) ?_
  refine lv_istore_n (lv' := [(3, .int 0), (0, .ref h0), (1, .long z0)]) hx hb dX8_hash_1 rfl hl (by decide) rfl (fun ls hl => ?_)
  refine lv_iload_n hx hb dX8_hash_2 rfl (lv_at hl 0 rfl) ?_
  refine lv_aload_n hx hb dX8_hash_3 rfl (lv_at hl 1 rfl) ?_
  refine va_get (D := g.1) (ci := 8) (v := .int 4) (C := RX8) (T := TX8) (N := 4) hx hb hts fw_X8 hown hK hP 0 rfl rfl 0 (by decide) (hts _ q_126) (fun _ h9 => h9) rfl dX8_hash_4 ?_
  refine lv_icmp_ge (tgt := 65) hx hb dX8_hash_7 (by decide) (fun c_1 => absurd c_1 (by decide)) (fun _ => ?_)
  refine lv_ldc2 (v := 31) hx hb hown (hts _ q_1459) dX8_hash_10 ?_
  refine lv_lload_n hx hb dX8_hash_13 rfl (lv_at hl 2 rfl) ?_
  refine lv_lmul hx hb dX8_hash_14 ?_
  refine lv_aload_n hx hb dX8_hash_15 rfl (lv_at hl 1 rfl) ?_
  refine va_get (D := g.1) (ci := 8) (v := .ref h0s) (C := RX8) (T := TX8) (N := 4) hx hb hts fw_X8 hown hK hP 0 rfl rfl 2 (by decide) (hts _ q_128) (fun _ h9 => h9) rfl dX8_hash_16 ?_
  refine lv_iload_n hx hb dX8_hash_19 rfl (lv_at hl 0 rfl) ?_
  refine va_iald hx hb hK hP 1 0 rfl rfl (by unfold vp_in; decide) dX8_hash_20 ?_
  refine lv_topk (v := (-1)) rfl ?_
  refine lv_i2l (v := (-1)) hx hb dX8_hash_21 (by decide) ?_
  refine lv_ladd hx hb dX8_hash_22 ?_
  refine lv_lstore_n (lv' := [(1, .long ((31 * z0) + (-1))), (3, .int 0), (0, .ref h0)]) hx hb dX8_hash_23 rfl hl (by decide) rfl (fun ls hl => ?_)
  refine lv_iconst (v := 0) hx hb dX8_hash_24 (by decide) ?_
  refine lv_istore (lv' := [(4, .int 0), (1, .long ((31 * z0) + (-1))), (3, .int 0), (0, .ref h0)]) hx hb dX8_hash_25 hl (by decide) rfl (fun ls hl => ?_)
  refine lv_iload hx hb dX8_hash_27 (lv_at hl 0 rfl) ?_
  refine lv_aload_n hx hb dX8_hash_29 rfl (lv_at hl 3 rfl) ?_
  refine va_get (D := g.1) (ci := 8) (v := .ref h0s) (C := RX8) (T := TX8) (N := 4) hx hb hts fw_X8 hown hK hP 0 rfl rfl 2 (by decide) (hts _ q_128) (fun _ h9 => h9) rfl dX8_hash_30 ?_
  refine lv_iload_n hx hb dX8_hash_33 rfl (lv_at hl 2 rfl) ?_
  refine va_iald hx hb hK hP 1 0 rfl rfl (by unfold vp_in; decide) dX8_hash_34 ?_
  refine lv_topk (v := (-1)) rfl ?_
  refine lv_icmp_ge (tgt := 59) hx hb dX8_hash_35 (by decide) (fun _ => ?_) (fun c_2 => absurd (by decide) c_2)
  refine lv_iinc (v := 1) (lv' := [(3, .int 1), (4, .int 0), (1, .long ((31 * z0) + (-1))), (0, .ref h0)]) hx hb dX8_hash_59 hl (k := 2) rfl (by decide) (by decide) rfl (fun ls hl => ?_)
  refine lv_goto (tgt := 2) hx hb dX8_hash_62 (by decide) ?_
  refine lv_iload_n hx hb dX8_hash_2 rfl (lv_at hl 0 rfl) ?_
  refine lv_aload_n hx hb dX8_hash_3 rfl (lv_at hl 3 rfl) ?_
  refine va_get (D := g.1) (ci := 8) (v := .int 4) (C := RX8) (T := TX8) (N := 4) hx hb hts fw_X8 hown hK hP 0 rfl rfl 0 (by decide) (hts _ q_126) (fun _ h9 => h9) rfl dX8_hash_4 ?_
  refine lv_icmp_ge (tgt := 65) hx hb dX8_hash_7 (by decide) (fun c_3 => absurd c_3 (by decide)) (fun _ => ?_)
  refine lv_ldc2 (v := 31) hx hb hown (hts _ q_1459) dX8_hash_10 ?_
  refine lv_lload_n hx hb dX8_hash_13 rfl (lv_at hl 2 rfl) ?_
  refine lv_lmul hx hb dX8_hash_14 ?_
  refine lv_aload_n hx hb dX8_hash_15 rfl (lv_at hl 3 rfl) ?_
  refine va_get (D := g.1) (ci := 8) (v := .ref h0s) (C := RX8) (T := TX8) (N := 4) hx hb hts fw_X8 hown hK hP 0 rfl rfl 2 (by decide) (hts _ q_128) (fun _ h9 => h9) rfl dX8_hash_16 ?_
  refine lv_iload_n hx hb dX8_hash_19 rfl (lv_at hl 0 rfl) ?_
  refine va_iald hx hb hK hP 1 0 rfl rfl (by unfold vp_in; decide) dX8_hash_20 ?_
  refine lv_topk (v := (-1)) rfl ?_
  refine lv_i2l (v := (-1)) hx hb dX8_hash_21 (by decide) ?_
  refine lv_ladd hx hb dX8_hash_22 ?_
  refine lv_lstore_n (lv' := [(1, .long ((31 * ((31 * z0) + (-1))) + (-1))), (3, .int 1), (4, .int 0), (0, .ref h0)]) hx hb dX8_hash_23 rfl hl (by decide) rfl (fun ls hl => ?_)
  refine lv_iconst (v := 0) hx hb dX8_hash_24 (by decide) ?_
  refine lv_istore (lv' := [(4, .int 0), (1, .long ((31 * ((31 * z0) + (-1))) + (-1))), (3, .int 1), (0, .ref h0)]) hx hb dX8_hash_25 hl (by decide) rfl (fun ls hl => ?_)
  refine lv_iload hx hb dX8_hash_27 (lv_at hl 0 rfl) ?_
  refine lv_aload_n hx hb dX8_hash_29 rfl (lv_at hl 3 rfl) ?_
  refine va_get (D := g.1) (ci := 8) (v := .ref h0s) (C := RX8) (T := TX8) (N := 4) hx hb hts fw_X8 hown hK hP 0 rfl rfl 2 (by decide) (hts _ q_128) (fun _ h9 => h9) rfl dX8_hash_30 ?_
  refine lv_iload_n hx hb dX8_hash_33 rfl (lv_at hl 2 rfl) ?_
  refine va_iald hx hb hK hP 1 0 rfl rfl (by unfold vp_in; decide) dX8_hash_34 ?_
  refine lv_topk (v := (-1)) rfl ?_
  refine lv_icmp_ge (tgt := 59) hx hb dX8_hash_35 (by decide) (fun _ => ?_) (fun c_4 => absurd (by decide) c_4)
  refine lv_iinc (v := 2) (lv' := [(3, .int 2), (4, .int 0), (1, .long ((31 * ((31 * z0) + (-1))) + (-1))), (0, .ref h0)]) hx hb dX8_hash_59 hl (k := 2) rfl (by decide) (by decide) rfl (fun ls hl => ?_)
  refine lv_goto (tgt := 2) hx hb dX8_hash_62 (by decide) ?_
  refine lv_iload_n hx hb dX8_hash_2 rfl (lv_at hl 0 rfl) ?_
  refine lv_aload_n hx hb dX8_hash_3 rfl (lv_at hl 3 rfl) ?_
  refine va_get (D := g.1) (ci := 8) (v := .int 4) (C := RX8) (T := TX8) (N := 4) hx hb hts fw_X8 hown hK hP 0 rfl rfl 0 (by decide) (hts _ q_126) (fun _ h9 => h9) rfl dX8_hash_4 ?_
  refine lv_icmp_ge (tgt := 65) hx hb dX8_hash_7 (by decide) (fun c_5 => absurd c_5 (by decide)) (fun _ => ?_)
  refine lv_ldc2 (v := 31) hx hb hown (hts _ q_1459) dX8_hash_10 ?_
  refine lv_lload_n hx hb dX8_hash_13 rfl (lv_at hl 2 rfl) ?_
  refine lv_lmul hx hb dX8_hash_14 ?_
  refine lv_aload_n hx hb dX8_hash_15 rfl (lv_at hl 3 rfl) ?_
  refine va_get (D := g.1) (ci := 8) (v := .ref h0s) (C := RX8) (T := TX8) (N := 4) hx hb hts fw_X8 hown hK hP 0 rfl rfl 2 (by decide) (hts _ q_128) (fun _ h9 => h9) rfl dX8_hash_16 ?_
  refine lv_iload_n hx hb dX8_hash_19 rfl (lv_at hl 0 rfl) ?_
  refine va_iald hx hb hK hP 1 0 rfl rfl (by unfold vp_in; decide) dX8_hash_20 ?_
  refine lv_topk (v := (-1)) rfl ?_
  refine lv_i2l (v := (-1)) hx hb dX8_hash_21 (by decide) ?_
  refine lv_ladd hx hb dX8_hash_22 ?_
  refine lv_lstore_n (lv' := [(1, .long ((31 * ((31 * ((31 * z0) + (-1))) + (-1))) + (-1))), (3, .int 2), (4, .int 0), (0, .ref h0)]) hx hb dX8_hash_23 rfl hl (by decide) rfl (fun ls hl => ?_)
  refine lv_iconst (v := 0) hx hb dX8_hash_24 (by decide) ?_
  refine lv_istore (lv' := [(4, .int 0), (1, .long ((31 * ((31 * ((31 * z0) + (-1))) + (-1))) + (-1))), (3, .int 2), (0, .ref h0)]) hx hb dX8_hash_25 hl (by decide) rfl (fun ls hl => ?_)
  refine lv_iload hx hb dX8_hash_27 (lv_at hl 0 rfl) ?_
  refine lv_aload_n hx hb dX8_hash_29 rfl (lv_at hl 3 rfl) ?_
  refine va_get (D := g.1) (ci := 8) (v := .ref h0s) (C := RX8) (T := TX8) (N := 4) hx hb hts fw_X8 hown hK hP 0 rfl rfl 2 (by decide) (hts _ q_128) (fun _ h9 => h9) rfl dX8_hash_30 ?_
  refine lv_iload_n hx hb dX8_hash_33 rfl (lv_at hl 2 rfl) ?_
  refine va_iald hx hb hK hP 1 0 rfl rfl (by unfold vp_in; decide) dX8_hash_34 ?_
  refine lv_topk (v := (-1)) rfl ?_
  refine lv_icmp_ge (tgt := 59) hx hb dX8_hash_35 (by decide) (fun _ => ?_) (fun c_6 => absurd (by decide) c_6)
  refine lv_iinc (v := 3) (lv' := [(3, .int 3), (4, .int 0), (1, .long ((31 * ((31 * ((31 * z0) + (-1))) + (-1))) + (-1))), (0, .ref h0)]) hx hb dX8_hash_59 hl (k := 2) rfl (by decide) (by decide) rfl (fun ls hl => ?_)
  refine lv_goto (tgt := 2) hx hb dX8_hash_62 (by decide) ?_
  refine lv_iload_n hx hb dX8_hash_2 rfl (lv_at hl 0 rfl) ?_
  refine lv_aload_n hx hb dX8_hash_3 rfl (lv_at hl 3 rfl) ?_
  refine va_get (D := g.1) (ci := 8) (v := .int 4) (C := RX8) (T := TX8) (N := 4) hx hb hts fw_X8 hown hK hP 0 rfl rfl 0 (by decide) (hts _ q_126) (fun _ h9 => h9) rfl dX8_hash_4 ?_
  refine lv_icmp_ge (tgt := 65) hx hb dX8_hash_7 (by decide) (fun c_7 => absurd c_7 (by decide)) (fun _ => ?_)
  refine lv_ldc2 (v := 31) hx hb hown (hts _ q_1459) dX8_hash_10 ?_
  refine lv_lload_n hx hb dX8_hash_13 rfl (lv_at hl 2 rfl) ?_
  refine lv_lmul hx hb dX8_hash_14 ?_
  refine lv_aload_n hx hb dX8_hash_15 rfl (lv_at hl 3 rfl) ?_
  refine va_get (D := g.1) (ci := 8) (v := .ref h0s) (C := RX8) (T := TX8) (N := 4) hx hb hts fw_X8 hown hK hP 0 rfl rfl 2 (by decide) (hts _ q_128) (fun _ h9 => h9) rfl dX8_hash_16 ?_
  refine lv_iload_n hx hb dX8_hash_19 rfl (lv_at hl 0 rfl) ?_
  refine va_iald hx hb hK hP 1 0 rfl rfl (by unfold vp_in; decide) dX8_hash_20 ?_
  refine lv_topk (v := (-1)) rfl ?_
  refine lv_i2l (v := (-1)) hx hb dX8_hash_21 (by decide) ?_
  refine lv_ladd hx hb dX8_hash_22 ?_
  refine lv_lstore_n (lv' := [(1, .long ((31 * ((31 * ((31 * ((31 * z0) + (-1))) + (-1))) + (-1))) + (-1))), (3, .int 3), (4, .int 0), (0, .ref h0)]) hx hb dX8_hash_23 rfl hl (by decide) rfl (fun ls hl => ?_)
  refine lv_iconst (v := 0) hx hb dX8_hash_24 (by decide) ?_
  refine lv_istore (lv' := [(4, .int 0), (1, .long ((31 * ((31 * ((31 * ((31 * z0) + (-1))) + (-1))) + (-1))) + (-1))), (3, .int 3), (0, .ref h0)]) hx hb dX8_hash_25 hl (by decide) rfl (fun ls hl => ?_)
  refine lv_iload hx hb dX8_hash_27 (lv_at hl 0 rfl) ?_
  refine lv_aload_n hx hb dX8_hash_29 rfl (lv_at hl 3 rfl) ?_
  refine va_get (D := g.1) (ci := 8) (v := .ref h0s) (C := RX8) (T := TX8) (N := 4) hx hb hts fw_X8 hown hK hP 0 rfl rfl 2 (by decide) (hts _ q_128) (fun _ h9 => h9) rfl dX8_hash_30 ?_
  refine lv_iload_n hx hb dX8_hash_33 rfl (lv_at hl 2 rfl) ?_
  refine va_iald hx hb hK hP 1 0 rfl rfl (by unfold vp_in; decide) dX8_hash_34 ?_
  refine lv_topk (v := (-1)) rfl ?_
  refine lv_icmp_ge (tgt := 59) hx hb dX8_hash_35 (by decide) (fun _ => ?_) (fun c_8 => absurd (by decide) c_8)
  refine lv_iinc (v := 4) (lv' := [(3, .int 4), (4, .int 0), (1, .long ((31 * ((31 * ((31 * ((31 * z0) + (-1))) + (-1))) + (-1))) + (-1))), (0, .ref h0)]) hx hb dX8_hash_59 hl (k := 2) rfl (by decide) (by decide) rfl (fun ls hl => ?_)
  refine lv_goto (tgt := 2) hx hb dX8_hash_62 (by decide) ?_
  refine lv_iload_n hx hb dX8_hash_2 rfl (lv_at hl 0 rfl) ?_
  refine lv_aload_n hx hb dX8_hash_3 rfl (lv_at hl 3 rfl) ?_
  refine va_get (D := g.1) (ci := 8) (v := .int 4) (C := RX8) (T := TX8) (N := 4) hx hb hts fw_X8 hown hK hP 0 rfl rfl 0 (by decide) (hts _ q_126) (fun _ h9 => h9) rfl dX8_hash_4 ?_
  refine lv_icmp_ge (tgt := 65) hx hb dX8_hash_7 (by decide) (fun _ => ?_) (fun c_9 => absurd (by decide) c_9)
  refine lv_lload_n hx hb dX8_hash_65 rfl (lv_at hl 2 rfl) ?_
  exact rL X hK hP hD hS dX8_hash_66 (Nat.le_of_ble_eq_true rfl) (Nat.le_of_ble_eq_true rfl) (by show ((_, _) : Int64 × va_W) = _; unfold sp_X8_hash4; try rfl)
def sp_X11_digest (g : GG) (x0 : Nat) (xr : Nat) (xt : Nat) (xg : Nat) (xb : Nat) (xp : Nat) (xu : Nat) (xm : Nat) (xd : Nat) (xw : Nat) (xh : Nat) (xa : Nat) (xs : Nat) (xf : Nat) (xrs : Nat) (xrp : Nat) (xts : Nat) (xtp : Nat) (xgs : Nat) (xgh : Nat) (xba0 : Nat) (xba1 : Nat) (xba2 : Nat) (xba3 : Nat) (xba4 : Nat) (xba5 : Nat) (xba6 : Nat) (xba7 : Nat) (xba8 : Nat) (xba9 : Nat) (xba10 : Nat) (xba11 : Nat) (xpa0 : Nat) (xpa1 : Nat) (xpa2 : Nat) (xpa3 : Nat) (xua0 : Nat) (xua1 : Nat) (xua2 : Nat) (xma0 : Nat) (xma1 : Nat) (xma2 : Nat) (xma3 : Nat) (xma4 : Nat) (xma5 : Nat) (xma6 : Nat) (xma7 : Nat) (xma8 : Nat) (xma9 : Nat) (xma10 : Nat) (xma11 : Nat) (xma12 : Nat) (xda0 : Nat) (xda1 : Nat) (xda2 : Nat) (xda3 : Nat) (xda4 : Nat) (xda5 : Nat) : Int64 := (31 * ((31 * ((31 * ((31 * ((31 * ((31 * ((31 * ((31 * ((31 * ((31 * (gh 13933680878673617 64)) + (-1))) + (-1))) + (-1))) + (-1))) + (-1))) + (-1))) + (-1))) + (-1))) + (-1))) + (-1)
set_option maxHeartbeats 4000000 in
set_option maxRecDepth 100000 in
theorem c_X11_digest (l : Launch) (g : GG) (x0 : Nat) (xr : Nat) (xt : Nat) (xg : Nat) (xb : Nat) (xp : Nat) (xu : Nat) (xm : Nat) (xd : Nat) (xw : Nat) (xh : Nat) (xa : Nat) (xs : Nat) (xf : Nat) (xrs : Nat) (xrp : Nat) (xts : Nat) (xtp : Nat) (xgs : Nat) (xgh : Nat) (xba0 : Nat) (xba1 : Nat) (xba2 : Nat) (xba3 : Nat) (xba4 : Nat) (xba5 : Nat) (xba6 : Nat) (xba7 : Nat) (xba8 : Nat) (xba9 : Nat) (xba10 : Nat) (xba11 : Nat) (xpa0 : Nat) (xpa1 : Nat) (xpa2 : Nat) (xpa3 : Nat) (xua0 : Nat) (xua1 : Nat) (xua2 : Nat) (xma0 : Nat) (xma1 : Nat) (xma2 : Nat) (xma3 : Nat) (xma4 : Nat) (xma5 : Nat) (xma6 : Nat) (xma7 : Nat) (xma8 : Nat) (xma9 : Nat) (xma10 : Nat) (xma11 : Nat) (xma12 : Nat) (xda0 : Nat) (xda1 : Nat) (xda2 : Nat) (xda3 : Nat) (xda4 : Nat) (xda5 : Nat) : ML l g yX11_digest cX11_digest 4 (some .long) 3 66 0 0 [(x0, .inr (11, [.ref xr, .ref xt, .ref xg, .ref xb, .ref xp, .ref xu, .ref xm, .ref xd, .ref xw, .ref xh, .ref xa, .ref xs, .ref xf, .int 0, .int 0, .long 0, .long 0, .int 0])), (xr, .inr (8, [.int 6, .int 0, .ref xrs, .ref xrp])), (xrs, .inl (cI g, 6, .inl (fun _ => (-1)))), (xt, .inr (8, [.int 4, .int 32, .ref xts, .ref xtp])), (xts, .inl (cI g, 6, .inl (fun _ => (-1)))), (xg, .inr (3, [.ref xgs, .ref xgh])), (xgs, .inl (cI g, 64, .inl (fun _ => 0))), (xgh, .inl (cI g, 64, .inl (fun _ => 0))), (xb, .inr (1, [.ref xba0, .ref xba1, .ref xba2, .ref xba3, .ref xba4, .ref xba5, .ref xba6, .ref xba7, .ref xba8, .ref xba9, .ref xba10, .ref xba11, .int 0, .int 0])), (xp, .inr (5, [.ref xpa0, .ref xpa1, .ref xpa2, .ref xpa3, .int 0])), (xu, .inr (7, [.ref xua0, .ref xua1, .ref xua2, .int 0])), (xm, .inr (4, [.ref xma0, .ref xma1, .ref xma2, .ref xma3, .ref xma4, .ref xma5, .ref xma6, .ref xma7, .ref xma8, .ref xma9, .ref xma10, .ref xma11, .ref xma12, .int 0])), (xd, .inr (2, [.ref xda0, .ref xda1, .ref xda2, .ref xda3, .ref xda4, .ref xda5, .int 0, .int 0]))] [.ref x0] (fun rr_ _ => rr_ = sp_X11_digest g x0 xr xt xg xb xp xu xm xd xw xh xa xs xf xrs xrp xts xtp xgs xgh xba0 xba1 xba2 xba3 xba4 xba5 xba6 xba7 xba8 xba9 xba10 xba11 xpa0 xpa1 xpa2 xpa3 xua0 xua1 xua2 xma0 xma1 xma2 xma3 xma4 xma5 xma6 xma7 xma8 xma9 xma10 xma11 xma12 xda0 xda1 xda2 xda3 xda4 xda5) := by
  refine met_of (fun A => va_Ql _ (bW g A) A) (by decide) (Nat.le_of_ble_eq_true rfl) ?_
  intro p e s m below meth c A ls X hK hP hD hA hZ hS hl
  have hx := X.1
  have hb := X.2.1
  have hml := X.2.2.1
  have hown := X.2.2.2.1
  have hts := X.2.2.2.2.1
  have hnm := X.2.2.2.2.2.2.2
  have hl : lv_has ls 4 [(0, .ref x0)] := hl
  refine lv_ldc2 (v := 17) hx hb hown (hts _ q_1422) dX11_digest_0 ?_
  refine lv_lstore_n (lv' := [(1, .long 17), (0, .ref x0)]) hx hb dX11_digest_3 rfl hl (by decide) rfl (fun ls hl => ?_)
  refine lv_iconst (v := 0) hx hb dX11_digest_4 (by decide) ?_
  refine lv_istore_n (lv' := [(3, .int 0), (1, .long 17), (0, .ref x0)]) hx hb dX11_digest_5 rfl hl (by decide) rfl (fun ls hl => ?_)
  refine lv_iload_n hx hb dX11_digest_6 rfl (lv_at hl 0 rfl) ?_
  refine lv_bipush (v := 9) hx hb dX11_digest_7 (by decide) ?_
  refine lv_icmp_gt (tgt := 31) hx hb dX11_digest_9 (by decide) (fun c_1 => absurd c_1 (by decide)) (fun _ => ?_)
  refine lv_ldc2 (v := 31) hx hb hown (hts _ q_1423) dX11_digest_12 ?_
  refine lv_lload_n hx hb dX11_digest_15 rfl (lv_at hl 1 rfl) ?_
  refine lv_lmul hx hb dX11_digest_16 ?_
  refine lv_topkl (v := 527) (by decide) ?_
  refine lv_aload_n hx hb dX11_digest_17 rfl (lv_at hl 2 rfl) ?_
  refine lv_iload_n hx hb dX11_digest_18 rfl (lv_at hl 0 rfl) ?_
  refine kVi (As := [.int 0]) (rest := [.long 527]) (wr := [(xr, .inr (8, [.int 6, .int 0, .ref xrs, .ref xrp])), (xrs, .inl (cI g, 6, .inl (fun _ => (-1)))), (xt, .inr (8, [.int 4, .int 32, .ref xts, .ref xtp])), (xts, .inl (cI g, 6, .inl (fun _ => (-1)))), (xg, .inr (3, [.ref xgs, .ref xgh])), (xgs, .inl (cI g, 64, .inl (fun _ => 0))), (xgh, .inl (cI g, 64, .inl (fun _ => 0))), (xb, .inr (1, [.ref xba0, .ref xba1, .ref xba2, .ref xba3, .ref xba4, .ref xba5, .ref xba6, .ref xba7, .ref xba8, .ref xba9, .ref xba10, .ref xba11, .int 0, .int 0])), (xp, .inr (5, [.ref xpa0, .ref xpa1, .ref xpa2, .ref xpa3, .int 0])), (xu, .inr (7, [.ref xua0, .ref xua1, .ref xua2, .int 0])), (xm, .inr (4, [.ref xma0, .ref xma1, .ref xma2, .ref xma3, .ref xma4, .ref xma5, .ref xma6, .ref xma7, .ref xma8, .ref xma9, .ref xma10, .ref xma11, .ref xma12, .int 0])), (xd, .inr (2, [.ref xda0, .ref xda1, .ref xda2, .ref xda3, .ref xda4, .ref xda5, .int 0, .int 0]))]) X (c_X11_count0 l g x0 xr xt xg xb xp xu xm xd xw xh xa xs xf) ok_X11_count okv_X11_count q_1424 rfl hK hP hD hS hA hZ hl.1 [0] [1, 2, 3, 4, 5, 6, 7, 8, 9, 10, 11, 12] rfl rfl rfl rfl rfl 0 11 rfl rfl rfl (Nat.le_of_ble_eq_true rfl) ⟨Nat.le_of_ble_eq_true rfl, Nat.le_of_ble_eq_true rfl⟩ dX11_digest_19 ⟨Nat.le_of_ble_eq_true rfl, Nat.le_of_ble_eq_true rfl⟩ (fun r_2 w1 H locs hw_3 hP hD hS => ?_)
  rw [sp_X11_count0] at hw_3
  obtain ⟨e1, e2⟩ := Prod.mk.inj hw_3
  subst e1; subst e2
  have hP : va_P g.1 classes [(xr, .inr (8, [.int 6, .int 0, .ref xrs, .ref xrp])), (xrs, .inl (cI g, 6, .inl (fun _ => (-1)))), (xt, .inr (8, [.int 4, .int 32, .ref xts, .ref xtp])), (xts, .inl (cI g, 6, .inl (fun _ => (-1)))), (xg, .inr (3, [.ref xgs, .ref xgh])), (xgs, .inl (cI g, 64, .inl (fun _ => 0))), (xgh, .inl (cI g, 64, .inl (fun _ => 0))), (xb, .inr (1, [.ref xba0, .ref xba1, .ref xba2, .ref xba3, .ref xba4, .ref xba5, .ref xba6, .ref xba7, .ref xba8, .ref xba9, .ref xba10, .ref xba11, .int 0, .int 0])), (xp, .inr (5, [.ref xpa0, .ref xpa1, .ref xpa2, .ref xpa3, .int 0])), (xu, .inr (7, [.ref xua0, .ref xua1, .ref xua2, .int 0])), (xm, .inr (4, [.ref xma0, .ref xma1, .ref xma2, .ref xma3, .ref xma4, .ref xma5, .ref xma6, .ref xma7, .ref xma8, .ref xma9, .ref xma10, .ref xma11, .ref xma12, .int 0])), (xd, .inr (2, [.ref xda0, .ref xda1, .ref xda2, .ref xda3, .ref xda4, .ref xda5, .int 0, .int 0])), (x0, .inr (11, [.ref xr, .ref xt, .ref xg, .ref xb, .ref xp, .ref xu, .ref xm, .ref xd, .ref xw, .ref xh, .ref xa, .ref xs, .ref xf, .int 0, .int 0, .long 0, .long 0, .int 0]))] H := hP
  have hD : va_D A [(xr, .inr (8, [.int 6, .int 0, .ref xrs, .ref xrp])), (xrs, .inl (cI g, 6, .inl (fun _ => (-1)))), (xt, .inr (8, [.int 4, .int 32, .ref xts, .ref xtp])), (xts, .inl (cI g, 6, .inl (fun _ => (-1)))), (xg, .inr (3, [.ref xgs, .ref xgh])), (xgs, .inl (cI g, 64, .inl (fun _ => 0))), (xgh, .inl (cI g, 64, .inl (fun _ => 0))), (xb, .inr (1, [.ref xba0, .ref xba1, .ref xba2, .ref xba3, .ref xba4, .ref xba5, .ref xba6, .ref xba7, .ref xba8, .ref xba9, .ref xba10, .ref xba11, .int 0, .int 0])), (xp, .inr (5, [.ref xpa0, .ref xpa1, .ref xpa2, .ref xpa3, .int 0])), (xu, .inr (7, [.ref xua0, .ref xua1, .ref xua2, .int 0])), (xm, .inr (4, [.ref xma0, .ref xma1, .ref xma2, .ref xma3, .ref xma4, .ref xma5, .ref xma6, .ref xma7, .ref xma8, .ref xma9, .ref xma10, .ref xma11, .ref xma12, .int 0])), (xd, .inr (2, [.ref xda0, .ref xda1, .ref xda2, .ref xda3, .ref xda4, .ref xda5, .int 0, .int 0])), (x0, .inr (11, [.ref xr, .ref xt, .ref xg, .ref xb, .ref xp, .ref xu, .ref xm, .ref xd, .ref xw, .ref xh, .ref xa, .ref xs, .ref xf, .int 0, .int 0, .long 0, .long 0, .int 0]))] := hD
  refine lv_i2l (v := 0) hx hb dX11_digest_22 (by decide) ?_
  refine lv_ladd hx hb dX11_digest_23 ?_
  refine lv_topkl (v := 527) (by decide) ?_
  refine lv_lstore_n (lv' := [(1, .long 527), (3, .int 0), (0, .ref x0)]) hx hb dX11_digest_24 rfl hl (by decide) rfl (fun ls hl => ?_)
  refine lv_iinc (v := 1) (lv' := [(3, .int 1), (1, .long 527), (0, .ref x0)]) hx hb dX11_digest_25 hl (k := 1) rfl (by decide) (by decide) rfl (fun ls hl => ?_)
  refine lv_goto (tgt := 6) hx hb dX11_digest_28 (by decide) ?_
  refine lv_iload_n hx hb dX11_digest_6 rfl (lv_at hl 0 rfl) ?_
  refine lv_bipush (v := 9) hx hb dX11_digest_7 (by decide) ?_
  refine lv_icmp_gt (tgt := 31) hx hb dX11_digest_9 (by decide) (fun c_4 => absurd c_4 (by decide)) (fun _ => ?_)
  refine lv_ldc2 (v := 31) hx hb hown (hts _ q_1423) dX11_digest_12 ?_
  refine lv_lload_n hx hb dX11_digest_15 rfl (lv_at hl 1 rfl) ?_
  refine lv_lmul hx hb dX11_digest_16 ?_
  refine lv_topkl (v := 16337) (by decide) ?_
  refine lv_aload_n hx hb dX11_digest_17 rfl (lv_at hl 2 rfl) ?_
  refine lv_iload_n hx hb dX11_digest_18 rfl (lv_at hl 0 rfl) ?_
  refine kVi (As := [.int 1]) (rest := [.long 16337]) (wr := [(xr, .inr (8, [.int 6, .int 0, .ref xrs, .ref xrp])), (xrs, .inl (cI g, 6, .inl (fun _ => (-1)))), (xt, .inr (8, [.int 4, .int 32, .ref xts, .ref xtp])), (xts, .inl (cI g, 6, .inl (fun _ => (-1)))), (xg, .inr (3, [.ref xgs, .ref xgh])), (xgs, .inl (cI g, 64, .inl (fun _ => 0))), (xgh, .inl (cI g, 64, .inl (fun _ => 0))), (xp, .inr (5, [.ref xpa0, .ref xpa1, .ref xpa2, .ref xpa3, .int 0])), (xu, .inr (7, [.ref xua0, .ref xua1, .ref xua2, .int 0])), (xm, .inr (4, [.ref xma0, .ref xma1, .ref xma2, .ref xma3, .ref xma4, .ref xma5, .ref xma6, .ref xma7, .ref xma8, .ref xma9, .ref xma10, .ref xma11, .ref xma12, .int 0])), (xd, .inr (2, [.ref xda0, .ref xda1, .ref xda2, .ref xda3, .ref xda4, .ref xda5, .int 0, .int 0]))]) X (c_X11_count1 l g x0 xr xt xg xb xp xu xm xd xw xh xa xs xf xba0 xba1 xba2 xba3 xba4 xba5 xba6 xba7 xba8 xba9 xba10 xba11) ok_X11_count okv_X11_count q_1424 rfl hK hP hD hS hA hZ hl.1 [12, 7] [0, 1, 2, 3, 4, 5, 6, 8, 9, 10, 11] rfl rfl rfl rfl rfl 0 11 rfl rfl rfl (Nat.le_of_ble_eq_true rfl) ⟨Nat.le_of_ble_eq_true rfl, Nat.le_of_ble_eq_true rfl⟩ dX11_digest_19 ⟨Nat.le_of_ble_eq_true rfl, Nat.le_of_ble_eq_true rfl⟩ (fun r_5 w1 H locs hw_6 hP hD hS => ?_)
  rw [sp_X11_count1] at hw_6
  obtain ⟨e1, e2⟩ := Prod.mk.inj hw_6
  subst e1; subst e2
  have hP : va_P g.1 classes [(xr, .inr (8, [.int 6, .int 0, .ref xrs, .ref xrp])), (xrs, .inl (cI g, 6, .inl (fun _ => (-1)))), (xt, .inr (8, [.int 4, .int 32, .ref xts, .ref xtp])), (xts, .inl (cI g, 6, .inl (fun _ => (-1)))), (xg, .inr (3, [.ref xgs, .ref xgh])), (xgs, .inl (cI g, 64, .inl (fun _ => 0))), (xgh, .inl (cI g, 64, .inl (fun _ => 0))), (xp, .inr (5, [.ref xpa0, .ref xpa1, .ref xpa2, .ref xpa3, .int 0])), (xu, .inr (7, [.ref xua0, .ref xua1, .ref xua2, .int 0])), (xm, .inr (4, [.ref xma0, .ref xma1, .ref xma2, .ref xma3, .ref xma4, .ref xma5, .ref xma6, .ref xma7, .ref xma8, .ref xma9, .ref xma10, .ref xma11, .ref xma12, .int 0])), (xd, .inr (2, [.ref xda0, .ref xda1, .ref xda2, .ref xda3, .ref xda4, .ref xda5, .int 0, .int 0])), (x0, .inr (11, [.ref xr, .ref xt, .ref xg, .ref xb, .ref xp, .ref xu, .ref xm, .ref xd, .ref xw, .ref xh, .ref xa, .ref xs, .ref xf, .int 0, .int 0, .long 0, .long 0, .int 0])), (xb, .inr (1, [.ref xba0, .ref xba1, .ref xba2, .ref xba3, .ref xba4, .ref xba5, .ref xba6, .ref xba7, .ref xba8, .ref xba9, .ref xba10, .ref xba11, .int 0, .int 0]))] H := hP
  have hD : va_D A [(xr, .inr (8, [.int 6, .int 0, .ref xrs, .ref xrp])), (xrs, .inl (cI g, 6, .inl (fun _ => (-1)))), (xt, .inr (8, [.int 4, .int 32, .ref xts, .ref xtp])), (xts, .inl (cI g, 6, .inl (fun _ => (-1)))), (xg, .inr (3, [.ref xgs, .ref xgh])), (xgs, .inl (cI g, 64, .inl (fun _ => 0))), (xgh, .inl (cI g, 64, .inl (fun _ => 0))), (xp, .inr (5, [.ref xpa0, .ref xpa1, .ref xpa2, .ref xpa3, .int 0])), (xu, .inr (7, [.ref xua0, .ref xua1, .ref xua2, .int 0])), (xm, .inr (4, [.ref xma0, .ref xma1, .ref xma2, .ref xma3, .ref xma4, .ref xma5, .ref xma6, .ref xma7, .ref xma8, .ref xma9, .ref xma10, .ref xma11, .ref xma12, .int 0])), (xd, .inr (2, [.ref xda0, .ref xda1, .ref xda2, .ref xda3, .ref xda4, .ref xda5, .int 0, .int 0])), (x0, .inr (11, [.ref xr, .ref xt, .ref xg, .ref xb, .ref xp, .ref xu, .ref xm, .ref xd, .ref xw, .ref xh, .ref xa, .ref xs, .ref xf, .int 0, .int 0, .long 0, .long 0, .int 0])), (xb, .inr (1, [.ref xba0, .ref xba1, .ref xba2, .ref xba3, .ref xba4, .ref xba5, .ref xba6, .ref xba7, .ref xba8, .ref xba9, .ref xba10, .ref xba11, .int 0, .int 0]))] := hD
  refine lv_i2l (v := 0) hx hb dX11_digest_22 (by decide) ?_
  refine lv_ladd hx hb dX11_digest_23 ?_
  refine lv_topkl (v := 16337) (by decide) ?_
  refine lv_lstore_n (lv' := [(1, .long 16337), (3, .int 1), (0, .ref x0)]) hx hb dX11_digest_24 rfl hl (by decide) rfl (fun ls hl => ?_)
  refine lv_iinc (v := 2) (lv' := [(3, .int 2), (1, .long 16337), (0, .ref x0)]) hx hb dX11_digest_25 hl (k := 1) rfl (by decide) (by decide) rfl (fun ls hl => ?_)
  refine lv_goto (tgt := 6) hx hb dX11_digest_28 (by decide) ?_
  refine lv_iload_n hx hb dX11_digest_6 rfl (lv_at hl 0 rfl) ?_
  refine lv_bipush (v := 9) hx hb dX11_digest_7 (by decide) ?_
  refine lv_icmp_gt (tgt := 31) hx hb dX11_digest_9 (by decide) (fun c_7 => absurd c_7 (by decide)) (fun _ => ?_)
  refine lv_ldc2 (v := 31) hx hb hown (hts _ q_1423) dX11_digest_12 ?_
  refine lv_lload_n hx hb dX11_digest_15 rfl (lv_at hl 1 rfl) ?_
  refine lv_lmul hx hb dX11_digest_16 ?_
  refine lv_topkl (v := 506447) (by decide) ?_
  refine lv_aload_n hx hb dX11_digest_17 rfl (lv_at hl 2 rfl) ?_
  refine lv_iload_n hx hb dX11_digest_18 rfl (lv_at hl 0 rfl) ?_
  refine kVi (As := [.int 2]) (rest := [.long 506447]) (wr := [(xr, .inr (8, [.int 6, .int 0, .ref xrs, .ref xrp])), (xrs, .inl (cI g, 6, .inl (fun _ => (-1)))), (xt, .inr (8, [.int 4, .int 32, .ref xts, .ref xtp])), (xts, .inl (cI g, 6, .inl (fun _ => (-1)))), (xg, .inr (3, [.ref xgs, .ref xgh])), (xgs, .inl (cI g, 64, .inl (fun _ => 0))), (xgh, .inl (cI g, 64, .inl (fun _ => 0))), (xu, .inr (7, [.ref xua0, .ref xua1, .ref xua2, .int 0])), (xm, .inr (4, [.ref xma0, .ref xma1, .ref xma2, .ref xma3, .ref xma4, .ref xma5, .ref xma6, .ref xma7, .ref xma8, .ref xma9, .ref xma10, .ref xma11, .ref xma12, .int 0])), (xd, .inr (2, [.ref xda0, .ref xda1, .ref xda2, .ref xda3, .ref xda4, .ref xda5, .int 0, .int 0])), (xb, .inr (1, [.ref xba0, .ref xba1, .ref xba2, .ref xba3, .ref xba4, .ref xba5, .ref xba6, .ref xba7, .ref xba8, .ref xba9, .ref xba10, .ref xba11, .int 0, .int 0]))]) X (c_X11_count2 l g x0 xr xt xg xb xp xu xm xd xw xh xa xs xf xpa0 xpa1 xpa2 xpa3) ok_X11_count okv_X11_count q_1424 rfl hK hP hD hS hA hZ hl.1 [11, 7] [0, 1, 2, 3, 4, 5, 6, 8, 9, 10, 12] rfl rfl rfl rfl rfl 0 11 rfl rfl rfl (Nat.le_of_ble_eq_true rfl) ⟨Nat.le_of_ble_eq_true rfl, Nat.le_of_ble_eq_true rfl⟩ dX11_digest_19 ⟨Nat.le_of_ble_eq_true rfl, Nat.le_of_ble_eq_true rfl⟩ (fun r_8 w1 H locs hw_9 hP hD hS => ?_)
  rw [sp_X11_count2] at hw_9
  obtain ⟨e1, e2⟩ := Prod.mk.inj hw_9
  subst e1; subst e2
  have hP : va_P g.1 classes [(xr, .inr (8, [.int 6, .int 0, .ref xrs, .ref xrp])), (xrs, .inl (cI g, 6, .inl (fun _ => (-1)))), (xt, .inr (8, [.int 4, .int 32, .ref xts, .ref xtp])), (xts, .inl (cI g, 6, .inl (fun _ => (-1)))), (xg, .inr (3, [.ref xgs, .ref xgh])), (xgs, .inl (cI g, 64, .inl (fun _ => 0))), (xgh, .inl (cI g, 64, .inl (fun _ => 0))), (xu, .inr (7, [.ref xua0, .ref xua1, .ref xua2, .int 0])), (xm, .inr (4, [.ref xma0, .ref xma1, .ref xma2, .ref xma3, .ref xma4, .ref xma5, .ref xma6, .ref xma7, .ref xma8, .ref xma9, .ref xma10, .ref xma11, .ref xma12, .int 0])), (xd, .inr (2, [.ref xda0, .ref xda1, .ref xda2, .ref xda3, .ref xda4, .ref xda5, .int 0, .int 0])), (xb, .inr (1, [.ref xba0, .ref xba1, .ref xba2, .ref xba3, .ref xba4, .ref xba5, .ref xba6, .ref xba7, .ref xba8, .ref xba9, .ref xba10, .ref xba11, .int 0, .int 0])), (x0, .inr (11, [.ref xr, .ref xt, .ref xg, .ref xb, .ref xp, .ref xu, .ref xm, .ref xd, .ref xw, .ref xh, .ref xa, .ref xs, .ref xf, .int 0, .int 0, .long 0, .long 0, .int 0])), (xp, .inr (5, [.ref xpa0, .ref xpa1, .ref xpa2, .ref xpa3, .int 0]))] H := hP
  have hD : va_D A [(xr, .inr (8, [.int 6, .int 0, .ref xrs, .ref xrp])), (xrs, .inl (cI g, 6, .inl (fun _ => (-1)))), (xt, .inr (8, [.int 4, .int 32, .ref xts, .ref xtp])), (xts, .inl (cI g, 6, .inl (fun _ => (-1)))), (xg, .inr (3, [.ref xgs, .ref xgh])), (xgs, .inl (cI g, 64, .inl (fun _ => 0))), (xgh, .inl (cI g, 64, .inl (fun _ => 0))), (xu, .inr (7, [.ref xua0, .ref xua1, .ref xua2, .int 0])), (xm, .inr (4, [.ref xma0, .ref xma1, .ref xma2, .ref xma3, .ref xma4, .ref xma5, .ref xma6, .ref xma7, .ref xma8, .ref xma9, .ref xma10, .ref xma11, .ref xma12, .int 0])), (xd, .inr (2, [.ref xda0, .ref xda1, .ref xda2, .ref xda3, .ref xda4, .ref xda5, .int 0, .int 0])), (xb, .inr (1, [.ref xba0, .ref xba1, .ref xba2, .ref xba3, .ref xba4, .ref xba5, .ref xba6, .ref xba7, .ref xba8, .ref xba9, .ref xba10, .ref xba11, .int 0, .int 0])), (x0, .inr (11, [.ref xr, .ref xt, .ref xg, .ref xb, .ref xp, .ref xu, .ref xm, .ref xd, .ref xw, .ref xh, .ref xa, .ref xs, .ref xf, .int 0, .int 0, .long 0, .long 0, .int 0])), (xp, .inr (5, [.ref xpa0, .ref xpa1, .ref xpa2, .ref xpa3, .int 0]))] := hD
  refine lv_i2l (v := 0) hx hb dX11_digest_22 (by decide) ?_
  refine lv_ladd hx hb dX11_digest_23 ?_
  refine lv_topkl (v := 506447) (by decide) ?_
  refine lv_lstore_n (lv' := [(1, .long 506447), (3, .int 2), (0, .ref x0)]) hx hb dX11_digest_24 rfl hl (by decide) rfl (fun ls hl => ?_)
  refine lv_iinc (v := 3) (lv' := [(3, .int 3), (1, .long 506447), (0, .ref x0)]) hx hb dX11_digest_25 hl (k := 1) rfl (by decide) (by decide) rfl (fun ls hl => ?_)
  refine lv_goto (tgt := 6) hx hb dX11_digest_28 (by decide) ?_
  refine lv_iload_n hx hb dX11_digest_6 rfl (lv_at hl 0 rfl) ?_
  refine lv_bipush (v := 9) hx hb dX11_digest_7 (by decide) ?_
  refine lv_icmp_gt (tgt := 31) hx hb dX11_digest_9 (by decide) (fun c_10 => absurd c_10 (by decide)) (fun _ => ?_)
  refine lv_ldc2 (v := 31) hx hb hown (hts _ q_1423) dX11_digest_12 ?_
  refine lv_lload_n hx hb dX11_digest_15 rfl (lv_at hl 1 rfl) ?_
  refine lv_lmul hx hb dX11_digest_16 ?_
  refine lv_topkl (v := 15699857) (by decide) ?_
  refine lv_aload_n hx hb dX11_digest_17 rfl (lv_at hl 2 rfl) ?_
  refine lv_iload_n hx hb dX11_digest_18 rfl (lv_at hl 0 rfl) ?_
  refine kVi (As := [.int 3]) (rest := [.long 15699857]) (wr := [(xr, .inr (8, [.int 6, .int 0, .ref xrs, .ref xrp])), (xrs, .inl (cI g, 6, .inl (fun _ => (-1)))), (xt, .inr (8, [.int 4, .int 32, .ref xts, .ref xtp])), (xts, .inl (cI g, 6, .inl (fun _ => (-1)))), (xg, .inr (3, [.ref xgs, .ref xgh])), (xgs, .inl (cI g, 64, .inl (fun _ => 0))), (xgh, .inl (cI g, 64, .inl (fun _ => 0))), (xu, .inr (7, [.ref xua0, .ref xua1, .ref xua2, .int 0])), (xm, .inr (4, [.ref xma0, .ref xma1, .ref xma2, .ref xma3, .ref xma4, .ref xma5, .ref xma6, .ref xma7, .ref xma8, .ref xma9, .ref xma10, .ref xma11, .ref xma12, .int 0])), (xd, .inr (2, [.ref xda0, .ref xda1, .ref xda2, .ref xda3, .ref xda4, .ref xda5, .int 0, .int 0])), (xb, .inr (1, [.ref xba0, .ref xba1, .ref xba2, .ref xba3, .ref xba4, .ref xba5, .ref xba6, .ref xba7, .ref xba8, .ref xba9, .ref xba10, .ref xba11, .int 0, .int 0]))]) X (c_X11_count3 l g x0 xr xt xg xb xp xu xm xd xw xh xa xs xf xpa0 xpa1 xpa2 xpa3) ok_X11_count okv_X11_count q_1424 rfl hK hP hD hS hA hZ hl.1 [11, 12] [0, 1, 2, 3, 4, 5, 6, 7, 8, 9, 10] rfl rfl rfl rfl rfl 0 11 rfl rfl rfl (Nat.le_of_ble_eq_true rfl) ⟨Nat.le_of_ble_eq_true rfl, Nat.le_of_ble_eq_true rfl⟩ dX11_digest_19 ⟨Nat.le_of_ble_eq_true rfl, Nat.le_of_ble_eq_true rfl⟩ (fun r_11 w1 H locs hw_12 hP hD hS => ?_)
  rw [sp_X11_count3] at hw_12
  obtain ⟨e1, e2⟩ := Prod.mk.inj hw_12
  subst e1; subst e2
  have hP : va_P g.1 classes [(xr, .inr (8, [.int 6, .int 0, .ref xrs, .ref xrp])), (xrs, .inl (cI g, 6, .inl (fun _ => (-1)))), (xt, .inr (8, [.int 4, .int 32, .ref xts, .ref xtp])), (xts, .inl (cI g, 6, .inl (fun _ => (-1)))), (xg, .inr (3, [.ref xgs, .ref xgh])), (xgs, .inl (cI g, 64, .inl (fun _ => 0))), (xgh, .inl (cI g, 64, .inl (fun _ => 0))), (xu, .inr (7, [.ref xua0, .ref xua1, .ref xua2, .int 0])), (xm, .inr (4, [.ref xma0, .ref xma1, .ref xma2, .ref xma3, .ref xma4, .ref xma5, .ref xma6, .ref xma7, .ref xma8, .ref xma9, .ref xma10, .ref xma11, .ref xma12, .int 0])), (xd, .inr (2, [.ref xda0, .ref xda1, .ref xda2, .ref xda3, .ref xda4, .ref xda5, .int 0, .int 0])), (xb, .inr (1, [.ref xba0, .ref xba1, .ref xba2, .ref xba3, .ref xba4, .ref xba5, .ref xba6, .ref xba7, .ref xba8, .ref xba9, .ref xba10, .ref xba11, .int 0, .int 0])), (x0, .inr (11, [.ref xr, .ref xt, .ref xg, .ref xb, .ref xp, .ref xu, .ref xm, .ref xd, .ref xw, .ref xh, .ref xa, .ref xs, .ref xf, .int 0, .int 0, .long 0, .long 0, .int 0])), (xp, .inr (5, [.ref xpa0, .ref xpa1, .ref xpa2, .ref xpa3, .int 0]))] H := hP
  have hD : va_D A [(xr, .inr (8, [.int 6, .int 0, .ref xrs, .ref xrp])), (xrs, .inl (cI g, 6, .inl (fun _ => (-1)))), (xt, .inr (8, [.int 4, .int 32, .ref xts, .ref xtp])), (xts, .inl (cI g, 6, .inl (fun _ => (-1)))), (xg, .inr (3, [.ref xgs, .ref xgh])), (xgs, .inl (cI g, 64, .inl (fun _ => 0))), (xgh, .inl (cI g, 64, .inl (fun _ => 0))), (xu, .inr (7, [.ref xua0, .ref xua1, .ref xua2, .int 0])), (xm, .inr (4, [.ref xma0, .ref xma1, .ref xma2, .ref xma3, .ref xma4, .ref xma5, .ref xma6, .ref xma7, .ref xma8, .ref xma9, .ref xma10, .ref xma11, .ref xma12, .int 0])), (xd, .inr (2, [.ref xda0, .ref xda1, .ref xda2, .ref xda3, .ref xda4, .ref xda5, .int 0, .int 0])), (xb, .inr (1, [.ref xba0, .ref xba1, .ref xba2, .ref xba3, .ref xba4, .ref xba5, .ref xba6, .ref xba7, .ref xba8, .ref xba9, .ref xba10, .ref xba11, .int 0, .int 0])), (x0, .inr (11, [.ref xr, .ref xt, .ref xg, .ref xb, .ref xp, .ref xu, .ref xm, .ref xd, .ref xw, .ref xh, .ref xa, .ref xs, .ref xf, .int 0, .int 0, .long 0, .long 0, .int 0])), (xp, .inr (5, [.ref xpa0, .ref xpa1, .ref xpa2, .ref xpa3, .int 0]))] := hD
  refine lv_i2l (v := 0) hx hb dX11_digest_22 (by decide) ?_
  refine lv_ladd hx hb dX11_digest_23 ?_
  refine lv_topkl (v := 15699857) (by decide) ?_
  refine lv_lstore_n (lv' := [(1, .long 15699857), (3, .int 3), (0, .ref x0)]) hx hb dX11_digest_24 rfl hl (by decide) rfl (fun ls hl => ?_)
  refine lv_iinc (v := 4) (lv' := [(3, .int 4), (1, .long 15699857), (0, .ref x0)]) hx hb dX11_digest_25 hl (k := 1) rfl (by decide) (by decide) rfl (fun ls hl => ?_)
  refine lv_goto (tgt := 6) hx hb dX11_digest_28 (by decide) ?_
  refine lv_iload_n hx hb dX11_digest_6 rfl (lv_at hl 0 rfl) ?_
  refine lv_bipush (v := 9) hx hb dX11_digest_7 (by decide) ?_
  refine lv_icmp_gt (tgt := 31) hx hb dX11_digest_9 (by decide) (fun c_13 => absurd c_13 (by decide)) (fun _ => ?_)
  refine lv_ldc2 (v := 31) hx hb hown (hts _ q_1423) dX11_digest_12 ?_
  refine lv_lload_n hx hb dX11_digest_15 rfl (lv_at hl 1 rfl) ?_
  refine lv_lmul hx hb dX11_digest_16 ?_
  refine lv_topkl (v := 486695567) (by decide) ?_
  refine lv_aload_n hx hb dX11_digest_17 rfl (lv_at hl 2 rfl) ?_
  refine lv_iload_n hx hb dX11_digest_18 rfl (lv_at hl 0 rfl) ?_
  refine kVi (As := [.int 4]) (rest := [.long 486695567]) (wr := [(xr, .inr (8, [.int 6, .int 0, .ref xrs, .ref xrp])), (xrs, .inl (cI g, 6, .inl (fun _ => (-1)))), (xt, .inr (8, [.int 4, .int 32, .ref xts, .ref xtp])), (xts, .inl (cI g, 6, .inl (fun _ => (-1)))), (xg, .inr (3, [.ref xgs, .ref xgh])), (xgs, .inl (cI g, 64, .inl (fun _ => 0))), (xgh, .inl (cI g, 64, .inl (fun _ => 0))), (xm, .inr (4, [.ref xma0, .ref xma1, .ref xma2, .ref xma3, .ref xma4, .ref xma5, .ref xma6, .ref xma7, .ref xma8, .ref xma9, .ref xma10, .ref xma11, .ref xma12, .int 0])), (xd, .inr (2, [.ref xda0, .ref xda1, .ref xda2, .ref xda3, .ref xda4, .ref xda5, .int 0, .int 0])), (xb, .inr (1, [.ref xba0, .ref xba1, .ref xba2, .ref xba3, .ref xba4, .ref xba5, .ref xba6, .ref xba7, .ref xba8, .ref xba9, .ref xba10, .ref xba11, .int 0, .int 0])), (xp, .inr (5, [.ref xpa0, .ref xpa1, .ref xpa2, .ref xpa3, .int 0]))]) X (c_X11_count4 l g x0 xr xt xg xb xp xu xm xd xw xh xa xs xf xua0 xua1 xua2) ok_X11_count okv_X11_count q_1424 rfl hK hP hD hS hA hZ hl.1 [11, 7] [0, 1, 2, 3, 4, 5, 6, 8, 9, 10, 12] rfl rfl rfl rfl rfl 0 11 rfl rfl rfl (Nat.le_of_ble_eq_true rfl) ⟨Nat.le_of_ble_eq_true rfl, Nat.le_of_ble_eq_true rfl⟩ dX11_digest_19 ⟨Nat.le_of_ble_eq_true rfl, Nat.le_of_ble_eq_true rfl⟩ (fun r_14 w1 H locs hw_15 hP hD hS => ?_)
  rw [sp_X11_count4] at hw_15
  obtain ⟨e1, e2⟩ := Prod.mk.inj hw_15
  subst e1; subst e2
  have hP : va_P g.1 classes [(xr, .inr (8, [.int 6, .int 0, .ref xrs, .ref xrp])), (xrs, .inl (cI g, 6, .inl (fun _ => (-1)))), (xt, .inr (8, [.int 4, .int 32, .ref xts, .ref xtp])), (xts, .inl (cI g, 6, .inl (fun _ => (-1)))), (xg, .inr (3, [.ref xgs, .ref xgh])), (xgs, .inl (cI g, 64, .inl (fun _ => 0))), (xgh, .inl (cI g, 64, .inl (fun _ => 0))), (xm, .inr (4, [.ref xma0, .ref xma1, .ref xma2, .ref xma3, .ref xma4, .ref xma5, .ref xma6, .ref xma7, .ref xma8, .ref xma9, .ref xma10, .ref xma11, .ref xma12, .int 0])), (xd, .inr (2, [.ref xda0, .ref xda1, .ref xda2, .ref xda3, .ref xda4, .ref xda5, .int 0, .int 0])), (xb, .inr (1, [.ref xba0, .ref xba1, .ref xba2, .ref xba3, .ref xba4, .ref xba5, .ref xba6, .ref xba7, .ref xba8, .ref xba9, .ref xba10, .ref xba11, .int 0, .int 0])), (xp, .inr (5, [.ref xpa0, .ref xpa1, .ref xpa2, .ref xpa3, .int 0])), (x0, .inr (11, [.ref xr, .ref xt, .ref xg, .ref xb, .ref xp, .ref xu, .ref xm, .ref xd, .ref xw, .ref xh, .ref xa, .ref xs, .ref xf, .int 0, .int 0, .long 0, .long 0, .int 0])), (xu, .inr (7, [.ref xua0, .ref xua1, .ref xua2, .int 0]))] H := hP
  have hD : va_D A [(xr, .inr (8, [.int 6, .int 0, .ref xrs, .ref xrp])), (xrs, .inl (cI g, 6, .inl (fun _ => (-1)))), (xt, .inr (8, [.int 4, .int 32, .ref xts, .ref xtp])), (xts, .inl (cI g, 6, .inl (fun _ => (-1)))), (xg, .inr (3, [.ref xgs, .ref xgh])), (xgs, .inl (cI g, 64, .inl (fun _ => 0))), (xgh, .inl (cI g, 64, .inl (fun _ => 0))), (xm, .inr (4, [.ref xma0, .ref xma1, .ref xma2, .ref xma3, .ref xma4, .ref xma5, .ref xma6, .ref xma7, .ref xma8, .ref xma9, .ref xma10, .ref xma11, .ref xma12, .int 0])), (xd, .inr (2, [.ref xda0, .ref xda1, .ref xda2, .ref xda3, .ref xda4, .ref xda5, .int 0, .int 0])), (xb, .inr (1, [.ref xba0, .ref xba1, .ref xba2, .ref xba3, .ref xba4, .ref xba5, .ref xba6, .ref xba7, .ref xba8, .ref xba9, .ref xba10, .ref xba11, .int 0, .int 0])), (xp, .inr (5, [.ref xpa0, .ref xpa1, .ref xpa2, .ref xpa3, .int 0])), (x0, .inr (11, [.ref xr, .ref xt, .ref xg, .ref xb, .ref xp, .ref xu, .ref xm, .ref xd, .ref xw, .ref xh, .ref xa, .ref xs, .ref xf, .int 0, .int 0, .long 0, .long 0, .int 0])), (xu, .inr (7, [.ref xua0, .ref xua1, .ref xua2, .int 0]))] := hD
  refine lv_i2l (v := 0) hx hb dX11_digest_22 (by decide) ?_
  refine lv_ladd hx hb dX11_digest_23 ?_
  refine lv_topkl (v := 486695567) (by decide) ?_
  refine lv_lstore_n (lv' := [(1, .long 486695567), (3, .int 4), (0, .ref x0)]) hx hb dX11_digest_24 rfl hl (by decide) rfl (fun ls hl => ?_)
  refine lv_iinc (v := 5) (lv' := [(3, .int 5), (1, .long 486695567), (0, .ref x0)]) hx hb dX11_digest_25 hl (k := 1) rfl (by decide) (by decide) rfl (fun ls hl => ?_)
  refine lv_goto (tgt := 6) hx hb dX11_digest_28 (by decide) ?_
  refine lv_iload_n hx hb dX11_digest_6 rfl (lv_at hl 0 rfl) ?_
  refine lv_bipush (v := 9) hx hb dX11_digest_7 (by decide) ?_
  refine lv_icmp_gt (tgt := 31) hx hb dX11_digest_9 (by decide) (fun c_16 => absurd c_16 (by decide)) (fun _ => ?_)
  refine lv_ldc2 (v := 31) hx hb hown (hts _ q_1423) dX11_digest_12 ?_
  refine lv_lload_n hx hb dX11_digest_15 rfl (lv_at hl 1 rfl) ?_
  refine lv_lmul hx hb dX11_digest_16 ?_
  refine lv_topkl (v := 15087562577) (by decide) ?_
  refine lv_aload_n hx hb dX11_digest_17 rfl (lv_at hl 2 rfl) ?_
  refine lv_iload_n hx hb dX11_digest_18 rfl (lv_at hl 0 rfl) ?_
  refine kVi (As := [.int 5]) (rest := [.long 15087562577]) (wr := [(xr, .inr (8, [.int 6, .int 0, .ref xrs, .ref xrp])), (xrs, .inl (cI g, 6, .inl (fun _ => (-1)))), (xt, .inr (8, [.int 4, .int 32, .ref xts, .ref xtp])), (xts, .inl (cI g, 6, .inl (fun _ => (-1)))), (xg, .inr (3, [.ref xgs, .ref xgh])), (xgs, .inl (cI g, 64, .inl (fun _ => 0))), (xgh, .inl (cI g, 64, .inl (fun _ => 0))), (xd, .inr (2, [.ref xda0, .ref xda1, .ref xda2, .ref xda3, .ref xda4, .ref xda5, .int 0, .int 0])), (xb, .inr (1, [.ref xba0, .ref xba1, .ref xba2, .ref xba3, .ref xba4, .ref xba5, .ref xba6, .ref xba7, .ref xba8, .ref xba9, .ref xba10, .ref xba11, .int 0, .int 0])), (xp, .inr (5, [.ref xpa0, .ref xpa1, .ref xpa2, .ref xpa3, .int 0])), (xu, .inr (7, [.ref xua0, .ref xua1, .ref xua2, .int 0]))]) X (c_X11_count5 l g x0 xr xt xg xb xp xu xm xd xw xh xa xs xf xma0 xma1 xma2 xma3 xma4 xma5 xma6 xma7 xma8 xma9 xma10 xma11 xma12) ok_X11_count okv_X11_count q_1424 rfl hK hP hD hS hA hZ hl.1 [11, 7] [0, 1, 2, 3, 4, 5, 6, 8, 9, 10, 12] rfl rfl rfl rfl rfl 0 11 rfl rfl rfl (Nat.le_of_ble_eq_true rfl) ⟨Nat.le_of_ble_eq_true rfl, Nat.le_of_ble_eq_true rfl⟩ dX11_digest_19 ⟨Nat.le_of_ble_eq_true rfl, Nat.le_of_ble_eq_true rfl⟩ (fun r_17 w1 H locs hw_18 hP hD hS => ?_)
  rw [sp_X11_count5] at hw_18
  obtain ⟨e1, e2⟩ := Prod.mk.inj hw_18
  subst e1; subst e2
  have hP : va_P g.1 classes [(xr, .inr (8, [.int 6, .int 0, .ref xrs, .ref xrp])), (xrs, .inl (cI g, 6, .inl (fun _ => (-1)))), (xt, .inr (8, [.int 4, .int 32, .ref xts, .ref xtp])), (xts, .inl (cI g, 6, .inl (fun _ => (-1)))), (xg, .inr (3, [.ref xgs, .ref xgh])), (xgs, .inl (cI g, 64, .inl (fun _ => 0))), (xgh, .inl (cI g, 64, .inl (fun _ => 0))), (xd, .inr (2, [.ref xda0, .ref xda1, .ref xda2, .ref xda3, .ref xda4, .ref xda5, .int 0, .int 0])), (xb, .inr (1, [.ref xba0, .ref xba1, .ref xba2, .ref xba3, .ref xba4, .ref xba5, .ref xba6, .ref xba7, .ref xba8, .ref xba9, .ref xba10, .ref xba11, .int 0, .int 0])), (xp, .inr (5, [.ref xpa0, .ref xpa1, .ref xpa2, .ref xpa3, .int 0])), (xu, .inr (7, [.ref xua0, .ref xua1, .ref xua2, .int 0])), (x0, .inr (11, [.ref xr, .ref xt, .ref xg, .ref xb, .ref xp, .ref xu, .ref xm, .ref xd, .ref xw, .ref xh, .ref xa, .ref xs, .ref xf, .int 0, .int 0, .long 0, .long 0, .int 0])), (xm, .inr (4, [.ref xma0, .ref xma1, .ref xma2, .ref xma3, .ref xma4, .ref xma5, .ref xma6, .ref xma7, .ref xma8, .ref xma9, .ref xma10, .ref xma11, .ref xma12, .int 0]))] H := hP
  have hD : va_D A [(xr, .inr (8, [.int 6, .int 0, .ref xrs, .ref xrp])), (xrs, .inl (cI g, 6, .inl (fun _ => (-1)))), (xt, .inr (8, [.int 4, .int 32, .ref xts, .ref xtp])), (xts, .inl (cI g, 6, .inl (fun _ => (-1)))), (xg, .inr (3, [.ref xgs, .ref xgh])), (xgs, .inl (cI g, 64, .inl (fun _ => 0))), (xgh, .inl (cI g, 64, .inl (fun _ => 0))), (xd, .inr (2, [.ref xda0, .ref xda1, .ref xda2, .ref xda3, .ref xda4, .ref xda5, .int 0, .int 0])), (xb, .inr (1, [.ref xba0, .ref xba1, .ref xba2, .ref xba3, .ref xba4, .ref xba5, .ref xba6, .ref xba7, .ref xba8, .ref xba9, .ref xba10, .ref xba11, .int 0, .int 0])), (xp, .inr (5, [.ref xpa0, .ref xpa1, .ref xpa2, .ref xpa3, .int 0])), (xu, .inr (7, [.ref xua0, .ref xua1, .ref xua2, .int 0])), (x0, .inr (11, [.ref xr, .ref xt, .ref xg, .ref xb, .ref xp, .ref xu, .ref xm, .ref xd, .ref xw, .ref xh, .ref xa, .ref xs, .ref xf, .int 0, .int 0, .long 0, .long 0, .int 0])), (xm, .inr (4, [.ref xma0, .ref xma1, .ref xma2, .ref xma3, .ref xma4, .ref xma5, .ref xma6, .ref xma7, .ref xma8, .ref xma9, .ref xma10, .ref xma11, .ref xma12, .int 0]))] := hD
  refine lv_i2l (v := 0) hx hb dX11_digest_22 (by decide) ?_
  refine lv_ladd hx hb dX11_digest_23 ?_
  refine lv_topkl (v := 15087562577) (by decide) ?_
  refine lv_lstore_n (lv' := [(1, .long 15087562577), (3, .int 5), (0, .ref x0)]) hx hb dX11_digest_24 rfl hl (by decide) rfl (fun ls hl => ?_)
  refine lv_iinc (v := 6) (lv' := [(3, .int 6), (1, .long 15087562577), (0, .ref x0)]) hx hb dX11_digest_25 hl (k := 1) rfl (by decide) (by decide) rfl (fun ls hl => ?_)
  refine lv_goto (tgt := 6) hx hb dX11_digest_28 (by decide) ?_
  refine lv_iload_n hx hb dX11_digest_6 rfl (lv_at hl 0 rfl) ?_
  refine lv_bipush (v := 9) hx hb dX11_digest_7 (by decide) ?_
  refine lv_icmp_gt (tgt := 31) hx hb dX11_digest_9 (by decide) (fun c_19 => absurd c_19 (by decide)) (fun _ => ?_)
  refine lv_ldc2 (v := 31) hx hb hown (hts _ q_1423) dX11_digest_12 ?_
  refine lv_lload_n hx hb dX11_digest_15 rfl (lv_at hl 1 rfl) ?_
  refine lv_lmul hx hb dX11_digest_16 ?_
  refine lv_topkl (v := 467714439887) (by decide) ?_
  refine lv_aload_n hx hb dX11_digest_17 rfl (lv_at hl 2 rfl) ?_
  refine lv_iload_n hx hb dX11_digest_18 rfl (lv_at hl 0 rfl) ?_
  refine kVi (As := [.int 6]) (rest := [.long 467714439887]) (wr := [(xr, .inr (8, [.int 6, .int 0, .ref xrs, .ref xrp])), (xrs, .inl (cI g, 6, .inl (fun _ => (-1)))), (xt, .inr (8, [.int 4, .int 32, .ref xts, .ref xtp])), (xts, .inl (cI g, 6, .inl (fun _ => (-1)))), (xg, .inr (3, [.ref xgs, .ref xgh])), (xgs, .inl (cI g, 64, .inl (fun _ => 0))), (xgh, .inl (cI g, 64, .inl (fun _ => 0))), (xb, .inr (1, [.ref xba0, .ref xba1, .ref xba2, .ref xba3, .ref xba4, .ref xba5, .ref xba6, .ref xba7, .ref xba8, .ref xba9, .ref xba10, .ref xba11, .int 0, .int 0])), (xp, .inr (5, [.ref xpa0, .ref xpa1, .ref xpa2, .ref xpa3, .int 0])), (xu, .inr (7, [.ref xua0, .ref xua1, .ref xua2, .int 0])), (xm, .inr (4, [.ref xma0, .ref xma1, .ref xma2, .ref xma3, .ref xma4, .ref xma5, .ref xma6, .ref xma7, .ref xma8, .ref xma9, .ref xma10, .ref xma11, .ref xma12, .int 0]))]) X (c_X11_count6 l g x0 xr xt xg xb xp xu xm xd xw xh xa xs xf xda0 xda1 xda2 xda3 xda4 xda5) ok_X11_count okv_X11_count q_1424 rfl hK hP hD hS hA hZ hl.1 [11, 7] [0, 1, 2, 3, 4, 5, 6, 8, 9, 10, 12] rfl rfl rfl rfl rfl 0 11 rfl rfl rfl (Nat.le_of_ble_eq_true rfl) ⟨Nat.le_of_ble_eq_true rfl, Nat.le_of_ble_eq_true rfl⟩ dX11_digest_19 ⟨Nat.le_of_ble_eq_true rfl, Nat.le_of_ble_eq_true rfl⟩ (fun r_20 w1 H locs hw_21 hP hD hS => ?_)
  rw [sp_X11_count6] at hw_21
  obtain ⟨e1, e2⟩ := Prod.mk.inj hw_21
  subst e1; subst e2
  have hP : va_P g.1 classes [(xr, .inr (8, [.int 6, .int 0, .ref xrs, .ref xrp])), (xrs, .inl (cI g, 6, .inl (fun _ => (-1)))), (xt, .inr (8, [.int 4, .int 32, .ref xts, .ref xtp])), (xts, .inl (cI g, 6, .inl (fun _ => (-1)))), (xg, .inr (3, [.ref xgs, .ref xgh])), (xgs, .inl (cI g, 64, .inl (fun _ => 0))), (xgh, .inl (cI g, 64, .inl (fun _ => 0))), (xb, .inr (1, [.ref xba0, .ref xba1, .ref xba2, .ref xba3, .ref xba4, .ref xba5, .ref xba6, .ref xba7, .ref xba8, .ref xba9, .ref xba10, .ref xba11, .int 0, .int 0])), (xp, .inr (5, [.ref xpa0, .ref xpa1, .ref xpa2, .ref xpa3, .int 0])), (xu, .inr (7, [.ref xua0, .ref xua1, .ref xua2, .int 0])), (xm, .inr (4, [.ref xma0, .ref xma1, .ref xma2, .ref xma3, .ref xma4, .ref xma5, .ref xma6, .ref xma7, .ref xma8, .ref xma9, .ref xma10, .ref xma11, .ref xma12, .int 0])), (x0, .inr (11, [.ref xr, .ref xt, .ref xg, .ref xb, .ref xp, .ref xu, .ref xm, .ref xd, .ref xw, .ref xh, .ref xa, .ref xs, .ref xf, .int 0, .int 0, .long 0, .long 0, .int 0])), (xd, .inr (2, [.ref xda0, .ref xda1, .ref xda2, .ref xda3, .ref xda4, .ref xda5, .int 0, .int 0]))] H := hP
  have hD : va_D A [(xr, .inr (8, [.int 6, .int 0, .ref xrs, .ref xrp])), (xrs, .inl (cI g, 6, .inl (fun _ => (-1)))), (xt, .inr (8, [.int 4, .int 32, .ref xts, .ref xtp])), (xts, .inl (cI g, 6, .inl (fun _ => (-1)))), (xg, .inr (3, [.ref xgs, .ref xgh])), (xgs, .inl (cI g, 64, .inl (fun _ => 0))), (xgh, .inl (cI g, 64, .inl (fun _ => 0))), (xb, .inr (1, [.ref xba0, .ref xba1, .ref xba2, .ref xba3, .ref xba4, .ref xba5, .ref xba6, .ref xba7, .ref xba8, .ref xba9, .ref xba10, .ref xba11, .int 0, .int 0])), (xp, .inr (5, [.ref xpa0, .ref xpa1, .ref xpa2, .ref xpa3, .int 0])), (xu, .inr (7, [.ref xua0, .ref xua1, .ref xua2, .int 0])), (xm, .inr (4, [.ref xma0, .ref xma1, .ref xma2, .ref xma3, .ref xma4, .ref xma5, .ref xma6, .ref xma7, .ref xma8, .ref xma9, .ref xma10, .ref xma11, .ref xma12, .int 0])), (x0, .inr (11, [.ref xr, .ref xt, .ref xg, .ref xb, .ref xp, .ref xu, .ref xm, .ref xd, .ref xw, .ref xh, .ref xa, .ref xs, .ref xf, .int 0, .int 0, .long 0, .long 0, .int 0])), (xd, .inr (2, [.ref xda0, .ref xda1, .ref xda2, .ref xda3, .ref xda4, .ref xda5, .int 0, .int 0]))] := hD
  refine lv_i2l (v := 0) hx hb dX11_digest_22 (by decide) ?_
  refine lv_ladd hx hb dX11_digest_23 ?_
  refine lv_topkl (v := 467714439887) (by decide) ?_
  refine lv_lstore_n (lv' := [(1, .long 467714439887), (3, .int 6), (0, .ref x0)]) hx hb dX11_digest_24 rfl hl (by decide) rfl (fun ls hl => ?_)
  refine lv_iinc (v := 7) (lv' := [(3, .int 7), (1, .long 467714439887), (0, .ref x0)]) hx hb dX11_digest_25 hl (k := 1) rfl (by decide) (by decide) rfl (fun ls hl => ?_)
  refine lv_goto (tgt := 6) hx hb dX11_digest_28 (by decide) ?_
  refine lv_iload_n hx hb dX11_digest_6 rfl (lv_at hl 0 rfl) ?_
  refine lv_bipush (v := 9) hx hb dX11_digest_7 (by decide) ?_
  refine lv_icmp_gt (tgt := 31) hx hb dX11_digest_9 (by decide) (fun c_22 => absurd c_22 (by decide)) (fun _ => ?_)
  refine lv_ldc2 (v := 31) hx hb hown (hts _ q_1423) dX11_digest_12 ?_
  refine lv_lload_n hx hb dX11_digest_15 rfl (lv_at hl 1 rfl) ?_
  refine lv_lmul hx hb dX11_digest_16 ?_
  refine lv_topkl (v := 14499147636497) (by decide) ?_
  refine lv_aload_n hx hb dX11_digest_17 rfl (lv_at hl 2 rfl) ?_
  refine lv_iload_n hx hb dX11_digest_18 rfl (lv_at hl 0 rfl) ?_
  refine kVi (As := [.int 7]) (rest := [.long 14499147636497]) (wr := [(xr, .inr (8, [.int 6, .int 0, .ref xrs, .ref xrp])), (xrs, .inl (cI g, 6, .inl (fun _ => (-1)))), (xt, .inr (8, [.int 4, .int 32, .ref xts, .ref xtp])), (xts, .inl (cI g, 6, .inl (fun _ => (-1)))), (xg, .inr (3, [.ref xgs, .ref xgh])), (xgs, .inl (cI g, 64, .inl (fun _ => 0))), (xgh, .inl (cI g, 64, .inl (fun _ => 0))), (xp, .inr (5, [.ref xpa0, .ref xpa1, .ref xpa2, .ref xpa3, .int 0])), (xu, .inr (7, [.ref xua0, .ref xua1, .ref xua2, .int 0])), (xm, .inr (4, [.ref xma0, .ref xma1, .ref xma2, .ref xma3, .ref xma4, .ref xma5, .ref xma6, .ref xma7, .ref xma8, .ref xma9, .ref xma10, .ref xma11, .ref xma12, .int 0])), (xd, .inr (2, [.ref xda0, .ref xda1, .ref xda2, .ref xda3, .ref xda4, .ref xda5, .int 0, .int 0]))]) X (c_X11_count7 l g x0 xr xt xg xb xp xu xm xd xw xh xa xs xf xba0 xba1 xba2 xba3 xba4 xba5 xba6 xba7 xba8 xba9 xba10 xba11) ok_X11_count okv_X11_count q_1424 rfl hK hP hD hS hA hZ hl.1 [11, 7] [0, 1, 2, 3, 4, 5, 6, 8, 9, 10, 12] rfl rfl rfl rfl rfl 0 11 rfl rfl rfl (Nat.le_of_ble_eq_true rfl) ⟨Nat.le_of_ble_eq_true rfl, Nat.le_of_ble_eq_true rfl⟩ dX11_digest_19 ⟨Nat.le_of_ble_eq_true rfl, Nat.le_of_ble_eq_true rfl⟩ (fun r_23 w1 H locs hw_24 hP hD hS => ?_)
  rw [sp_X11_count7] at hw_24
  obtain ⟨e1, e2⟩ := Prod.mk.inj hw_24
  subst e1; subst e2
  have hP : va_P g.1 classes [(xr, .inr (8, [.int 6, .int 0, .ref xrs, .ref xrp])), (xrs, .inl (cI g, 6, .inl (fun _ => (-1)))), (xt, .inr (8, [.int 4, .int 32, .ref xts, .ref xtp])), (xts, .inl (cI g, 6, .inl (fun _ => (-1)))), (xg, .inr (3, [.ref xgs, .ref xgh])), (xgs, .inl (cI g, 64, .inl (fun _ => 0))), (xgh, .inl (cI g, 64, .inl (fun _ => 0))), (xp, .inr (5, [.ref xpa0, .ref xpa1, .ref xpa2, .ref xpa3, .int 0])), (xu, .inr (7, [.ref xua0, .ref xua1, .ref xua2, .int 0])), (xm, .inr (4, [.ref xma0, .ref xma1, .ref xma2, .ref xma3, .ref xma4, .ref xma5, .ref xma6, .ref xma7, .ref xma8, .ref xma9, .ref xma10, .ref xma11, .ref xma12, .int 0])), (xd, .inr (2, [.ref xda0, .ref xda1, .ref xda2, .ref xda3, .ref xda4, .ref xda5, .int 0, .int 0])), (x0, .inr (11, [.ref xr, .ref xt, .ref xg, .ref xb, .ref xp, .ref xu, .ref xm, .ref xd, .ref xw, .ref xh, .ref xa, .ref xs, .ref xf, .int 0, .int 0, .long 0, .long 0, .int 0])), (xb, .inr (1, [.ref xba0, .ref xba1, .ref xba2, .ref xba3, .ref xba4, .ref xba5, .ref xba6, .ref xba7, .ref xba8, .ref xba9, .ref xba10, .ref xba11, .int 0, .int 0]))] H := hP
  have hD : va_D A [(xr, .inr (8, [.int 6, .int 0, .ref xrs, .ref xrp])), (xrs, .inl (cI g, 6, .inl (fun _ => (-1)))), (xt, .inr (8, [.int 4, .int 32, .ref xts, .ref xtp])), (xts, .inl (cI g, 6, .inl (fun _ => (-1)))), (xg, .inr (3, [.ref xgs, .ref xgh])), (xgs, .inl (cI g, 64, .inl (fun _ => 0))), (xgh, .inl (cI g, 64, .inl (fun _ => 0))), (xp, .inr (5, [.ref xpa0, .ref xpa1, .ref xpa2, .ref xpa3, .int 0])), (xu, .inr (7, [.ref xua0, .ref xua1, .ref xua2, .int 0])), (xm, .inr (4, [.ref xma0, .ref xma1, .ref xma2, .ref xma3, .ref xma4, .ref xma5, .ref xma6, .ref xma7, .ref xma8, .ref xma9, .ref xma10, .ref xma11, .ref xma12, .int 0])), (xd, .inr (2, [.ref xda0, .ref xda1, .ref xda2, .ref xda3, .ref xda4, .ref xda5, .int 0, .int 0])), (x0, .inr (11, [.ref xr, .ref xt, .ref xg, .ref xb, .ref xp, .ref xu, .ref xm, .ref xd, .ref xw, .ref xh, .ref xa, .ref xs, .ref xf, .int 0, .int 0, .long 0, .long 0, .int 0])), (xb, .inr (1, [.ref xba0, .ref xba1, .ref xba2, .ref xba3, .ref xba4, .ref xba5, .ref xba6, .ref xba7, .ref xba8, .ref xba9, .ref xba10, .ref xba11, .int 0, .int 0]))] := hD
  refine lv_i2l (v := 0) hx hb dX11_digest_22 (by decide) ?_
  refine lv_ladd hx hb dX11_digest_23 ?_
  refine lv_topkl (v := 14499147636497) (by decide) ?_
  refine lv_lstore_n (lv' := [(1, .long 14499147636497), (3, .int 7), (0, .ref x0)]) hx hb dX11_digest_24 rfl hl (by decide) rfl (fun ls hl => ?_)
  refine lv_iinc (v := 8) (lv' := [(3, .int 8), (1, .long 14499147636497), (0, .ref x0)]) hx hb dX11_digest_25 hl (k := 1) rfl (by decide) (by decide) rfl (fun ls hl => ?_)
  refine lv_goto (tgt := 6) hx hb dX11_digest_28 (by decide) ?_
  refine lv_iload_n hx hb dX11_digest_6 rfl (lv_at hl 0 rfl) ?_
  refine lv_bipush (v := 9) hx hb dX11_digest_7 (by decide) ?_
  refine lv_icmp_gt (tgt := 31) hx hb dX11_digest_9 (by decide) (fun c_25 => absurd c_25 (by decide)) (fun _ => ?_)
  refine lv_ldc2 (v := 31) hx hb hown (hts _ q_1423) dX11_digest_12 ?_
  refine lv_lload_n hx hb dX11_digest_15 rfl (lv_at hl 1 rfl) ?_
  refine lv_lmul hx hb dX11_digest_16 ?_
  refine lv_topkl (v := 449473576731407) (by decide) ?_
  refine lv_aload_n hx hb dX11_digest_17 rfl (lv_at hl 2 rfl) ?_
  refine lv_iload_n hx hb dX11_digest_18 rfl (lv_at hl 0 rfl) ?_
  refine kVi (As := [.int 8]) (rest := [.long 449473576731407]) (wr := [(xt, .inr (8, [.int 4, .int 32, .ref xts, .ref xtp])), (xts, .inl (cI g, 6, .inl (fun _ => (-1)))), (xg, .inr (3, [.ref xgs, .ref xgh])), (xgs, .inl (cI g, 64, .inl (fun _ => 0))), (xgh, .inl (cI g, 64, .inl (fun _ => 0))), (xp, .inr (5, [.ref xpa0, .ref xpa1, .ref xpa2, .ref xpa3, .int 0])), (xu, .inr (7, [.ref xua0, .ref xua1, .ref xua2, .int 0])), (xm, .inr (4, [.ref xma0, .ref xma1, .ref xma2, .ref xma3, .ref xma4, .ref xma5, .ref xma6, .ref xma7, .ref xma8, .ref xma9, .ref xma10, .ref xma11, .ref xma12, .int 0])), (xd, .inr (2, [.ref xda0, .ref xda1, .ref xda2, .ref xda3, .ref xda4, .ref xda5, .int 0, .int 0])), (xb, .inr (1, [.ref xba0, .ref xba1, .ref xba2, .ref xba3, .ref xba4, .ref xba5, .ref xba6, .ref xba7, .ref xba8, .ref xba9, .ref xba10, .ref xba11, .int 0, .int 0]))]) X (c_X11_count8 l g x0 xr xt xg xb xp xu xm xd xw xh xa xs xf xrs xrp) ok_X11_count okv_X11_count q_1424 rfl hK hP hD hS hA hZ hl.1 [11, 0, 1] [2, 3, 4, 5, 6, 7, 8, 9, 10, 12] rfl rfl rfl rfl rfl 0 11 rfl rfl rfl (Nat.le_of_ble_eq_true rfl) ⟨Nat.le_of_ble_eq_true rfl, Nat.le_of_ble_eq_true rfl⟩ dX11_digest_19 ⟨Nat.le_of_ble_eq_true rfl, Nat.le_of_ble_eq_true rfl⟩ (fun r_26 w1 H locs hw_27 hP hD hS => ?_)
  rw [sp_X11_count8] at hw_27
  obtain ⟨e1, e2⟩ := Prod.mk.inj hw_27
  subst e1; subst e2
  have hP : va_P g.1 classes [(xt, .inr (8, [.int 4, .int 32, .ref xts, .ref xtp])), (xts, .inl (cI g, 6, .inl (fun _ => (-1)))), (xg, .inr (3, [.ref xgs, .ref xgh])), (xgs, .inl (cI g, 64, .inl (fun _ => 0))), (xgh, .inl (cI g, 64, .inl (fun _ => 0))), (xp, .inr (5, [.ref xpa0, .ref xpa1, .ref xpa2, .ref xpa3, .int 0])), (xu, .inr (7, [.ref xua0, .ref xua1, .ref xua2, .int 0])), (xm, .inr (4, [.ref xma0, .ref xma1, .ref xma2, .ref xma3, .ref xma4, .ref xma5, .ref xma6, .ref xma7, .ref xma8, .ref xma9, .ref xma10, .ref xma11, .ref xma12, .int 0])), (xd, .inr (2, [.ref xda0, .ref xda1, .ref xda2, .ref xda3, .ref xda4, .ref xda5, .int 0, .int 0])), (xb, .inr (1, [.ref xba0, .ref xba1, .ref xba2, .ref xba3, .ref xba4, .ref xba5, .ref xba6, .ref xba7, .ref xba8, .ref xba9, .ref xba10, .ref xba11, .int 0, .int 0])), (x0, .inr (11, [.ref xr, .ref xt, .ref xg, .ref xb, .ref xp, .ref xu, .ref xm, .ref xd, .ref xw, .ref xh, .ref xa, .ref xs, .ref xf, .int 0, .int 0, .long 0, .long 0, .int 0])), (xr, .inr (8, [.int 6, .int 0, .ref xrs, .ref xrp])), (xrs, .inl (cI g, 6, .inl (fun _ => (-1))))] H := hP
  have hD : va_D A [(xt, .inr (8, [.int 4, .int 32, .ref xts, .ref xtp])), (xts, .inl (cI g, 6, .inl (fun _ => (-1)))), (xg, .inr (3, [.ref xgs, .ref xgh])), (xgs, .inl (cI g, 64, .inl (fun _ => 0))), (xgh, .inl (cI g, 64, .inl (fun _ => 0))), (xp, .inr (5, [.ref xpa0, .ref xpa1, .ref xpa2, .ref xpa3, .int 0])), (xu, .inr (7, [.ref xua0, .ref xua1, .ref xua2, .int 0])), (xm, .inr (4, [.ref xma0, .ref xma1, .ref xma2, .ref xma3, .ref xma4, .ref xma5, .ref xma6, .ref xma7, .ref xma8, .ref xma9, .ref xma10, .ref xma11, .ref xma12, .int 0])), (xd, .inr (2, [.ref xda0, .ref xda1, .ref xda2, .ref xda3, .ref xda4, .ref xda5, .int 0, .int 0])), (xb, .inr (1, [.ref xba0, .ref xba1, .ref xba2, .ref xba3, .ref xba4, .ref xba5, .ref xba6, .ref xba7, .ref xba8, .ref xba9, .ref xba10, .ref xba11, .int 0, .int 0])), (x0, .inr (11, [.ref xr, .ref xt, .ref xg, .ref xb, .ref xp, .ref xu, .ref xm, .ref xd, .ref xw, .ref xh, .ref xa, .ref xs, .ref xf, .int 0, .int 0, .long 0, .long 0, .int 0])), (xr, .inr (8, [.int 6, .int 0, .ref xrs, .ref xrp])), (xrs, .inl (cI g, 6, .inl (fun _ => (-1))))] := hD
  refine lv_i2l (v := 0) hx hb dX11_digest_22 (by decide) ?_
  refine lv_ladd hx hb dX11_digest_23 ?_
  refine lv_topkl (v := 449473576731407) (by decide) ?_
  refine lv_lstore_n (lv' := [(1, .long 449473576731407), (3, .int 8), (0, .ref x0)]) hx hb dX11_digest_24 rfl hl (by decide) rfl (fun ls hl => ?_)
  refine lv_iinc (v := 9) (lv' := [(3, .int 9), (1, .long 449473576731407), (0, .ref x0)]) hx hb dX11_digest_25 hl (k := 1) rfl (by decide) (by decide) rfl (fun ls hl => ?_)
  refine lv_goto (tgt := 6) hx hb dX11_digest_28 (by decide) ?_
  refine lv_iload_n hx hb dX11_digest_6 rfl (lv_at hl 0 rfl) ?_
  refine lv_bipush (v := 9) hx hb dX11_digest_7 (by decide) ?_
  refine lv_icmp_gt (tgt := 31) hx hb dX11_digest_9 (by decide) (fun c_28 => absurd c_28 (by decide)) (fun _ => ?_)
  refine lv_ldc2 (v := 31) hx hb hown (hts _ q_1423) dX11_digest_12 ?_
  refine lv_lload_n hx hb dX11_digest_15 rfl (lv_at hl 1 rfl) ?_
  refine lv_lmul hx hb dX11_digest_16 ?_
  refine lv_topkl (v := 13933680878673617) (by decide) ?_
  refine lv_aload_n hx hb dX11_digest_17 rfl (lv_at hl 2 rfl) ?_
  refine lv_iload_n hx hb dX11_digest_18 rfl (lv_at hl 0 rfl) ?_
  refine kVi (As := [.int 9]) (rest := [.long 13933680878673617]) (wr := [(xg, .inr (3, [.ref xgs, .ref xgh])), (xgs, .inl (cI g, 64, .inl (fun _ => 0))), (xgh, .inl (cI g, 64, .inl (fun _ => 0))), (xp, .inr (5, [.ref xpa0, .ref xpa1, .ref xpa2, .ref xpa3, .int 0])), (xu, .inr (7, [.ref xua0, .ref xua1, .ref xua2, .int 0])), (xm, .inr (4, [.ref xma0, .ref xma1, .ref xma2, .ref xma3, .ref xma4, .ref xma5, .ref xma6, .ref xma7, .ref xma8, .ref xma9, .ref xma10, .ref xma11, .ref xma12, .int 0])), (xd, .inr (2, [.ref xda0, .ref xda1, .ref xda2, .ref xda3, .ref xda4, .ref xda5, .int 0, .int 0])), (xb, .inr (1, [.ref xba0, .ref xba1, .ref xba2, .ref xba3, .ref xba4, .ref xba5, .ref xba6, .ref xba7, .ref xba8, .ref xba9, .ref xba10, .ref xba11, .int 0, .int 0])), (xr, .inr (8, [.int 6, .int 0, .ref xrs, .ref xrp])), (xrs, .inl (cI g, 6, .inl (fun _ => (-1))))]) X (c_X11_count9 l g x0 xr xt xg xb xp xu xm xd xw xh xa xs xf xts xtp) ok_X11_count okv_X11_count q_1424 rfl hK hP hD hS hA hZ hl.1 [10, 0, 1] [2, 3, 4, 5, 6, 7, 8, 9, 11, 12] rfl rfl rfl rfl rfl 0 11 rfl rfl rfl (Nat.le_of_ble_eq_true rfl) ⟨Nat.le_of_ble_eq_true rfl, Nat.le_of_ble_eq_true rfl⟩ dX11_digest_19 ⟨Nat.le_of_ble_eq_true rfl, Nat.le_of_ble_eq_true rfl⟩ (fun r_29 w1 H locs hw_30 hP hD hS => ?_)
  rw [sp_X11_count9] at hw_30
  obtain ⟨e1, e2⟩ := Prod.mk.inj hw_30
  subst e1; subst e2
  have hP : va_P g.1 classes [(xg, .inr (3, [.ref xgs, .ref xgh])), (xgs, .inl (cI g, 64, .inl (fun _ => 0))), (xgh, .inl (cI g, 64, .inl (fun _ => 0))), (xp, .inr (5, [.ref xpa0, .ref xpa1, .ref xpa2, .ref xpa3, .int 0])), (xu, .inr (7, [.ref xua0, .ref xua1, .ref xua2, .int 0])), (xm, .inr (4, [.ref xma0, .ref xma1, .ref xma2, .ref xma3, .ref xma4, .ref xma5, .ref xma6, .ref xma7, .ref xma8, .ref xma9, .ref xma10, .ref xma11, .ref xma12, .int 0])), (xd, .inr (2, [.ref xda0, .ref xda1, .ref xda2, .ref xda3, .ref xda4, .ref xda5, .int 0, .int 0])), (xb, .inr (1, [.ref xba0, .ref xba1, .ref xba2, .ref xba3, .ref xba4, .ref xba5, .ref xba6, .ref xba7, .ref xba8, .ref xba9, .ref xba10, .ref xba11, .int 0, .int 0])), (xr, .inr (8, [.int 6, .int 0, .ref xrs, .ref xrp])), (xrs, .inl (cI g, 6, .inl (fun _ => (-1)))), (x0, .inr (11, [.ref xr, .ref xt, .ref xg, .ref xb, .ref xp, .ref xu, .ref xm, .ref xd, .ref xw, .ref xh, .ref xa, .ref xs, .ref xf, .int 0, .int 0, .long 0, .long 0, .int 0])), (xt, .inr (8, [.int 4, .int 32, .ref xts, .ref xtp])), (xts, .inl (cI g, 6, .inl (fun _ => (-1))))] H := hP
  have hD : va_D A [(xg, .inr (3, [.ref xgs, .ref xgh])), (xgs, .inl (cI g, 64, .inl (fun _ => 0))), (xgh, .inl (cI g, 64, .inl (fun _ => 0))), (xp, .inr (5, [.ref xpa0, .ref xpa1, .ref xpa2, .ref xpa3, .int 0])), (xu, .inr (7, [.ref xua0, .ref xua1, .ref xua2, .int 0])), (xm, .inr (4, [.ref xma0, .ref xma1, .ref xma2, .ref xma3, .ref xma4, .ref xma5, .ref xma6, .ref xma7, .ref xma8, .ref xma9, .ref xma10, .ref xma11, .ref xma12, .int 0])), (xd, .inr (2, [.ref xda0, .ref xda1, .ref xda2, .ref xda3, .ref xda4, .ref xda5, .int 0, .int 0])), (xb, .inr (1, [.ref xba0, .ref xba1, .ref xba2, .ref xba3, .ref xba4, .ref xba5, .ref xba6, .ref xba7, .ref xba8, .ref xba9, .ref xba10, .ref xba11, .int 0, .int 0])), (xr, .inr (8, [.int 6, .int 0, .ref xrs, .ref xrp])), (xrs, .inl (cI g, 6, .inl (fun _ => (-1)))), (x0, .inr (11, [.ref xr, .ref xt, .ref xg, .ref xb, .ref xp, .ref xu, .ref xm, .ref xd, .ref xw, .ref xh, .ref xa, .ref xs, .ref xf, .int 0, .int 0, .long 0, .long 0, .int 0])), (xt, .inr (8, [.int 4, .int 32, .ref xts, .ref xtp])), (xts, .inl (cI g, 6, .inl (fun _ => (-1))))] := hD
  refine lv_i2l (v := 0) hx hb dX11_digest_22 (by decide) ?_
  refine lv_ladd hx hb dX11_digest_23 ?_
  refine lv_topkl (v := 13933680878673617) (by decide) ?_
  refine lv_lstore_n (lv' := [(1, .long 13933680878673617), (3, .int 9), (0, .ref x0)]) hx hb dX11_digest_24 rfl hl (by decide) rfl (fun ls hl => ?_)
  refine lv_iinc (v := 10) (lv' := [(3, .int 10), (1, .long 13933680878673617), (0, .ref x0)]) hx hb dX11_digest_25 hl (k := 1) rfl (by decide) (by decide) rfl (fun ls hl => ?_)
  refine lv_goto (tgt := 6) hx hb dX11_digest_28 (by decide) ?_
  refine lv_iload_n hx hb dX11_digest_6 rfl (lv_at hl 0 rfl) ?_
  refine lv_bipush (v := 9) hx hb dX11_digest_7 (by decide) ?_
  refine lv_icmp_gt (tgt := 31) hx hb dX11_digest_9 (by decide) (fun _ => ?_) (fun c_31 => absurd (by decide) c_31)
  refine lv_aload_n hx hb dX11_digest_31 rfl (lv_at hl 2 rfl) ?_
  refine va_get (D := g.1) (ci := 11) (v := .ref xg) (C := RX11) (T := TX11) (N := 18) hx hb hts fw_X11 hown hK hP 10 rfl rfl 2 (by decide) (hts _ q_460) (fun _ h9 => h9) rfl dX11_digest_32 ?_
  refine lv_lload_n hx hb dX11_digest_35 rfl (lv_at hl 1 rfl) ?_
  refine kVl (As := [.long 13933680878673617]) (rest := []) (wr := [(xp, .inr (5, [.ref xpa0, .ref xpa1, .ref xpa2, .ref xpa3, .int 0])), (xu, .inr (7, [.ref xua0, .ref xua1, .ref xua2, .int 0])), (xm, .inr (4, [.ref xma0, .ref xma1, .ref xma2, .ref xma3, .ref xma4, .ref xma5, .ref xma6, .ref xma7, .ref xma8, .ref xma9, .ref xma10, .ref xma11, .ref xma12, .int 0])), (xd, .inr (2, [.ref xda0, .ref xda1, .ref xda2, .ref xda3, .ref xda4, .ref xda5, .int 0, .int 0])), (xb, .inr (1, [.ref xba0, .ref xba1, .ref xba2, .ref xba3, .ref xba4, .ref xba5, .ref xba6, .ref xba7, .ref xba8, .ref xba9, .ref xba10, .ref xba11, .int 0, .int 0])), (xr, .inr (8, [.int 6, .int 0, .ref xrs, .ref xrp])), (xrs, .inl (cI g, 6, .inl (fun _ => (-1)))), (x0, .inr (11, [.ref xr, .ref xt, .ref xg, .ref xb, .ref xp, .ref xu, .ref xm, .ref xd, .ref xw, .ref xh, .ref xa, .ref xs, .ref xf, .int 0, .int 0, .long 0, .long 0, .int 0])), (xt, .inr (8, [.int 4, .int 32, .ref xts, .ref xtp])), (xts, .inl (cI g, 6, .inl (fun _ => (-1))))]) X (c_X3_hash l g xg 13933680878673617 xgs xgh) ok_X3_hash okv_X3_hash q_1425 rfl hK hP hD hS hA hZ hl.1 [0, 1, 2] [3, 4, 5, 6, 7, 8, 9, 10, 11, 12] rfl rfl rfl rfl rfl 0 3 rfl rfl rfl (Nat.le_of_ble_eq_true rfl) ⟨Nat.le_of_ble_eq_true rfl, Nat.le_of_ble_eq_true rfl⟩ dX11_digest_36 ⟨Nat.le_of_ble_eq_true rfl, Nat.le_of_ble_eq_true rfl⟩ (fun r_32 w1 H locs hw_33 hP hD hS => ?_)
  rw [sp_X3_hash] at hw_33
  obtain ⟨e1, e2⟩ := Prod.mk.inj hw_33
  subst e1; subst e2
  have hP : va_P g.1 classes [(xp, .inr (5, [.ref xpa0, .ref xpa1, .ref xpa2, .ref xpa3, .int 0])), (xu, .inr (7, [.ref xua0, .ref xua1, .ref xua2, .int 0])), (xm, .inr (4, [.ref xma0, .ref xma1, .ref xma2, .ref xma3, .ref xma4, .ref xma5, .ref xma6, .ref xma7, .ref xma8, .ref xma9, .ref xma10, .ref xma11, .ref xma12, .int 0])), (xd, .inr (2, [.ref xda0, .ref xda1, .ref xda2, .ref xda3, .ref xda4, .ref xda5, .int 0, .int 0])), (xb, .inr (1, [.ref xba0, .ref xba1, .ref xba2, .ref xba3, .ref xba4, .ref xba5, .ref xba6, .ref xba7, .ref xba8, .ref xba9, .ref xba10, .ref xba11, .int 0, .int 0])), (xr, .inr (8, [.int 6, .int 0, .ref xrs, .ref xrp])), (xrs, .inl (cI g, 6, .inl (fun _ => (-1)))), (x0, .inr (11, [.ref xr, .ref xt, .ref xg, .ref xb, .ref xp, .ref xu, .ref xm, .ref xd, .ref xw, .ref xh, .ref xa, .ref xs, .ref xf, .int 0, .int 0, .long 0, .long 0, .int 0])), (xt, .inr (8, [.int 4, .int 32, .ref xts, .ref xtp])), (xts, .inl (cI g, 6, .inl (fun _ => (-1)))), (xg, .inr (3, [.ref xgs, .ref xgh])), (xgs, .inl (cI g, 64, .inl (fun _ => 0))), (xgh, .inl (cI g, 64, .inl (fun _ => 0)))] H := hP
  have hD : va_D A [(xp, .inr (5, [.ref xpa0, .ref xpa1, .ref xpa2, .ref xpa3, .int 0])), (xu, .inr (7, [.ref xua0, .ref xua1, .ref xua2, .int 0])), (xm, .inr (4, [.ref xma0, .ref xma1, .ref xma2, .ref xma3, .ref xma4, .ref xma5, .ref xma6, .ref xma7, .ref xma8, .ref xma9, .ref xma10, .ref xma11, .ref xma12, .int 0])), (xd, .inr (2, [.ref xda0, .ref xda1, .ref xda2, .ref xda3, .ref xda4, .ref xda5, .int 0, .int 0])), (xb, .inr (1, [.ref xba0, .ref xba1, .ref xba2, .ref xba3, .ref xba4, .ref xba5, .ref xba6, .ref xba7, .ref xba8, .ref xba9, .ref xba10, .ref xba11, .int 0, .int 0])), (xr, .inr (8, [.int 6, .int 0, .ref xrs, .ref xrp])), (xrs, .inl (cI g, 6, .inl (fun _ => (-1)))), (x0, .inr (11, [.ref xr, .ref xt, .ref xg, .ref xb, .ref xp, .ref xu, .ref xm, .ref xd, .ref xw, .ref xh, .ref xa, .ref xs, .ref xf, .int 0, .int 0, .long 0, .long 0, .int 0])), (xt, .inr (8, [.int 4, .int 32, .ref xts, .ref xtp])), (xts, .inl (cI g, 6, .inl (fun _ => (-1)))), (xg, .inr (3, [.ref xgs, .ref xgh])), (xgs, .inl (cI g, 64, .inl (fun _ => 0))), (xgh, .inl (cI g, 64, .inl (fun _ => 0)))] := hD
  refine lv_lstore_n (lv' := [(1, .long (gh 13933680878673617 64)), (3, .int 10), (0, .ref x0)]) hx hb dX11_digest_39 rfl hl (by decide) rfl (fun ls hl => ?_)
  refine lv_aload_n hx hb dX11_digest_40 rfl (lv_at hl 2 rfl) ?_
  refine va_get (D := g.1) (ci := 11) (v := .ref xb) (C := RX11) (T := TX11) (N := 18) hx hb hts fw_X11 hown hK hP 7 rfl rfl 3 (by decide) (hts _ q_461) (fun _ h9 => h9) rfl dX11_digest_41 ?_
  refine lv_lload_n hx hb dX11_digest_44 rfl (lv_at hl 0 rfl) ?_
  refine kVl (As := [.long (gh 13933680878673617 64)]) (rest := []) (wr := [(xp, .inr (5, [.ref xpa0, .ref xpa1, .ref xpa2, .ref xpa3, .int 0])), (xu, .inr (7, [.ref xua0, .ref xua1, .ref xua2, .int 0])), (xm, .inr (4, [.ref xma0, .ref xma1, .ref xma2, .ref xma3, .ref xma4, .ref xma5, .ref xma6, .ref xma7, .ref xma8, .ref xma9, .ref xma10, .ref xma11, .ref xma12, .int 0])), (xd, .inr (2, [.ref xda0, .ref xda1, .ref xda2, .ref xda3, .ref xda4, .ref xda5, .int 0, .int 0])), (xr, .inr (8, [.int 6, .int 0, .ref xrs, .ref xrp])), (xrs, .inl (cI g, 6, .inl (fun _ => (-1)))), (x0, .inr (11, [.ref xr, .ref xt, .ref xg, .ref xb, .ref xp, .ref xu, .ref xm, .ref xd, .ref xw, .ref xh, .ref xa, .ref xs, .ref xf, .int 0, .int 0, .long 0, .long 0, .int 0])), (xt, .inr (8, [.int 4, .int 32, .ref xts, .ref xtp])), (xts, .inl (cI g, 6, .inl (fun _ => (-1)))), (xg, .inr (3, [.ref xgs, .ref xgh])), (xgs, .inl (cI g, 64, .inl (fun _ => 0))), (xgh, .inl (cI g, 64, .inl (fun _ => 0)))]) X (c_X1_hash l g xb (gh 13933680878673617 64) xba0 xba1 xba2 xba3 xba4 xba5 xba6 xba7 xba8 xba9 xba10 xba11) ok_X1_hash okv_X1_hash q_1430 rfl hK hP hD hS hA hZ hl.1 [4] [0, 1, 2, 3, 5, 6, 7, 8, 9, 10, 11, 12] rfl rfl rfl rfl rfl 0 1 rfl rfl rfl (Nat.le_of_ble_eq_true rfl) ⟨Nat.le_of_ble_eq_true rfl, Nat.le_of_ble_eq_true rfl⟩ dX11_digest_45 ⟨Nat.le_of_ble_eq_true rfl, Nat.le_of_ble_eq_true rfl⟩ (fun r_34 w1 H locs hw_35 hP hD hS => ?_)
  rw [sp_X1_hash] at hw_35
  obtain ⟨e1, e2⟩ := Prod.mk.inj hw_35
  subst e1; subst e2
  have hP : va_P g.1 classes [(xp, .inr (5, [.ref xpa0, .ref xpa1, .ref xpa2, .ref xpa3, .int 0])), (xu, .inr (7, [.ref xua0, .ref xua1, .ref xua2, .int 0])), (xm, .inr (4, [.ref xma0, .ref xma1, .ref xma2, .ref xma3, .ref xma4, .ref xma5, .ref xma6, .ref xma7, .ref xma8, .ref xma9, .ref xma10, .ref xma11, .ref xma12, .int 0])), (xd, .inr (2, [.ref xda0, .ref xda1, .ref xda2, .ref xda3, .ref xda4, .ref xda5, .int 0, .int 0])), (xr, .inr (8, [.int 6, .int 0, .ref xrs, .ref xrp])), (xrs, .inl (cI g, 6, .inl (fun _ => (-1)))), (x0, .inr (11, [.ref xr, .ref xt, .ref xg, .ref xb, .ref xp, .ref xu, .ref xm, .ref xd, .ref xw, .ref xh, .ref xa, .ref xs, .ref xf, .int 0, .int 0, .long 0, .long 0, .int 0])), (xt, .inr (8, [.int 4, .int 32, .ref xts, .ref xtp])), (xts, .inl (cI g, 6, .inl (fun _ => (-1)))), (xg, .inr (3, [.ref xgs, .ref xgh])), (xgs, .inl (cI g, 64, .inl (fun _ => 0))), (xgh, .inl (cI g, 64, .inl (fun _ => 0))), (xb, .inr (1, [.ref xba0, .ref xba1, .ref xba2, .ref xba3, .ref xba4, .ref xba5, .ref xba6, .ref xba7, .ref xba8, .ref xba9, .ref xba10, .ref xba11, .int 0, .int 0]))] H := hP
  have hD : va_D A [(xp, .inr (5, [.ref xpa0, .ref xpa1, .ref xpa2, .ref xpa3, .int 0])), (xu, .inr (7, [.ref xua0, .ref xua1, .ref xua2, .int 0])), (xm, .inr (4, [.ref xma0, .ref xma1, .ref xma2, .ref xma3, .ref xma4, .ref xma5, .ref xma6, .ref xma7, .ref xma8, .ref xma9, .ref xma10, .ref xma11, .ref xma12, .int 0])), (xd, .inr (2, [.ref xda0, .ref xda1, .ref xda2, .ref xda3, .ref xda4, .ref xda5, .int 0, .int 0])), (xr, .inr (8, [.int 6, .int 0, .ref xrs, .ref xrp])), (xrs, .inl (cI g, 6, .inl (fun _ => (-1)))), (x0, .inr (11, [.ref xr, .ref xt, .ref xg, .ref xb, .ref xp, .ref xu, .ref xm, .ref xd, .ref xw, .ref xh, .ref xa, .ref xs, .ref xf, .int 0, .int 0, .long 0, .long 0, .int 0])), (xt, .inr (8, [.int 4, .int 32, .ref xts, .ref xtp])), (xts, .inl (cI g, 6, .inl (fun _ => (-1)))), (xg, .inr (3, [.ref xgs, .ref xgh])), (xgs, .inl (cI g, 64, .inl (fun _ => 0))), (xgh, .inl (cI g, 64, .inl (fun _ => 0))), (xb, .inr (1, [.ref xba0, .ref xba1, .ref xba2, .ref xba3, .ref xba4, .ref xba5, .ref xba6, .ref xba7, .ref xba8, .ref xba9, .ref xba10, .ref xba11, .int 0, .int 0]))] := hD
  refine lv_lstore_n (lv' := [(1, .long (gh 13933680878673617 64)), (3, .int 10), (0, .ref x0)]) hx hb dX11_digest_48 rfl hl (by decide) rfl (fun ls hl => ?_)
  refine lv_aload_n hx hb dX11_digest_49 rfl (lv_at hl 2 rfl) ?_
  refine va_get (D := g.1) (ci := 11) (v := .ref xp) (C := RX11) (T := TX11) (N := 18) hx hb hts fw_X11 hown hK hP 6 rfl rfl 4 (by decide) (hts _ q_462) (fun _ h9 => h9) rfl dX11_digest_50 ?_
  refine lv_lload_n hx hb dX11_digest_53 rfl (lv_at hl 0 rfl) ?_
  refine kVl (As := [.long (gh 13933680878673617 64)]) (rest := []) (wr := [(xu, .inr (7, [.ref xua0, .ref xua1, .ref xua2, .int 0])), (xm, .inr (4, [.ref xma0, .ref xma1, .ref xma2, .ref xma3, .ref xma4, .ref xma5, .ref xma6, .ref xma7, .ref xma8, .ref xma9, .ref xma10, .ref xma11, .ref xma12, .int 0])), (xd, .inr (2, [.ref xda0, .ref xda1, .ref xda2, .ref xda3, .ref xda4, .ref xda5, .int 0, .int 0])), (xr, .inr (8, [.int 6, .int 0, .ref xrs, .ref xrp])), (xrs, .inl (cI g, 6, .inl (fun _ => (-1)))), (x0, .inr (11, [.ref xr, .ref xt, .ref xg, .ref xb, .ref xp, .ref xu, .ref xm, .ref xd, .ref xw, .ref xh, .ref xa, .ref xs, .ref xf, .int 0, .int 0, .long 0, .long 0, .int 0])), (xt, .inr (8, [.int 4, .int 32, .ref xts, .ref xtp])), (xts, .inl (cI g, 6, .inl (fun _ => (-1)))), (xg, .inr (3, [.ref xgs, .ref xgh])), (xgs, .inl (cI g, 64, .inl (fun _ => 0))), (xgh, .inl (cI g, 64, .inl (fun _ => 0))), (xb, .inr (1, [.ref xba0, .ref xba1, .ref xba2, .ref xba3, .ref xba4, .ref xba5, .ref xba6, .ref xba7, .ref xba8, .ref xba9, .ref xba10, .ref xba11, .int 0, .int 0]))]) X (c_X5_hash l g xp (gh 13933680878673617 64) xpa0 xpa1 xpa2 xpa3) ok_X5_hash okv_X5_hash q_1436 rfl hK hP hD hS hA hZ hl.1 [0] [1, 2, 3, 4, 5, 6, 7, 8, 9, 10, 11, 12] rfl rfl rfl rfl rfl 0 5 rfl rfl rfl (Nat.le_of_ble_eq_true rfl) ⟨Nat.le_of_ble_eq_true rfl, Nat.le_of_ble_eq_true rfl⟩ dX11_digest_54 ⟨Nat.le_of_ble_eq_true rfl, Nat.le_of_ble_eq_true rfl⟩ (fun r_36 w1 H locs hw_37 hP hD hS => ?_)
  rw [sp_X5_hash] at hw_37
  obtain ⟨e1, e2⟩ := Prod.mk.inj hw_37
  subst e1; subst e2
  have hP : va_P g.1 classes [(xu, .inr (7, [.ref xua0, .ref xua1, .ref xua2, .int 0])), (xm, .inr (4, [.ref xma0, .ref xma1, .ref xma2, .ref xma3, .ref xma4, .ref xma5, .ref xma6, .ref xma7, .ref xma8, .ref xma9, .ref xma10, .ref xma11, .ref xma12, .int 0])), (xd, .inr (2, [.ref xda0, .ref xda1, .ref xda2, .ref xda3, .ref xda4, .ref xda5, .int 0, .int 0])), (xr, .inr (8, [.int 6, .int 0, .ref xrs, .ref xrp])), (xrs, .inl (cI g, 6, .inl (fun _ => (-1)))), (x0, .inr (11, [.ref xr, .ref xt, .ref xg, .ref xb, .ref xp, .ref xu, .ref xm, .ref xd, .ref xw, .ref xh, .ref xa, .ref xs, .ref xf, .int 0, .int 0, .long 0, .long 0, .int 0])), (xt, .inr (8, [.int 4, .int 32, .ref xts, .ref xtp])), (xts, .inl (cI g, 6, .inl (fun _ => (-1)))), (xg, .inr (3, [.ref xgs, .ref xgh])), (xgs, .inl (cI g, 64, .inl (fun _ => 0))), (xgh, .inl (cI g, 64, .inl (fun _ => 0))), (xb, .inr (1, [.ref xba0, .ref xba1, .ref xba2, .ref xba3, .ref xba4, .ref xba5, .ref xba6, .ref xba7, .ref xba8, .ref xba9, .ref xba10, .ref xba11, .int 0, .int 0])), (xp, .inr (5, [.ref xpa0, .ref xpa1, .ref xpa2, .ref xpa3, .int 0]))] H := hP
  have hD : va_D A [(xu, .inr (7, [.ref xua0, .ref xua1, .ref xua2, .int 0])), (xm, .inr (4, [.ref xma0, .ref xma1, .ref xma2, .ref xma3, .ref xma4, .ref xma5, .ref xma6, .ref xma7, .ref xma8, .ref xma9, .ref xma10, .ref xma11, .ref xma12, .int 0])), (xd, .inr (2, [.ref xda0, .ref xda1, .ref xda2, .ref xda3, .ref xda4, .ref xda5, .int 0, .int 0])), (xr, .inr (8, [.int 6, .int 0, .ref xrs, .ref xrp])), (xrs, .inl (cI g, 6, .inl (fun _ => (-1)))), (x0, .inr (11, [.ref xr, .ref xt, .ref xg, .ref xb, .ref xp, .ref xu, .ref xm, .ref xd, .ref xw, .ref xh, .ref xa, .ref xs, .ref xf, .int 0, .int 0, .long 0, .long 0, .int 0])), (xt, .inr (8, [.int 4, .int 32, .ref xts, .ref xtp])), (xts, .inl (cI g, 6, .inl (fun _ => (-1)))), (xg, .inr (3, [.ref xgs, .ref xgh])), (xgs, .inl (cI g, 64, .inl (fun _ => 0))), (xgh, .inl (cI g, 64, .inl (fun _ => 0))), (xb, .inr (1, [.ref xba0, .ref xba1, .ref xba2, .ref xba3, .ref xba4, .ref xba5, .ref xba6, .ref xba7, .ref xba8, .ref xba9, .ref xba10, .ref xba11, .int 0, .int 0])), (xp, .inr (5, [.ref xpa0, .ref xpa1, .ref xpa2, .ref xpa3, .int 0]))] := hD
  refine lv_lstore_n (lv' := [(1, .long (gh 13933680878673617 64)), (3, .int 10), (0, .ref x0)]) hx hb dX11_digest_57 rfl hl (by decide) rfl (fun ls hl => ?_)
  refine lv_aload_n hx hb dX11_digest_58 rfl (lv_at hl 2 rfl) ?_
  refine va_get (D := g.1) (ci := 11) (v := .ref xu) (C := RX11) (T := TX11) (N := 18) hx hb hts fw_X11 hown hK hP 5 rfl rfl 5 (by decide) (hts _ q_463) (fun _ h9 => h9) rfl dX11_digest_59 ?_
  refine lv_lload_n hx hb dX11_digest_62 rfl (lv_at hl 0 rfl) ?_
  refine kVl (As := [.long (gh 13933680878673617 64)]) (rest := []) (wr := [(xm, .inr (4, [.ref xma0, .ref xma1, .ref xma2, .ref xma3, .ref xma4, .ref xma5, .ref xma6, .ref xma7, .ref xma8, .ref xma9, .ref xma10, .ref xma11, .ref xma12, .int 0])), (xd, .inr (2, [.ref xda0, .ref xda1, .ref xda2, .ref xda3, .ref xda4, .ref xda5, .int 0, .int 0])), (xr, .inr (8, [.int 6, .int 0, .ref xrs, .ref xrp])), (xrs, .inl (cI g, 6, .inl (fun _ => (-1)))), (x0, .inr (11, [.ref xr, .ref xt, .ref xg, .ref xb, .ref xp, .ref xu, .ref xm, .ref xd, .ref xw, .ref xh, .ref xa, .ref xs, .ref xf, .int 0, .int 0, .long 0, .long 0, .int 0])), (xt, .inr (8, [.int 4, .int 32, .ref xts, .ref xtp])), (xts, .inl (cI g, 6, .inl (fun _ => (-1)))), (xg, .inr (3, [.ref xgs, .ref xgh])), (xgs, .inl (cI g, 64, .inl (fun _ => 0))), (xgh, .inl (cI g, 64, .inl (fun _ => 0))), (xb, .inr (1, [.ref xba0, .ref xba1, .ref xba2, .ref xba3, .ref xba4, .ref xba5, .ref xba6, .ref xba7, .ref xba8, .ref xba9, .ref xba10, .ref xba11, .int 0, .int 0])), (xp, .inr (5, [.ref xpa0, .ref xpa1, .ref xpa2, .ref xpa3, .int 0]))]) X (c_X7_hash l g xu (gh 13933680878673617 64) xua0 xua1 xua2) ok_X7_hash okv_X7_hash q_1442 rfl hK hP hD hS hA hZ hl.1 [0] [1, 2, 3, 4, 5, 6, 7, 8, 9, 10, 11, 12] rfl rfl rfl rfl rfl 0 7 rfl rfl rfl (Nat.le_of_ble_eq_true rfl) ⟨Nat.le_of_ble_eq_true rfl, Nat.le_of_ble_eq_true rfl⟩ dX11_digest_63 ⟨Nat.le_of_ble_eq_true rfl, Nat.le_of_ble_eq_true rfl⟩ (fun r_38 w1 H locs hw_39 hP hD hS => ?_)
  rw [sp_X7_hash] at hw_39
  obtain ⟨e1, e2⟩ := Prod.mk.inj hw_39
  subst e1; subst e2
  have hP : va_P g.1 classes [(xm, .inr (4, [.ref xma0, .ref xma1, .ref xma2, .ref xma3, .ref xma4, .ref xma5, .ref xma6, .ref xma7, .ref xma8, .ref xma9, .ref xma10, .ref xma11, .ref xma12, .int 0])), (xd, .inr (2, [.ref xda0, .ref xda1, .ref xda2, .ref xda3, .ref xda4, .ref xda5, .int 0, .int 0])), (xr, .inr (8, [.int 6, .int 0, .ref xrs, .ref xrp])), (xrs, .inl (cI g, 6, .inl (fun _ => (-1)))), (x0, .inr (11, [.ref xr, .ref xt, .ref xg, .ref xb, .ref xp, .ref xu, .ref xm, .ref xd, .ref xw, .ref xh, .ref xa, .ref xs, .ref xf, .int 0, .int 0, .long 0, .long 0, .int 0])), (xt, .inr (8, [.int 4, .int 32, .ref xts, .ref xtp])), (xts, .inl (cI g, 6, .inl (fun _ => (-1)))), (xg, .inr (3, [.ref xgs, .ref xgh])), (xgs, .inl (cI g, 64, .inl (fun _ => 0))), (xgh, .inl (cI g, 64, .inl (fun _ => 0))), (xb, .inr (1, [.ref xba0, .ref xba1, .ref xba2, .ref xba3, .ref xba4, .ref xba5, .ref xba6, .ref xba7, .ref xba8, .ref xba9, .ref xba10, .ref xba11, .int 0, .int 0])), (xp, .inr (5, [.ref xpa0, .ref xpa1, .ref xpa2, .ref xpa3, .int 0])), (xu, .inr (7, [.ref xua0, .ref xua1, .ref xua2, .int 0]))] H := hP
  have hD : va_D A [(xm, .inr (4, [.ref xma0, .ref xma1, .ref xma2, .ref xma3, .ref xma4, .ref xma5, .ref xma6, .ref xma7, .ref xma8, .ref xma9, .ref xma10, .ref xma11, .ref xma12, .int 0])), (xd, .inr (2, [.ref xda0, .ref xda1, .ref xda2, .ref xda3, .ref xda4, .ref xda5, .int 0, .int 0])), (xr, .inr (8, [.int 6, .int 0, .ref xrs, .ref xrp])), (xrs, .inl (cI g, 6, .inl (fun _ => (-1)))), (x0, .inr (11, [.ref xr, .ref xt, .ref xg, .ref xb, .ref xp, .ref xu, .ref xm, .ref xd, .ref xw, .ref xh, .ref xa, .ref xs, .ref xf, .int 0, .int 0, .long 0, .long 0, .int 0])), (xt, .inr (8, [.int 4, .int 32, .ref xts, .ref xtp])), (xts, .inl (cI g, 6, .inl (fun _ => (-1)))), (xg, .inr (3, [.ref xgs, .ref xgh])), (xgs, .inl (cI g, 64, .inl (fun _ => 0))), (xgh, .inl (cI g, 64, .inl (fun _ => 0))), (xb, .inr (1, [.ref xba0, .ref xba1, .ref xba2, .ref xba3, .ref xba4, .ref xba5, .ref xba6, .ref xba7, .ref xba8, .ref xba9, .ref xba10, .ref xba11, .int 0, .int 0])), (xp, .inr (5, [.ref xpa0, .ref xpa1, .ref xpa2, .ref xpa3, .int 0])), (xu, .inr (7, [.ref xua0, .ref xua1, .ref xua2, .int 0]))] := hD
  refine lv_lstore_n (lv' := [(1, .long (gh 13933680878673617 64)), (3, .int 10), (0, .ref x0)]) hx hb dX11_digest_66 rfl hl (by decide) rfl (fun ls hl => ?_)
  refine lv_aload_n hx hb dX11_digest_67 rfl (lv_at hl 2 rfl) ?_
  refine va_get (D := g.1) (ci := 11) (v := .ref xm) (C := RX11) (T := TX11) (N := 18) hx hb hts fw_X11 hown hK hP 4 rfl rfl 6 (by decide) (hts _ q_464) (fun _ h9 => h9) rfl dX11_digest_68 ?_
  refine lv_lload_n hx hb dX11_digest_71 rfl (lv_at hl 0 rfl) ?_
  refine kVl (As := [.long (gh 13933680878673617 64)]) (rest := []) (wr := [(xd, .inr (2, [.ref xda0, .ref xda1, .ref xda2, .ref xda3, .ref xda4, .ref xda5, .int 0, .int 0])), (xr, .inr (8, [.int 6, .int 0, .ref xrs, .ref xrp])), (xrs, .inl (cI g, 6, .inl (fun _ => (-1)))), (x0, .inr (11, [.ref xr, .ref xt, .ref xg, .ref xb, .ref xp, .ref xu, .ref xm, .ref xd, .ref xw, .ref xh, .ref xa, .ref xs, .ref xf, .int 0, .int 0, .long 0, .long 0, .int 0])), (xt, .inr (8, [.int 4, .int 32, .ref xts, .ref xtp])), (xts, .inl (cI g, 6, .inl (fun _ => (-1)))), (xg, .inr (3, [.ref xgs, .ref xgh])), (xgs, .inl (cI g, 64, .inl (fun _ => 0))), (xgh, .inl (cI g, 64, .inl (fun _ => 0))), (xb, .inr (1, [.ref xba0, .ref xba1, .ref xba2, .ref xba3, .ref xba4, .ref xba5, .ref xba6, .ref xba7, .ref xba8, .ref xba9, .ref xba10, .ref xba11, .int 0, .int 0])), (xp, .inr (5, [.ref xpa0, .ref xpa1, .ref xpa2, .ref xpa3, .int 0])), (xu, .inr (7, [.ref xua0, .ref xua1, .ref xua2, .int 0]))]) X (c_X4_hash l g xm (gh 13933680878673617 64) xma0 xma1 xma2 xma3 xma4 xma5 xma6 xma7 xma8 xma9 xma10 xma11 xma12) ok_X4_hash okv_X4_hash q_1447 rfl hK hP hD hS hA hZ hl.1 [0] [1, 2, 3, 4, 5, 6, 7, 8, 9, 10, 11, 12] rfl rfl rfl rfl rfl 0 4 rfl rfl rfl (Nat.le_of_ble_eq_true rfl) ⟨Nat.le_of_ble_eq_true rfl, Nat.le_of_ble_eq_true rfl⟩ dX11_digest_72 ⟨Nat.le_of_ble_eq_true rfl, Nat.le_of_ble_eq_true rfl⟩ (fun r_40 w1 H locs hw_41 hP hD hS => ?_)
  rw [sp_X4_hash] at hw_41
  obtain ⟨e1, e2⟩ := Prod.mk.inj hw_41
  subst e1; subst e2
  have hP : va_P g.1 classes [(xd, .inr (2, [.ref xda0, .ref xda1, .ref xda2, .ref xda3, .ref xda4, .ref xda5, .int 0, .int 0])), (xr, .inr (8, [.int 6, .int 0, .ref xrs, .ref xrp])), (xrs, .inl (cI g, 6, .inl (fun _ => (-1)))), (x0, .inr (11, [.ref xr, .ref xt, .ref xg, .ref xb, .ref xp, .ref xu, .ref xm, .ref xd, .ref xw, .ref xh, .ref xa, .ref xs, .ref xf, .int 0, .int 0, .long 0, .long 0, .int 0])), (xt, .inr (8, [.int 4, .int 32, .ref xts, .ref xtp])), (xts, .inl (cI g, 6, .inl (fun _ => (-1)))), (xg, .inr (3, [.ref xgs, .ref xgh])), (xgs, .inl (cI g, 64, .inl (fun _ => 0))), (xgh, .inl (cI g, 64, .inl (fun _ => 0))), (xb, .inr (1, [.ref xba0, .ref xba1, .ref xba2, .ref xba3, .ref xba4, .ref xba5, .ref xba6, .ref xba7, .ref xba8, .ref xba9, .ref xba10, .ref xba11, .int 0, .int 0])), (xp, .inr (5, [.ref xpa0, .ref xpa1, .ref xpa2, .ref xpa3, .int 0])), (xu, .inr (7, [.ref xua0, .ref xua1, .ref xua2, .int 0])), (xm, .inr (4, [.ref xma0, .ref xma1, .ref xma2, .ref xma3, .ref xma4, .ref xma5, .ref xma6, .ref xma7, .ref xma8, .ref xma9, .ref xma10, .ref xma11, .ref xma12, .int 0]))] H := hP
  have hD : va_D A [(xd, .inr (2, [.ref xda0, .ref xda1, .ref xda2, .ref xda3, .ref xda4, .ref xda5, .int 0, .int 0])), (xr, .inr (8, [.int 6, .int 0, .ref xrs, .ref xrp])), (xrs, .inl (cI g, 6, .inl (fun _ => (-1)))), (x0, .inr (11, [.ref xr, .ref xt, .ref xg, .ref xb, .ref xp, .ref xu, .ref xm, .ref xd, .ref xw, .ref xh, .ref xa, .ref xs, .ref xf, .int 0, .int 0, .long 0, .long 0, .int 0])), (xt, .inr (8, [.int 4, .int 32, .ref xts, .ref xtp])), (xts, .inl (cI g, 6, .inl (fun _ => (-1)))), (xg, .inr (3, [.ref xgs, .ref xgh])), (xgs, .inl (cI g, 64, .inl (fun _ => 0))), (xgh, .inl (cI g, 64, .inl (fun _ => 0))), (xb, .inr (1, [.ref xba0, .ref xba1, .ref xba2, .ref xba3, .ref xba4, .ref xba5, .ref xba6, .ref xba7, .ref xba8, .ref xba9, .ref xba10, .ref xba11, .int 0, .int 0])), (xp, .inr (5, [.ref xpa0, .ref xpa1, .ref xpa2, .ref xpa3, .int 0])), (xu, .inr (7, [.ref xua0, .ref xua1, .ref xua2, .int 0])), (xm, .inr (4, [.ref xma0, .ref xma1, .ref xma2, .ref xma3, .ref xma4, .ref xma5, .ref xma6, .ref xma7, .ref xma8, .ref xma9, .ref xma10, .ref xma11, .ref xma12, .int 0]))] := hD
  refine lv_lstore_n (lv' := [(1, .long (gh 13933680878673617 64)), (3, .int 10), (0, .ref x0)]) hx hb dX11_digest_75 rfl hl (by decide) rfl (fun ls hl => ?_)
  refine lv_aload_n hx hb dX11_digest_76 rfl (lv_at hl 2 rfl) ?_
  refine va_get (D := g.1) (ci := 11) (v := .ref xr) (C := RX11) (T := TX11) (N := 18) hx hb hts fw_X11 hown hK hP 3 rfl rfl 0 (by decide) (hts _ q_458) (fun _ h9 => h9) rfl dX11_digest_77 ?_
  refine lv_lload_n hx hb dX11_digest_80 rfl (lv_at hl 0 rfl) ?_
  refine kVl (As := [.long (gh 13933680878673617 64)]) (rest := []) (wr := [(xd, .inr (2, [.ref xda0, .ref xda1, .ref xda2, .ref xda3, .ref xda4, .ref xda5, .int 0, .int 0])), (x0, .inr (11, [.ref xr, .ref xt, .ref xg, .ref xb, .ref xp, .ref xu, .ref xm, .ref xd, .ref xw, .ref xh, .ref xa, .ref xs, .ref xf, .int 0, .int 0, .long 0, .long 0, .int 0])), (xt, .inr (8, [.int 4, .int 32, .ref xts, .ref xtp])), (xts, .inl (cI g, 6, .inl (fun _ => (-1)))), (xg, .inr (3, [.ref xgs, .ref xgh])), (xgs, .inl (cI g, 64, .inl (fun _ => 0))), (xgh, .inl (cI g, 64, .inl (fun _ => 0))), (xb, .inr (1, [.ref xba0, .ref xba1, .ref xba2, .ref xba3, .ref xba4, .ref xba5, .ref xba6, .ref xba7, .ref xba8, .ref xba9, .ref xba10, .ref xba11, .int 0, .int 0])), (xp, .inr (5, [.ref xpa0, .ref xpa1, .ref xpa2, .ref xpa3, .int 0])), (xu, .inr (7, [.ref xua0, .ref xua1, .ref xua2, .int 0])), (xm, .inr (4, [.ref xma0, .ref xma1, .ref xma2, .ref xma3, .ref xma4, .ref xma5, .ref xma6, .ref xma7, .ref xma8, .ref xma9, .ref xma10, .ref xma11, .ref xma12, .int 0]))]) X (c_X8_hash6 l g xr (gh 13933680878673617 64) xrs xrp) ok_X8_hash okv_X8_hash q_1455 rfl hK hP hD hS hA hZ hl.1 [1, 2] [0, 3, 4, 5, 6, 7, 8, 9, 10, 11, 12] rfl rfl rfl rfl rfl 0 8 rfl rfl rfl (Nat.le_of_ble_eq_true rfl) ⟨Nat.le_of_ble_eq_true rfl, Nat.le_of_ble_eq_true rfl⟩ dX11_digest_81 ⟨Nat.le_of_ble_eq_true rfl, Nat.le_of_ble_eq_true rfl⟩ (fun r_42 w1 H locs hw_43 hP hD hS => ?_)
  rw [sp_X8_hash6] at hw_43
  obtain ⟨e1, e2⟩ := Prod.mk.inj hw_43
  subst e1; subst e2
  have hP : va_P g.1 classes [(xd, .inr (2, [.ref xda0, .ref xda1, .ref xda2, .ref xda3, .ref xda4, .ref xda5, .int 0, .int 0])), (x0, .inr (11, [.ref xr, .ref xt, .ref xg, .ref xb, .ref xp, .ref xu, .ref xm, .ref xd, .ref xw, .ref xh, .ref xa, .ref xs, .ref xf, .int 0, .int 0, .long 0, .long 0, .int 0])), (xt, .inr (8, [.int 4, .int 32, .ref xts, .ref xtp])), (xts, .inl (cI g, 6, .inl (fun _ => (-1)))), (xg, .inr (3, [.ref xgs, .ref xgh])), (xgs, .inl (cI g, 64, .inl (fun _ => 0))), (xgh, .inl (cI g, 64, .inl (fun _ => 0))), (xb, .inr (1, [.ref xba0, .ref xba1, .ref xba2, .ref xba3, .ref xba4, .ref xba5, .ref xba6, .ref xba7, .ref xba8, .ref xba9, .ref xba10, .ref xba11, .int 0, .int 0])), (xp, .inr (5, [.ref xpa0, .ref xpa1, .ref xpa2, .ref xpa3, .int 0])), (xu, .inr (7, [.ref xua0, .ref xua1, .ref xua2, .int 0])), (xm, .inr (4, [.ref xma0, .ref xma1, .ref xma2, .ref xma3, .ref xma4, .ref xma5, .ref xma6, .ref xma7, .ref xma8, .ref xma9, .ref xma10, .ref xma11, .ref xma12, .int 0])), (xr, .inr (8, [.int 6, .int 0, .ref xrs, .ref xrp])), (xrs, .inl (cI g, 6, .inl (fun _ => (-1))))] H := hP
  have hD : va_D A [(xd, .inr (2, [.ref xda0, .ref xda1, .ref xda2, .ref xda3, .ref xda4, .ref xda5, .int 0, .int 0])), (x0, .inr (11, [.ref xr, .ref xt, .ref xg, .ref xb, .ref xp, .ref xu, .ref xm, .ref xd, .ref xw, .ref xh, .ref xa, .ref xs, .ref xf, .int 0, .int 0, .long 0, .long 0, .int 0])), (xt, .inr (8, [.int 4, .int 32, .ref xts, .ref xtp])), (xts, .inl (cI g, 6, .inl (fun _ => (-1)))), (xg, .inr (3, [.ref xgs, .ref xgh])), (xgs, .inl (cI g, 64, .inl (fun _ => 0))), (xgh, .inl (cI g, 64, .inl (fun _ => 0))), (xb, .inr (1, [.ref xba0, .ref xba1, .ref xba2, .ref xba3, .ref xba4, .ref xba5, .ref xba6, .ref xba7, .ref xba8, .ref xba9, .ref xba10, .ref xba11, .int 0, .int 0])), (xp, .inr (5, [.ref xpa0, .ref xpa1, .ref xpa2, .ref xpa3, .int 0])), (xu, .inr (7, [.ref xua0, .ref xua1, .ref xua2, .int 0])), (xm, .inr (4, [.ref xma0, .ref xma1, .ref xma2, .ref xma3, .ref xma4, .ref xma5, .ref xma6, .ref xma7, .ref xma8, .ref xma9, .ref xma10, .ref xma11, .ref xma12, .int 0])), (xr, .inr (8, [.int 6, .int 0, .ref xrs, .ref xrp])), (xrs, .inl (cI g, 6, .inl (fun _ => (-1))))] := hD
  refine lv_lstore_n (lv' := [(1, .long ((31 * ((31 * ((31 * ((31 * ((31 * ((31 * (gh 13933680878673617 64)) + (-1))) + (-1))) + (-1))) + (-1))) + (-1))) + (-1))), (3, .int 10), (0, .ref x0)]) hx hb dX11_digest_84 rfl hl (by decide) rfl (fun ls hl => ?_)
  refine lv_aload_n hx hb dX11_digest_85 rfl (lv_at hl 2 rfl) ?_
  refine va_get (D := g.1) (ci := 11) (v := .ref xt) (C := RX11) (T := TX11) (N := 18) hx hb hts fw_X11 hown hK hP 1 rfl rfl 1 (by decide) (hts _ q_459) (fun _ h9 => h9) rfl dX11_digest_86 ?_
  refine lv_lload_n hx hb dX11_digest_89 rfl (lv_at hl 0 rfl) ?_
  refine kVl (As := [.long ((31 * ((31 * ((31 * ((31 * ((31 * ((31 * (gh 13933680878673617 64)) + (-1))) + (-1))) + (-1))) + (-1))) + (-1))) + (-1))]) (rest := []) (wr := [(xd, .inr (2, [.ref xda0, .ref xda1, .ref xda2, .ref xda3, .ref xda4, .ref xda5, .int 0, .int 0])), (x0, .inr (11, [.ref xr, .ref xt, .ref xg, .ref xb, .ref xp, .ref xu, .ref xm, .ref xd, .ref xw, .ref xh, .ref xa, .ref xs, .ref xf, .int 0, .int 0, .long 0, .long 0, .int 0])), (xg, .inr (3, [.ref xgs, .ref xgh])), (xgs, .inl (cI g, 64, .inl (fun _ => 0))), (xgh, .inl (cI g, 64, .inl (fun _ => 0))), (xb, .inr (1, [.ref xba0, .ref xba1, .ref xba2, .ref xba3, .ref xba4, .ref xba5, .ref xba6, .ref xba7, .ref xba8, .ref xba9, .ref xba10, .ref xba11, .int 0, .int 0])), (xp, .inr (5, [.ref xpa0, .ref xpa1, .ref xpa2, .ref xpa3, .int 0])), (xu, .inr (7, [.ref xua0, .ref xua1, .ref xua2, .int 0])), (xm, .inr (4, [.ref xma0, .ref xma1, .ref xma2, .ref xma3, .ref xma4, .ref xma5, .ref xma6, .ref xma7, .ref xma8, .ref xma9, .ref xma10, .ref xma11, .ref xma12, .int 0])), (xr, .inr (8, [.int 6, .int 0, .ref xrs, .ref xrp])), (xrs, .inl (cI g, 6, .inl (fun _ => (-1))))]) X (c_X8_hash4 l g xt ((31 * ((31 * ((31 * ((31 * ((31 * ((31 * (gh 13933680878673617 64)) + (-1))) + (-1))) + (-1))) + (-1))) + (-1))) + (-1)) xts xtp) ok_X8_hash okv_X8_hash q_1455 rfl hK hP hD hS hA hZ hl.1 [2, 3] [0, 1, 4, 5, 6, 7, 8, 9, 10, 11, 12] rfl rfl rfl rfl rfl 0 8 rfl rfl rfl (Nat.le_of_ble_eq_true rfl) ⟨Nat.le_of_ble_eq_true rfl, Nat.le_of_ble_eq_true rfl⟩ dX11_digest_90 ⟨Nat.le_of_ble_eq_true rfl, Nat.le_of_ble_eq_true rfl⟩ (fun r_44 w1 H locs hw_45 hP hD hS => ?_)
  rw [sp_X8_hash4] at hw_45
  obtain ⟨e1, e2⟩ := Prod.mk.inj hw_45
  subst e1; subst e2
  have hP : va_P g.1 classes [(xd, .inr (2, [.ref xda0, .ref xda1, .ref xda2, .ref xda3, .ref xda4, .ref xda5, .int 0, .int 0])), (x0, .inr (11, [.ref xr, .ref xt, .ref xg, .ref xb, .ref xp, .ref xu, .ref xm, .ref xd, .ref xw, .ref xh, .ref xa, .ref xs, .ref xf, .int 0, .int 0, .long 0, .long 0, .int 0])), (xg, .inr (3, [.ref xgs, .ref xgh])), (xgs, .inl (cI g, 64, .inl (fun _ => 0))), (xgh, .inl (cI g, 64, .inl (fun _ => 0))), (xb, .inr (1, [.ref xba0, .ref xba1, .ref xba2, .ref xba3, .ref xba4, .ref xba5, .ref xba6, .ref xba7, .ref xba8, .ref xba9, .ref xba10, .ref xba11, .int 0, .int 0])), (xp, .inr (5, [.ref xpa0, .ref xpa1, .ref xpa2, .ref xpa3, .int 0])), (xu, .inr (7, [.ref xua0, .ref xua1, .ref xua2, .int 0])), (xm, .inr (4, [.ref xma0, .ref xma1, .ref xma2, .ref xma3, .ref xma4, .ref xma5, .ref xma6, .ref xma7, .ref xma8, .ref xma9, .ref xma10, .ref xma11, .ref xma12, .int 0])), (xr, .inr (8, [.int 6, .int 0, .ref xrs, .ref xrp])), (xrs, .inl (cI g, 6, .inl (fun _ => (-1)))), (xt, .inr (8, [.int 4, .int 32, .ref xts, .ref xtp])), (xts, .inl (cI g, 6, .inl (fun _ => (-1))))] H := hP
  have hD : va_D A [(xd, .inr (2, [.ref xda0, .ref xda1, .ref xda2, .ref xda3, .ref xda4, .ref xda5, .int 0, .int 0])), (x0, .inr (11, [.ref xr, .ref xt, .ref xg, .ref xb, .ref xp, .ref xu, .ref xm, .ref xd, .ref xw, .ref xh, .ref xa, .ref xs, .ref xf, .int 0, .int 0, .long 0, .long 0, .int 0])), (xg, .inr (3, [.ref xgs, .ref xgh])), (xgs, .inl (cI g, 64, .inl (fun _ => 0))), (xgh, .inl (cI g, 64, .inl (fun _ => 0))), (xb, .inr (1, [.ref xba0, .ref xba1, .ref xba2, .ref xba3, .ref xba4, .ref xba5, .ref xba6, .ref xba7, .ref xba8, .ref xba9, .ref xba10, .ref xba11, .int 0, .int 0])), (xp, .inr (5, [.ref xpa0, .ref xpa1, .ref xpa2, .ref xpa3, .int 0])), (xu, .inr (7, [.ref xua0, .ref xua1, .ref xua2, .int 0])), (xm, .inr (4, [.ref xma0, .ref xma1, .ref xma2, .ref xma3, .ref xma4, .ref xma5, .ref xma6, .ref xma7, .ref xma8, .ref xma9, .ref xma10, .ref xma11, .ref xma12, .int 0])), (xr, .inr (8, [.int 6, .int 0, .ref xrs, .ref xrp])), (xrs, .inl (cI g, 6, .inl (fun _ => (-1)))), (xt, .inr (8, [.int 4, .int 32, .ref xts, .ref xtp])), (xts, .inl (cI g, 6, .inl (fun _ => (-1))))] := hD
  exact rL X hK hP hD hS dX11_digest_93 (Nat.le_of_ble_eq_true rfl) (Nat.le_of_ble_eq_true rfl) (by show _ = _; unfold sp_X11_digest; try rfl)
