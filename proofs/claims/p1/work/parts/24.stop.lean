set_option maxRecDepth 200000 in
theorem q_1333 : Cond.constantLong "CityRoad$Stopper" 38 (-1) ∈ tb := tb_mem 1333 (by decide +kernel) rfl
set_option maxRecDepth 200000 in
theorem q_840 : Cond.code yX3_has cX3_has 3 (some .boolean) ∈ tb := tb_mem 840 (by rfl) rfl
set_option maxRecDepth 200000 in
theorem q_839 : Cond.static yX3_has ∈ tb := tb_mem 839 (by decide +kernel) rfl
set_option maxRecDepth 200000 in
theorem q_1334 : Cond.methodLink "CityRoad$Stopper" 40 yX3_has ∈ tb := tb_mem 1334 (by decide +kernel) rfl
set_option maxRecDepth 200000 in
theorem q_812 : Cond.code yX11_inForce cX11_inForce 2 (some .int) ∈ tb := tb_mem 812 (by rfl) rfl
set_option maxRecDepth 200000 in
theorem q_811 : Cond.instanceMethod yX11_inForce ∈ tb := tb_mem 811 (by decide +kernel) rfl
set_option maxRecDepth 200000 in
theorem q_4 : Cond.selects "CityRoad" yX11_inForce yX11_inForce ∈ tb := tb_mem 4 (by decide +kernel) rfl
set_option maxRecDepth 200000 in
theorem q_809 : Cond.methodLink "CityRoad" 228 yX11_inForce ∈ tb := tb_mem 809 (by decide +kernel) rfl
set_option maxRecDepth 200000 in
theorem q_1326 : Cond.code yX9_survey cX9_survey 5 none ∈ tb := tb_mem 1326 (by rfl) rfl
set_option maxRecDepth 200000 in
theorem q_1324 : Cond.instanceMethod yX9_survey ∈ tb := tb_mem 1324 (by decide +kernel) rfl
set_option maxRecDepth 200000 in
theorem q_1325 : Cond.selects "CityRoad$Stopper" yX9_survey yX9_survey ∈ tb := tb_mem 1325 (by decide +kernel) rfl
set_option maxRecDepth 200000 in
theorem q_1323 : Cond.methodLink "CityRoad" 441 yX9_survey ∈ tb := tb_mem 1323 (by decide +kernel) rfl
set_option maxRecDepth 200000 in
theorem q_1332 : Cond.code yX9_connects cX9_connects 10 (some .boolean) ∈ tb := tb_mem 1332 (by rfl) rfl
set_option maxRecDepth 200000 in
theorem q_1330 : Cond.instanceMethod yX9_connects ∈ tb := tb_mem 1330 (by decide +kernel) rfl
set_option maxRecDepth 200000 in
theorem q_1331 : Cond.selects "CityRoad$Stopper" yX9_connects yX9_connects ∈ tb := tb_mem 1331 (by decide +kernel) rfl
set_option maxRecDepth 200000 in
theorem q_1329 : Cond.methodLink "CityRoad" 445 yX9_connects ∈ tb := tb_mem 1329 (by decide +kernel) rfl
set_option maxRecDepth 200000 in
theorem q_1335 : Cond.methodLink "CityRoad" 449 yX1_standingCells ∈ tb := tb_mem 1335 (by decide +kernel) rfl
set_option maxRecDepth 200000 in
theorem q_1336 : Cond.methodLink "CityRoad" 452 yX3_bit ∈ tb := tb_mem 1336 (by decide +kernel) rfl
theorem dX9_connects_0 : decode cX9_connects 0 = .ok (.iload_n 1, 1) := by decide +kernel
theorem dX9_connects_1 : decode cX9_connects 1 = .ok (.invokestatic 34, 3) := by decide +kernel
theorem dX9_connects_4 : decode cX9_connects 4 = .ok (.lstore 5, 2) := by decide +kernel
theorem dX9_connects_6 : decode cX9_connects 6 = .ok (.iconst 0, 1) := by decide +kernel
theorem dX9_connects_7 : decode cX9_connects 7 = .ok (.istore 7, 2) := by decide +kernel
theorem dX9_connects_9 : decode cX9_connects 9 = .ok (.iload 7, 2) := by decide +kernel
theorem dX9_connects_11 : decode cX9_connects 11 = .ok (.bipush 64, 2) := by decide +kernel
theorem dX9_connects_13 : decode cX9_connects 13 = .ok (.if_icmp .ge 101, 3) := by decide +kernel
theorem dX9_connects_16 : decode cX9_connects 16 = .ok (.lload 5, 2) := by decide +kernel
theorem dX9_connects_18 : decode cX9_connects 18 = .ok (.lload 5, 2) := by decide +kernel
theorem dX9_connects_20 : decode cX9_connects 20 = .ok (.aload_n 0, 1) := by decide +kernel
theorem dX9_connects_21 : decode cX9_connects 21 = .ok (.getfield 11, 3) := by decide +kernel
theorem dX9_connects_24 : decode cX9_connects 24 = .ok (.iconst 0, 1) := by decide +kernel
theorem dX9_connects_25 : decode cX9_connects 25 = .ok (.laload, 1) := by decide +kernel
theorem dX9_connects_26 : decode cX9_connects 26 = .ok (.land, 1) := by decide +kernel
theorem dX9_connects_27 : decode cX9_connects 27 = .ok (.bipush 8, 2) := by decide +kernel
theorem dX9_connects_29 : decode cX9_connects 29 = .ok (.lushr, 1) := by decide +kernel
theorem dX9_connects_30 : decode cX9_connects 30 = .ok (.lor, 1) := by decide +kernel
theorem dX9_connects_31 : decode cX9_connects 31 = .ok (.lload 5, 2) := by decide +kernel
theorem dX9_connects_33 : decode cX9_connects 33 = .ok (.aload_n 0, 1) := by decide +kernel
theorem dX9_connects_34 : decode cX9_connects 34 = .ok (.getfield 11, 3) := by decide +kernel
theorem dX9_connects_37 : decode cX9_connects 37 = .ok (.iconst 1, 1) := by decide +kernel
theorem dX9_connects_38 : decode cX9_connects 38 = .ok (.laload, 1) := by decide +kernel
theorem dX9_connects_39 : decode cX9_connects 39 = .ok (.land, 1) := by decide +kernel
theorem dX9_connects_40 : decode cX9_connects 40 = .ok (.iconst 1, 1) := by decide +kernel
theorem dX9_connects_41 : decode cX9_connects 41 = .ok (.lushr, 1) := by decide +kernel
theorem dX9_connects_42 : decode cX9_connects 42 = .ok (.lor, 1) := by decide +kernel
theorem dX9_connects_43 : decode cX9_connects 43 = .ok (.lload 5, 2) := by decide +kernel
theorem dX9_connects_45 : decode cX9_connects 45 = .ok (.aload_n 0, 1) := by decide +kernel
theorem dX9_connects_46 : decode cX9_connects 46 = .ok (.getfield 11, 3) := by decide +kernel
theorem dX9_connects_49 : decode cX9_connects 49 = .ok (.iconst 2, 1) := by decide +kernel
theorem dX9_connects_50 : decode cX9_connects 50 = .ok (.laload, 1) := by decide +kernel
theorem dX9_connects_51 : decode cX9_connects 51 = .ok (.land, 1) := by decide +kernel
theorem dX9_connects_52 : decode cX9_connects 52 = .ok (.iconst 1, 1) := by decide +kernel
theorem dX9_connects_53 : decode cX9_connects 53 = .ok (.lshl, 1) := by decide +kernel
theorem dX9_connects_54 : decode cX9_connects 54 = .ok (.lor, 1) := by decide +kernel
theorem dX9_connects_55 : decode cX9_connects 55 = .ok (.lload 5, 2) := by decide +kernel
theorem dX9_connects_57 : decode cX9_connects 57 = .ok (.aload_n 0, 1) := by decide +kernel
theorem dX9_connects_58 : decode cX9_connects 58 = .ok (.getfield 11, 3) := by decide +kernel
theorem dX9_connects_61 : decode cX9_connects 61 = .ok (.iconst 3, 1) := by decide +kernel
theorem dX9_connects_62 : decode cX9_connects 62 = .ok (.laload, 1) := by decide +kernel
theorem dX9_connects_63 : decode cX9_connects 63 = .ok (.land, 1) := by decide +kernel
theorem dX9_connects_64 : decode cX9_connects 64 = .ok (.bipush 8, 2) := by decide +kernel
theorem dX9_connects_66 : decode cX9_connects 66 = .ok (.lshl, 1) := by decide +kernel
theorem dX9_connects_67 : decode cX9_connects 67 = .ok (.lor, 1) := by decide +kernel
theorem dX9_connects_68 : decode cX9_connects 68 = .ok (.lstore 8, 2) := by decide +kernel
theorem dX9_connects_70 : decode cX9_connects 70 = .ok (.lload 8, 2) := by decide +kernel
theorem dX9_connects_72 : decode cX9_connects 72 = .ok (.lload_n 3, 1) := by decide +kernel
theorem dX9_connects_73 : decode cX9_connects 73 = .ok (.ldc2_w 38, 3) := by decide +kernel
theorem dX9_connects_76 : decode cX9_connects 76 = .ok (.lxor, 1) := by decide +kernel
theorem dX9_connects_77 : decode cX9_connects 77 = .ok (.land, 1) := by decide +kernel
theorem dX9_connects_78 : decode cX9_connects 78 = .ok (.lstore 8, 2) := by decide +kernel
theorem dX9_connects_80 : decode cX9_connects 80 = .ok (.lload 8, 2) := by decide +kernel
theorem dX9_connects_82 : decode cX9_connects 82 = .ok (.lload 5, 2) := by decide +kernel
theorem dX9_connects_84 : decode cX9_connects 84 = .ok (.lcmp, 1) := by decide +kernel
theorem dX9_connects_85 : decode cX9_connects 85 = .ok (.ifCond .eq 12, 3) := by decide +kernel
theorem dX9_connects_97 : decode cX9_connects 97 = .ok (.lload 8, 2) := by decide +kernel
theorem dX9_connects_99 : decode cX9_connects 99 = .ok (.iload_n 2, 1) := by decide +kernel
theorem dX9_connects_100 : decode cX9_connects 100 = .ok (.invokestatic 40, 3) := by decide +kernel
theorem dX9_connects_103 : decode cX9_connects 103 = .ok (.ireturn, 1) := by decide +kernel
theorem dX9_connects_88 : decode cX9_connects 88 = .ok (.lload 8, 2) := by decide +kernel
theorem dX9_connects_90 : decode cX9_connects 90 = .ok (.iload_n 2, 1) := by decide +kernel
theorem dX9_connects_91 : decode cX9_connects 91 = .ok (.invokestatic 40, 3) := by decide +kernel
theorem dX9_connects_94 : decode cX9_connects 94 = .ok (.ifCond .eq 10, 3) := by decide +kernel
theorem dX9_connects_104 : decode cX9_connects 104 = .ok (.lload 8, 2) := by decide +kernel
theorem dX9_connects_106 : decode cX9_connects 106 = .ok (.lstore 5, 2) := by decide +kernel
theorem dX9_connects_108 : decode cX9_connects 108 = .ok (.iinc 7 1, 3) := by decide +kernel
theorem dX9_connects_111 : decode cX9_connects 111 = .ok (.goto (-102), 3) := by decide +kernel
theorem dX11_inForce_0 : decode cX11_inForce 0 = .ok (.aload_n 0, 1) := by decide +kernel
theorem dX11_inForce_1 : decode cX11_inForce 1 = .ok (.getfield 45, 3) := by decide +kernel
theorem dX11_inForce_4 : decode cX11_inForce 4 = .ok (.iload_n 1, 1) := by decide +kernel
theorem dX11_inForce_5 : decode cX11_inForce 5 = .ok (.aload_n 0, 1) := by decide +kernel
theorem dX11_inForce_6 : decode cX11_inForce 6 = .ok (.getfield 136, 3) := by decide +kernel
theorem dX11_inForce_9 : decode cX11_inForce 9 = .ok (.aload_n 0, 1) := by decide +kernel
theorem dX11_inForce_10 : decode cX11_inForce 10 = .ok (.getfield 136, 3) := by decide +kernel
theorem dX11_inForce_13 : decode cX11_inForce 13 = .ok (.invokevirtual 212, 3) := by decide +kernel
theorem dX11_inForce_16 : decode cX11_inForce 16 = .ok (.ireturn, 1) := by decide +kernel
theorem dX11_stop_0 : decode cX11_stop 0 = .ok (.iload_n 1, 1) := by decide +kernel
theorem dX11_stop_1 : decode cX11_stop 1 = .ok (.invokestatic 140, 3) := by decide +kernel
theorem dX11_stop_4 : decode cX11_stop 4 = .ok (.ifCond .eq 15, 3) := by decide +kernel
theorem dX11_stop_19 : decode cX11_stop 19 = .ok (.iconst (-1), 1) := by decide +kernel
theorem dX11_stop_20 : decode cX11_stop 20 = .ok (.ireturn, 1) := by decide +kernel
theorem dX11_stop_7 : decode cX11_stop 7 = .ok (.iload_n 2, 1) := by decide +kernel
theorem dX11_stop_8 : decode cX11_stop 8 = .ok (.invokestatic 140, 3) := by decide +kernel
theorem dX11_stop_11 : decode cX11_stop 11 = .ok (.ifCond .eq 8, 3) := by decide +kernel
theorem dX11_stop_14 : decode cX11_stop 14 = .ok (.iload_n 1, 1) := by decide +kernel
theorem dX11_stop_15 : decode cX11_stop 15 = .ok (.iload_n 2, 1) := by decide +kernel
theorem dX11_stop_16 : decode cX11_stop 16 = .ok (.if_icmp .ne 5, 3) := by decide +kernel
theorem dX11_stop_21 : decode cX11_stop 21 = .ok (.aload_n 0, 1) := by decide +kernel
theorem dX11_stop_22 : decode cX11_stop 22 = .ok (.getfield 26, 3) := by decide +kernel
theorem dX11_stop_25 : decode cX11_stop 25 = .ok (.iload_n 1, 1) := by decide +kernel
theorem dX11_stop_26 : decode cX11_stop 26 = .ok (.invokevirtual 163, 3) := by decide +kernel
theorem dX11_stop_29 : decode cX11_stop 29 = .ok (.ifCond .ne 14, 3) := by decide +kernel
theorem dX11_stop_32 : decode cX11_stop 32 = .ok (.aload_n 0, 1) := by decide +kernel
theorem dX11_stop_33 : decode cX11_stop 33 = .ok (.getfield 26, 3) := by decide +kernel
theorem dX11_stop_36 : decode cX11_stop 36 = .ok (.iload_n 2, 1) := by decide +kernel
theorem dX11_stop_37 : decode cX11_stop 37 = .ok (.invokevirtual 163, 3) := by decide +kernel
theorem dX11_stop_40 : decode cX11_stop 40 = .ok (.ifCond .eq 6, 3) := by decide +kernel
theorem dX11_stop_46 : decode cX11_stop 46 = .ok (.aload_n 0, 1) := by decide +kernel
theorem dX11_stop_47 : decode cX11_stop 47 = .ok (.getfield 87, 3) := by decide +kernel
theorem dX11_stop_50 : decode cX11_stop 50 = .ok (.aload_n 0, 1) := by decide +kernel
theorem dX11_stop_51 : decode cX11_stop 51 = .ok (.getfield 26, 3) := by decide +kernel
theorem dX11_stop_54 : decode cX11_stop 54 = .ok (.aload_n 0, 1) := by decide +kernel
theorem dX11_stop_55 : decode cX11_stop 55 = .ok (.iconst 0, 1) := by decide +kernel
theorem dX11_stop_56 : decode cX11_stop 56 = .ok (.invokevirtual 228, 3) := by decide +kernel
theorem dX11_stop_59 : decode cX11_stop 59 = .ok (.invokevirtual 441, 3) := by decide +kernel
theorem dX11_stop_62 : decode cX11_stop 62 = .ok (.aload_n 0, 1) := by decide +kernel
theorem dX11_stop_63 : decode cX11_stop 63 = .ok (.getfield 87, 3) := by decide +kernel
theorem dX11_stop_66 : decode cX11_stop 66 = .ok (.iload_n 1, 1) := by decide +kernel
theorem dX11_stop_67 : decode cX11_stop 67 = .ok (.iload_n 2, 1) := by decide +kernel
theorem dX11_stop_68 : decode cX11_stop 68 = .ok (.lconst 0, 1) := by decide +kernel
theorem dX11_stop_69 : decode cX11_stop 69 = .ok (.invokevirtual 445, 3) := by decide +kernel
theorem dX11_stop_72 : decode cX11_stop 72 = .ok (.ifCond .ne 9, 3) := by decide +kernel
theorem dX11_stop_81 : decode cX11_stop 81 = .ok (.aload_n 0, 1) := by decide +kernel
theorem dX11_stop_82 : decode cX11_stop 82 = .ok (.getfield 33, 3) := by decide +kernel
theorem dX11_stop_85 : decode cX11_stop 85 = .ok (.invokevirtual 449, 3) := by decide +kernel
theorem dX11_stop_88 : decode cX11_stop 88 = .ok (.iload_n 1, 1) := by decide +kernel
theorem dX11_stop_89 : decode cX11_stop 89 = .ok (.invokestatic 452, 3) := by decide +kernel
theorem dX11_stop_92 : decode cX11_stop 92 = .ok (.iload_n 2, 1) := by decide +kernel
theorem dX11_stop_93 : decode cX11_stop 93 = .ok (.invokestatic 452, 3) := by decide +kernel
theorem dX11_stop_96 : decode cX11_stop 96 = .ok (.lor, 1) := by decide +kernel
theorem dX11_stop_97 : decode cX11_stop 97 = .ok (.ldc2_w 387, 3) := by decide +kernel
theorem dX11_stop_100 : decode cX11_stop 100 = .ok (.lxor, 1) := by decide +kernel
theorem dX11_stop_101 : decode cX11_stop 101 = .ok (.land, 1) := by decide +kernel
theorem dX11_stop_102 : decode cX11_stop 102 = .ok (.lstore_n 3, 1) := by decide +kernel
theorem dX11_stop_103 : decode cX11_stop 103 = .ok (.aload_n 0, 1) := by decide +kernel
theorem dX11_stop_104 : decode cX11_stop 104 = .ok (.getfield 87, 3) := by decide +kernel
theorem dX11_stop_107 : decode cX11_stop 107 = .ok (.iload_n 1, 1) := by decide +kernel
theorem dX11_stop_108 : decode cX11_stop 108 = .ok (.iload_n 2, 1) := by decide +kernel
theorem dX11_stop_109 : decode cX11_stop 109 = .ok (.lload_n 3, 1) := by decide +kernel
theorem dX11_stop_110 : decode cX11_stop 110 = .ok (.invokevirtual 445, 3) := by decide +kernel
theorem dX11_stop_113 : decode cX11_stop 113 = .ok (.ifCond .eq 6, 3) := by decide +kernel
theorem dX11_stop_116 : decode cX11_stop 116 = .ok (.bipush (-9), 2) := by decide +kernel
theorem dX11_stop_118 : decode cX11_stop 118 = .ok (.ireturn, 1) := by decide +kernel
theorem ok_X3_has : okM yX3_has cX3_has 3 (some .boolean) 2 := ⟨q_840, q_93, by decide +kernel, by decide +kernel, by decide +kernel⟩
theorem ok_X11_inForce : okM yX11_inForce cX11_inForce 2 (some .int) 1 := ⟨q_812, q_89, by decide +kernel, by decide +kernel, by decide +kernel⟩
theorem okv_X11_inForce : okV yX11_inForce := ⟨q_811, q_4⟩
theorem ok_X9_survey : okM yX9_survey cX9_survey 5 none 2 := ⟨q_1326, q_102, by decide +kernel, by decide +kernel, by decide +kernel⟩
theorem okv_X9_survey : okV yX9_survey := ⟨q_1324, q_1325⟩
theorem ok_X9_connects : okM yX9_connects cX9_connects 10 (some .boolean) 3 := ⟨q_1332, q_102, by decide +kernel, by decide +kernel, by decide +kernel⟩
theorem okv_X9_connects : okV yX9_connects := ⟨q_1330, q_1331⟩
def sp_X9_connects (g : GG) (h0 : Nat) (ja : Nat) (jb : Nat) (h0a0 : Nat) (h0a1 : Nat) (h0a2 : Nat) (h0a3 : Nat) (h0a4 : Nat) : Int32 × va_W := (1, [(h0, .inr (9, [.ref h0a0, .ref h0a1, .ref h0a2, .ref h0a3, .ref h0a4, .int 0])), (h0a0, .inl (cJ g, 4, .inr (.inl opF)))])
set_option maxHeartbeats 4000000 in
set_option maxRecDepth 100000 in
theorem c_X9_connects (l : Launch) (g : GG) (h0 : Nat) (ja : Nat) (jb : Nat) (h0a0 : Nat) (h0a1 : Nat) (h0a2 : Nat) (h0a3 : Nat) (h0a4 : Nat) (hja : ja < 64) (hjb : jb < 64) (hab : ja ≠ jb) : MI l g yX9_connects cX9_connects 10 (some .boolean) 1 22 0 0 [(h0, .inr (9, [.ref h0a0, .ref h0a1, .ref h0a2, .ref h0a3, .ref h0a4, .int 0])), (h0a0, .inl (cJ g, 4, .inr (.inl opF)))] [.ref h0, .int (nI ja), .int (nI jb), .long 0] (fun rr_ ww_ => (rr_, ww_) = sp_X9_connects g h0 ja jb h0a0 h0a1 h0a2 h0a3 h0a4) := by
  refine met_of (fun A => va_Qi _ (bW g A) A) (by decide) (Nat.le_of_ble_eq_true rfl) ?_
  intro p e s m below meth c A ls X hK hP hD hA hZ hS hl
  have hx := X.1
  have hb := X.2.1
  have hml := X.2.2.1
  have hown := X.2.2.2.1
  have hts := X.2.2.2.2.1
  have hnm := X.2.2.2.2.2.2.2
  have hl : lv_has ls 10 [(0, .ref h0), (1, .int (nI ja)), (2, .int (nI jb)), (3, .long 0)] := hl
  have hn_ja : (nI ja).toInt = (ja : Int) := nI_toInt (by omega)
  have hn_jb : (nI jb).toInt = (jb : Int) := nI_toInt (by omega)
  refine lv_iload_n hx hb dX9_connects_0 rfl (lv_at hl 1 rfl) ?_
  refine kSl (As := [.int (nI ja)]) (rest := []) (wr := [(h0, .inr (9, [.ref h0a0, .ref h0a1, .ref h0a2, .ref h0a3, .ref h0a4, .int 0])), (h0a0, .inl (cJ g, 4, .inr (.inl opF)))]) X (c_X3_bit l g (nI ja)) ok_X3_bit q_842 q_1328 rfl hK hP hD hS hA hZ hl.1 [] [0, 1] rfl rfl rfl rfl rfl rfl (Nat.le_of_ble_eq_true rfl) ⟨Nat.le_of_ble_eq_true rfl, Nat.le_of_ble_eq_true rfl⟩ dX9_connects_1 ⟨Nat.le_of_ble_eq_true rfl, Nat.le_of_ble_eq_true rfl⟩ (fun r_1 w1 H locs hw_2 hP hD hS => ?_)
  rw [sp_X3_bit] at hw_2
  obtain ⟨e1, e2⟩ := Prod.mk.inj hw_2
  subst e1; subst e2
  have hP : va_P g.1 classes [(h0, .inr (9, [.ref h0a0, .ref h0a1, .ref h0a2, .ref h0a3, .ref h0a4, .int 0])), (h0a0, .inl (cJ g, 4, .inr (.inl opF)))] H := hP
  have hD : va_D A [(h0, .inr (9, [.ref h0a0, .ref h0a1, .ref h0a2, .ref h0a3, .ref h0a4, .int 0])), (h0a0, .inl (cJ g, 4, .inr (.inl opF)))] := hD
  refine lv_lstore (lv' := [(5, .long (jshl 1 (nI ja))), (0, .ref h0), (1, .int (nI ja)), (2, .int (nI jb)), (3, .long 0)]) hx hb dX9_connects_4 hl (by decide) rfl (fun ls hl => ?_)
  refine lv_iconst (v := 0) hx hb dX9_connects_6 (by decide) ?_
  refine lv_istore (lv' := [(7, .int 0), (5, .long (jshl 1 (nI ja))), (0, .ref h0), (1, .int (nI ja)), (2, .int (nI jb)), (3, .long 0)]) hx hb dX9_connects_7 hl (by decide) rfl (fun ls hl => ?_)
  refine loopK 64 (fun k H locs ls => (k = 0 ∨ ¬ hasC (rch ja k) jb) ∧ va_P g.1 classes [(h0, .inr (9, [.ref h0a0, .ref h0a1, .ref h0a2, .ref h0a3, .ref h0a4, .int 0])), (h0a0, .inl (cJ g, 4, .inr (.inl opF)))] H ∧ va_D A [(h0, .inr (9, [.ref h0a0, .ref h0a1, .ref h0a2, .ref h0a3, .ref h0a4, .int 0])), (h0a0, .inl (cJ g, 4, .inr (.inl opF)))] ∧ va_S A s.heap H locs ∧ lv_has ls 10 [(5, .long (rch ja k)), (7, .int (nI k)), (0, .ref h0), (1, .int (nI ja)), (2, .int (nI jb)), (3, .long 0)]) (Wg := fun H locs ls => W p l e _ s m _ below meth c H locs _ _ _ (F0 m 9 ls [])) ?_ ?_ _ _ _ ⟨Or.inl rfl, hP, hD, hS, lv_sub hl [1, 0, 2, 3, 4, 5] rfl⟩
  · intro k hk_k ih H locs ls hI
    obtain ⟨hpure, hP, hD, hS, hl⟩ := hI
    have hn_k : (nI k).toInt = (k : Int) := nI_toInt (by omega)
    refine lv_iload hx hb dX9_connects_9 (lv_at hl 1 rfl) ?_
    refine lv_bipush (v := 64) hx hb dX9_connects_11 (by decide) ?_
    refine lv_icmp_ge (tgt := 114) hx hb dX9_connects_13 (by decide) (fun c_3 => (by simp only [i32lt, i32le, i32eq, Int32.reduceToInt] at c_3; omega : False).elim) (fun _ => ?_)
    refine lv_lload hx hb dX9_connects_16 (lv_at hl 0 rfl) ?_
    refine lv_lload hx hb dX9_connects_18 (lv_at hl 0 rfl) ?_
    refine lv_aload_n hx hb dX9_connects_20 rfl (lv_at hl 2 rfl) ?_
    refine va_get (D := g.1) (ci := 9) (v := .ref h0a0) (C := RX9) (T := TX9) (N := 6) hx hb hts fw_X9 hown hK hP 0 rfl rfl 0 (by decide) (hts _ q_439) (fun _ h9 => h9) rfl dX9_connects_21 ?_
    refine lv_iconst (v := 0) hx hb dX9_connects_24 (by decide) ?_
    refine va_lald hx hb hK hP 1 1 rfl rfl (by unfold vp_in; decide) dX9_connects_25 ?_
    refine lv_topkl (v := (-256)) (by decide) ?_
    refine lv_land hx hb dX9_connects_26 ?_
    refine lv_bipush (v := 8) hx hb dX9_connects_27 (by decide) ?_
    refine lv_lushr (v := jushr ((rch ja k) &&& (-256)) 8) hx hb dX9_connects_29 (by rfl) ?_
    refine lv_lor hx hb dX9_connects_30 ?_
    refine lv_lload hx hb dX9_connects_31 (lv_at hl 0 rfl) ?_
    refine lv_aload_n hx hb dX9_connects_33 rfl (lv_at hl 2 rfl) ?_
    refine va_get (D := g.1) (ci := 9) (v := .ref h0a0) (C := RX9) (T := TX9) (N := 6) hx hb hts fw_X9 hown hK hP 0 rfl rfl 0 (by decide) (hts _ q_439) (fun _ h9 => h9) rfl dX9_connects_34 ?_
    refine lv_iconst (v := 1) hx hb dX9_connects_37 (by decide) ?_
    refine va_lald hx hb hK hP 1 1 rfl rfl (by unfold vp_in; decide) dX9_connects_38 ?_
    refine lv_topkl (v := (-72340172838076674)) (by decide) ?_
    refine lv_land hx hb dX9_connects_39 ?_
    refine lv_iconst (v := 1) hx hb dX9_connects_40 (by decide) ?_
    refine lv_lushr (v := jushr ((rch ja k) &&& (-72340172838076674)) 1) hx hb dX9_connects_41 (by rfl) ?_
    refine lv_lor hx hb dX9_connects_42 ?_
    refine lv_lload hx hb dX9_connects_43 (lv_at hl 0 rfl) ?_
    refine lv_aload_n hx hb dX9_connects_45 rfl (lv_at hl 2 rfl) ?_
    refine va_get (D := g.1) (ci := 9) (v := .ref h0a0) (C := RX9) (T := TX9) (N := 6) hx hb hts fw_X9 hown hK hP 0 rfl rfl 0 (by decide) (hts _ q_439) (fun _ h9 => h9) rfl dX9_connects_46 ?_
    refine lv_iconst (v := 2) hx hb dX9_connects_49 (by decide) ?_
    refine va_lald hx hb hK hP 1 1 rfl rfl (by unfold vp_in; decide) dX9_connects_50 ?_
    refine lv_topkl (v := 9187201950435737471) (by decide) ?_
    refine lv_land hx hb dX9_connects_51 ?_
    refine lv_iconst (v := 1) hx hb dX9_connects_52 (by decide) ?_
    refine lv_lshl (v := jshl ((rch ja k) &&& 9187201950435737471) 1) hx hb dX9_connects_53 (by rfl) ?_
    refine lv_lor hx hb dX9_connects_54 ?_
    refine lv_lload hx hb dX9_connects_55 (lv_at hl 0 rfl) ?_
    refine lv_aload_n hx hb dX9_connects_57 rfl (lv_at hl 2 rfl) ?_
    refine va_get (D := g.1) (ci := 9) (v := .ref h0a0) (C := RX9) (T := TX9) (N := 6) hx hb hts fw_X9 hown hK hP 0 rfl rfl 0 (by decide) (hts _ q_439) (fun _ h9 => h9) rfl dX9_connects_58 ?_
    refine lv_iconst (v := 3) hx hb dX9_connects_61 (by decide) ?_
    refine va_lald hx hb hK hP 1 1 rfl rfl (by unfold vp_in; decide) dX9_connects_62 ?_
    refine lv_topkl (v := 72057594037927935) (by decide) ?_
    refine lv_land hx hb dX9_connects_63 ?_
    refine lv_bipush (v := 8) hx hb dX9_connects_64 (by decide) ?_
    refine lv_lshl (v := jshl ((rch ja k) &&& 72057594037927935) 8) hx hb dX9_connects_66 (by rfl) ?_
    refine lv_lor hx hb dX9_connects_67 ?_
    refine lv_lstore (lv' := [(8, .long (((((rch ja k) ||| (jushr ((rch ja k) &&& (-256)) 8)) ||| (jushr ((rch ja k) &&& (-72340172838076674)) 1)) ||| (jshl ((rch ja k) &&& 9187201950435737471) 1)) ||| (jshl ((rch ja k) &&& 72057594037927935) 8))), (5, .long (rch ja k)), (7, .int (nI k)), (0, .ref h0), (1, .int (nI ja)), (2, .int (nI jb)), (3, .long 0)]) hx hb dX9_connects_68 hl (by decide) rfl (fun ls hl => ?_)
    refine lv_lload hx hb dX9_connects_70 (lv_at hl 0 rfl) ?_
    refine lv_lload_n hx hb dX9_connects_72 rfl (lv_at hl 6 rfl) ?_
    refine lv_ldc2 (v := (-1)) hx hb hown (hts _ q_1333) dX9_connects_73 ?_
    refine lv_lxor hx hb dX9_connects_76 ?_
    refine lv_topkl (v := (-1)) (by decide) ?_
    refine lv_land hx hb dX9_connects_77 ?_
    refine lv_topkl (v := rch ja (k + 1)) rfl ?_
    refine lv_lstore (lv' := [(8, .long (rch ja (k + 1))), (5, .long (rch ja k)), (7, .int (nI k)), (0, .ref h0), (1, .int (nI ja)), (2, .int (nI jb)), (3, .long 0)]) hx hb dX9_connects_78 hl (by decide) rfl (fun ls hl => ?_)
    refine lv_lload hx hb dX9_connects_80 (lv_at hl 0 rfl) ?_
    refine lv_lload hx hb dX9_connects_82 (lv_at hl 1 rfl) ?_
    refine W.lcmp hx hb dX9_connects_84 ?_
    refine lv_if_eq (tgt := 97) hx hb dX9_connects_85 (by decide) (fun c_4 => ?_) (fun c_4 => ?_)
    ·
      refine lv_lload hx hb dX9_connects_97 (lv_at hl 0 rfl) ?_
      refine lv_iload_n hx hb dX9_connects_99 rfl (lv_at hl 5 rfl) ?_
      refine kSi (As := [.long (rch ja (k + 1)), .int (nI jb)]) (rest := []) (wr := [(h0, .inr (9, [.ref h0a0, .ref h0a1, .ref h0a2, .ref h0a3, .ref h0a4, .int 0])), (h0a0, .inl (cJ g, 4, .inr (.inl opF)))]) X (c_X3_has l g (rch ja (k + 1)) (nI jb)) ok_X3_has q_839 q_1334 rfl hK hP hD hS hA hZ hl.1 [] [0, 1] rfl rfl rfl rfl rfl rfl (Nat.le_of_ble_eq_true rfl) ⟨Nat.le_of_ble_eq_true rfl, Nat.le_of_ble_eq_true rfl⟩ dX9_connects_100 ⟨Nat.le_of_ble_eq_true rfl, Nat.le_of_ble_eq_true rfl⟩ (fun r_5 w1 H locs hw_6 hP hD hS => ?_)
      rw [sp_X3_has] at hw_6
      rw [if_pos (show lg_cmp ((jushr (rch ja (k + 1)) (nI jb)) &&& 1) 1 = 0 from (rf_eq ja jb k hja hjb c_4))] at hw_6
      obtain ⟨e1, e2⟩ := Prod.mk.inj hw_6
      subst e1; subst e2
      have hP : va_P g.1 classes [(h0, .inr (9, [.ref h0a0, .ref h0a1, .ref h0a2, .ref h0a3, .ref h0a4, .int 0])), (h0a0, .inl (cJ g, 4, .inr (.inl opF)))] H := hP
      have hD : va_D A [(h0, .inr (9, [.ref h0a0, .ref h0a1, .ref h0a2, .ref h0a3, .ref h0a4, .int 0])), (h0a0, .inl (cJ g, 4, .inr (.inl opF)))] := hD
      exact rI X hK hP hD hS dX9_connects_103 (by rfl) (Nat.le_of_ble_eq_true rfl) (Nat.le_of_ble_eq_true rfl) (by show ((_, _) : Int32 × va_W) = _; unfold sp_X9_connects; try rfl)
    ·
      refine lv_lload hx hb dX9_connects_88 (lv_at hl 0 rfl) ?_
      refine lv_iload_n hx hb dX9_connects_90 rfl (lv_at hl 5 rfl) ?_
      refine kSi (As := [.long (rch ja (k + 1)), .int (nI jb)]) (rest := []) (wr := [(h0, .inr (9, [.ref h0a0, .ref h0a1, .ref h0a2, .ref h0a3, .ref h0a4, .int 0])), (h0a0, .inl (cJ g, 4, .inr (.inl opF)))]) X (c_X3_has l g (rch ja (k + 1)) (nI jb)) ok_X3_has q_839 q_1334 rfl hK hP hD hS hA hZ hl.1 [] [0, 1] rfl rfl rfl rfl rfl rfl (Nat.le_of_ble_eq_true rfl) ⟨Nat.le_of_ble_eq_true rfl, Nat.le_of_ble_eq_true rfl⟩ dX9_connects_91 ⟨Nat.le_of_ble_eq_true rfl, Nat.le_of_ble_eq_true rfl⟩ (fun r_7 w1 H locs hw_8 hP hD hS => ?_)
      rw [sp_X3_has] at hw_8
      rcases Classical.em (lg_cmp ((jushr (rch ja (k + 1)) (nI jb)) &&& 1) 1 = 0) with c_9 | c_9
      ·
        rw [if_pos c_9] at hw_8
        obtain ⟨e1, e2⟩ := Prod.mk.inj hw_8
        subst e1; subst e2
        have hP : va_P g.1 classes [(h0, .inr (9, [.ref h0a0, .ref h0a1, .ref h0a2, .ref h0a3, .ref h0a4, .int 0])), (h0a0, .inl (cJ g, 4, .inr (.inl opF)))] H := hP
        have hD : va_D A [(h0, .inr (9, [.ref h0a0, .ref h0a1, .ref h0a2, .ref h0a3, .ref h0a4, .int 0])), (h0a0, .inl (cJ g, 4, .inr (.inl opF)))] := hD
        refine lv_if_eq (tgt := 104) hx hb dX9_connects_94 (by decide) (fun c_10 => absurd c_10 (by decide)) (fun _ => ?_)
        refine lv_lload hx hb dX9_connects_97 (lv_at hl 0 rfl) ?_
        refine lv_iload_n hx hb dX9_connects_99 rfl (lv_at hl 5 rfl) ?_
        refine kSi (As := [.long (rch ja (k + 1)), .int (nI jb)]) (rest := []) (wr := [(h0, .inr (9, [.ref h0a0, .ref h0a1, .ref h0a2, .ref h0a3, .ref h0a4, .int 0])), (h0a0, .inl (cJ g, 4, .inr (.inl opF)))]) X (c_X3_has l g (rch ja (k + 1)) (nI jb)) ok_X3_has q_839 q_1334 rfl hK hP hD hS hA hZ hl.1 [] [0, 1] rfl rfl rfl rfl rfl rfl (Nat.le_of_ble_eq_true rfl) ⟨Nat.le_of_ble_eq_true rfl, Nat.le_of_ble_eq_true rfl⟩ dX9_connects_100 ⟨Nat.le_of_ble_eq_true rfl, Nat.le_of_ble_eq_true rfl⟩ (fun r_11 w1 H locs hw_12 hP hD hS => ?_)
        rw [sp_X3_has] at hw_12
        rw [if_pos (show lg_cmp ((jushr (rch ja (k + 1)) (nI jb)) &&& 1) 1 = 0 from (by simp only [i32lt, i32le, i32eq, Int32.reduceToInt] at c_9 ⊢; omega))] at hw_12
        obtain ⟨e1, e2⟩ := Prod.mk.inj hw_12
        subst e1; subst e2
        have hP : va_P g.1 classes [(h0, .inr (9, [.ref h0a0, .ref h0a1, .ref h0a2, .ref h0a3, .ref h0a4, .int 0])), (h0a0, .inl (cJ g, 4, .inr (.inl opF)))] H := hP
        have hD : va_D A [(h0, .inr (9, [.ref h0a0, .ref h0a1, .ref h0a2, .ref h0a3, .ref h0a4, .int 0])), (h0a0, .inl (cJ g, 4, .inr (.inl opF)))] := hD
        exact rI X hK hP hD hS dX9_connects_103 (by rfl) (Nat.le_of_ble_eq_true rfl) (Nat.le_of_ble_eq_true rfl) (by show ((_, _) : Int32 × va_W) = _; unfold sp_X9_connects; try rfl)
      ·
        rw [if_neg c_9] at hw_8
        obtain ⟨e1, e2⟩ := Prod.mk.inj hw_8
        subst e1; subst e2
        have hP : va_P g.1 classes [(h0, .inr (9, [.ref h0a0, .ref h0a1, .ref h0a2, .ref h0a3, .ref h0a4, .int 0])), (h0a0, .inl (cJ g, 4, .inr (.inl opF)))] H := hP
        have hD : va_D A [(h0, .inr (9, [.ref h0a0, .ref h0a1, .ref h0a2, .ref h0a3, .ref h0a4, .int 0])), (h0a0, .inl (cJ g, 4, .inr (.inl opF)))] := hD
        refine lv_if_eq (tgt := 104) hx hb dX9_connects_94 (by decide) (fun _ => ?_) (fun c_13 => absurd (by decide) c_13)
        refine lv_lload hx hb dX9_connects_104 (lv_at hl 0 rfl) ?_
        refine lv_lstore (lv' := [(5, .long (rch ja (k + 1))), (8, .long (rch ja (k + 1))), (7, .int (nI k)), (0, .ref h0), (1, .int (nI ja)), (2, .int (nI jb)), (3, .long 0)]) hx hb dX9_connects_106 hl (by decide) rfl (fun ls hl => ?_)
        refine lv_iinc (v := nI (k + 1)) (lv' := [(7, .int (nI (k + 1))), (5, .long (rch ja (k + 1))), (8, .long (rch ja (k + 1))), (0, .ref h0), (1, .int (nI ja)), (2, .int (nI jb)), (3, .long 0)]) hx hb dX9_connects_108 hl (k := 2) rfl (nI_1 _) (by decide) rfl (fun ls hl => ?_)
        refine lv_goto (tgt := 9) hx hb dX9_connects_111 (by decide) ?_
        exact ih _ _ _ ⟨Or.inr c_9, hP, hD, hS, lv_sub hl [1, 0, 3, 4, 5, 6] rfl⟩
  · intro H locs ls hI
    obtain ⟨hpure, hP, hD, hS, hl⟩ := hI
    exact (hpure.elim (fun h => absurd h (by decide)) (fun h => absurd (rf_fin ja jb hja hjb) h))
def sp_X7_valueFor0 (g : GG) (h0 : Nat) (d0 : Int32) (k0 : Int32) (h0a0 : Nat) (h0a1 : Nat) (h0a2 : Nat) : Int32 × va_W := (10, [(h0, .inr (7, [.ref h0a0, .ref h0a1, .ref h0a2, .int 0]))])
set_option maxHeartbeats 4000000 in
set_option maxRecDepth 100000 in
theorem c_X7_valueFor0 (l : Launch) (g : GG) (h0 : Nat) (d0 : Int32) (k0 : Int32) (h0a0 : Nat) (h0a1 : Nat) (h0a2 : Nat) : MI l g yX7_valueFor cX7_valueFor 5 (some .int) 1 25 0 0 [(h0, .inr (7, [.ref h0a0, .ref h0a1, .ref h0a2, .int 0]))] [.ref h0, .int 0, .int d0, .int k0] (fun rr_ ww_ => (rr_, ww_) = sp_X7_valueFor0 g h0 d0 k0 h0a0 h0a1 h0a2) := by
  refine met_of (fun A => va_Qi _ (bW g A) A) (by decide) (Nat.le_of_ble_eq_true rfl) ?_
  intro p e s m below meth c A ls X hK hP hD hA hZ hS hl
  have hx := X.1
  have hb := X.2.1
  have hml := X.2.2.1
  have hown := X.2.2.2.1
  have hts := X.2.2.2.2.1
  have hnm := X.2.2.2.2.2.2.2
  have hl : lv_has ls 5 [(0, .ref h0), (1, .int 0), (2, .int d0), (3, .int k0)] := hl
  refine lv_aload_n hx hb dX7_valueFor_0 rfl (lv_at hl 0 rfl) ?_
  refine lv_iload_n hx hb dX7_valueFor_1 rfl (lv_at hl 1 rfl) ?_
  refine lv_iload_n hx hb dX7_valueFor_2 rfl (lv_at hl 2 rfl) ?_
  refine lv_iload_n hx hb dX7_valueFor_3 rfl (lv_at hl 3 rfl) ?_
  refine kVi (As := [.int 0, .int d0, .int k0]) (rest := []) (wr := []) X (c_X7_deciding l g h0 0 d0 k0 h0a0 h0a1 h0a2) ok_X7_deciding okv_X7_deciding q_775 rfl hK hP hD hS hA hZ hl.1 [0] [] rfl rfl rfl rfl rfl 0 7 rfl rfl rfl (Nat.le_of_ble_eq_true rfl) ⟨Nat.le_of_ble_eq_true rfl, Nat.le_of_ble_eq_true rfl⟩ dX7_valueFor_4 ⟨Nat.le_of_ble_eq_true rfl, Nat.le_of_ble_eq_true rfl⟩ (fun r_1 w1 H locs hw_2 hP hD hS => ?_)
  rw [sp_X7_deciding] at hw_2
  obtain ⟨e1, e2⟩ := Prod.mk.inj hw_2
  subst e1; subst e2
  have hP : va_P g.1 classes [(h0, .inr (7, [.ref h0a0, .ref h0a1, .ref h0a2, .int 0]))] H := hP
  have hD : va_D A [(h0, .inr (7, [.ref h0a0, .ref h0a1, .ref h0a2, .int 0]))] := hD
  refine lv_istore (lv' := [(4, .int (-9)), (0, .ref h0), (1, .int 0), (2, .int d0), (3, .int k0)]) hx hb dX7_valueFor_7 hl (by decide) rfl (fun ls hl => ?_)
  refine lv_iload hx hb dX7_valueFor_9 (lv_at hl 0 rfl) ?_
  refine lv_bipush (v := (-9)) hx hb dX7_valueFor_11 (by decide) ?_
  refine lv_icmp_ne (tgt := 24) hx hb dX7_valueFor_13 (by decide) (fun c_3 => absurd (by decide) c_3) (fun _ => ?_)
  refine va_gets hx hb hZ.2.1 hS hown (hts _ q_779) (fun _ h9 => h9) dX7_valueFor_16 ?_
  refine lv_iload_n hx hb dX7_valueFor_19 rfl (lv_at hl 2 rfl) ?_
  refine va_ti hx hb hZ.2.2 hS (by unfold vp_in; decide) (v := .int 10) rfl dX7_valueFor_20 ?_
  refine lv_goto (tgt := 36) hx hb dX7_valueFor_21 (by decide) ?_
  exact rI X hK hP hD hS dX7_valueFor_36 (by rfl) (Nat.le_of_ble_eq_true rfl) (Nat.le_of_ble_eq_true rfl) (by show ((_, _) : Int32 × va_W) = _; unfold sp_X7_valueFor0; try rfl)
def sp_X11_inForce0 (g : GG) (x0 : Nat) (xr : Nat) (xt : Nat) (xg : Nat) (xb : Nat) (xp : Nat) (xu : Nat) (xm : Nat) (xd : Nat) (xw : Nat) (xh : Nat) (xa : Nat) (xs : Nat) (xf : Nat) (xua0 : Nat) (xua1 : Nat) (xua2 : Nat) : Int32 × va_W := (10, [(x0, .inr (11, [.ref xr, .ref xt, .ref xg, .ref xb, .ref xp, .ref xu, .ref xm, .ref xd, .ref xw, .ref xh, .ref xa, .ref xs, .ref xf, .int 0, .int 0, .long 0, .long 0, .int 0])), (xu, .inr (7, [.ref xua0, .ref xua1, .ref xua2, .int 0]))])
set_option maxHeartbeats 4000000 in
set_option maxRecDepth 100000 in
theorem c_X11_inForce0 (l : Launch) (g : GG) (x0 : Nat) (xr : Nat) (xt : Nat) (xg : Nat) (xb : Nat) (xp : Nat) (xu : Nat) (xm : Nat) (xd : Nat) (xw : Nat) (xh : Nat) (xa : Nat) (xs : Nat) (xf : Nat) (xua0 : Nat) (xua1 : Nat) (xua2 : Nat) : MI l g yX11_inForce cX11_inForce 2 (some .int) 2 49 0 0 [(x0, .inr (11, [.ref xr, .ref xt, .ref xg, .ref xb, .ref xp, .ref xu, .ref xm, .ref xd, .ref xw, .ref xh, .ref xa, .ref xs, .ref xf, .int 0, .int 0, .long 0, .long 0, .int 0])), (xu, .inr (7, [.ref xua0, .ref xua1, .ref xua2, .int 0]))] [.ref x0, .int 0] (fun rr_ ww_ => (rr_, ww_) = sp_X11_inForce0 g x0 xr xt xg xb xp xu xm xd xw xh xa xs xf xua0 xua1 xua2) := by
  refine met_of (fun A => va_Qi _ (bW g A) A) (by decide) (Nat.le_of_ble_eq_true rfl) ?_
  intro p e s m below meth c A ls X hK hP hD hA hZ hS hl
  have hx := X.1
  have hb := X.2.1
  have hml := X.2.2.1
  have hown := X.2.2.2.1
  have hts := X.2.2.2.2.1
  have hnm := X.2.2.2.2.2.2.2
  have hl : lv_has ls 2 [(0, .ref x0), (1, .int 0)] := hl
  refine lv_aload_n hx hb dX11_inForce_0 rfl (lv_at hl 0 rfl) ?_
  refine va_get (D := g.1) (ci := 11) (v := .ref xu) (C := RX11) (T := TX11) (N := 18) hx hb hts fw_X11 hown hK hP 0 rfl rfl 5 (by decide) (hts _ q_463) (fun _ h9 => h9) rfl dX11_inForce_1 ?_
  refine lv_iload_n hx hb dX11_inForce_4 rfl (lv_at hl 1 rfl) ?_
  refine lv_aload_n hx hb dX11_inForce_5 rfl (lv_at hl 0 rfl) ?_
  refine va_get (D := g.1) (ci := 11) (v := .int 0) (C := RX11) (T := TX11) (N := 18) hx hb hts fw_X11 hown hK hP 0 rfl rfl 13 (by decide) (hts _ q_471) (fun _ h9 => h9) rfl dX11_inForce_6 ?_
  refine lv_aload_n hx hb dX11_inForce_9 rfl (lv_at hl 0 rfl) ?_
  refine va_get (D := g.1) (ci := 11) (v := .int 0) (C := RX11) (T := TX11) (N := 18) hx hb hts fw_X11 hown hK hP 0 rfl rfl 13 (by decide) (hts _ q_471) (fun _ h9 => h9) rfl dX11_inForce_10 ?_
  refine kVi (As := [.int 0, .int 0, .int 0]) (rest := []) (wr := [(x0, .inr (11, [.ref xr, .ref xt, .ref xg, .ref xb, .ref xp, .ref xu, .ref xm, .ref xd, .ref xw, .ref xh, .ref xa, .ref xs, .ref xf, .int 0, .int 0, .long 0, .long 0, .int 0]))]) X (c_X7_valueFor0 l g xu 0 0 xua0 xua1 xua2) ok_X7_valueFor okv_X7_valueFor q_771 rfl hK hP hD hS hA hZ hl.1 [1] [0] rfl rfl rfl rfl rfl 0 7 rfl rfl rfl (Nat.le_of_ble_eq_true rfl) ⟨Nat.le_of_ble_eq_true rfl, Nat.le_of_ble_eq_true rfl⟩ dX11_inForce_13 ⟨Nat.le_of_ble_eq_true rfl, Nat.le_of_ble_eq_true rfl⟩ (fun r_1 w1 H locs hw_2 hP hD hS => ?_)
  rw [sp_X7_valueFor0] at hw_2
  obtain ⟨e1, e2⟩ := Prod.mk.inj hw_2
  subst e1; subst e2
  have hP : va_P g.1 classes [(x0, .inr (11, [.ref xr, .ref xt, .ref xg, .ref xb, .ref xp, .ref xu, .ref xm, .ref xd, .ref xw, .ref xh, .ref xa, .ref xs, .ref xf, .int 0, .int 0, .long 0, .long 0, .int 0])), (xu, .inr (7, [.ref xua0, .ref xua1, .ref xua2, .int 0]))] H := hP
  have hD : va_D A [(x0, .inr (11, [.ref xr, .ref xt, .ref xg, .ref xb, .ref xp, .ref xu, .ref xm, .ref xd, .ref xw, .ref xh, .ref xa, .ref xs, .ref xf, .int 0, .int 0, .long 0, .long 0, .int 0])), (xu, .inr (7, [.ref xua0, .ref xua1, .ref xua2, .int 0]))] := hD
  exact rI X hK hP hD hS dX11_inForce_16 (by rfl) (Nat.le_of_ble_eq_true rfl) (Nat.le_of_ble_eq_true rfl) (by show ((_, _) : Int32 × va_W) = _; unfold sp_X11_inForce0; try rfl)
def sp_X11_stop (g : GG) (x0 : Nat) (a : Int32) (b : Int32) (xr : Nat) (xt : Nat) (xg : Nat) (xb : Nat) (xp : Nat) (xu : Nat) (xm : Nat) (xd : Nat) (xw : Nat) (xh : Nat) (xa : Nat) (xs : Nat) (xf : Nat) (xgs : Nat) (xgh : Nat) (xba0 : Nat) (xba1 : Nat) (xba2 : Nat) (xba3 : Nat) (xba4 : Nat) (xba5 : Nat) (xba6 : Nat) (xba7 : Nat) (xba8 : Nat) (xba9 : Nat) (xba10 : Nat) (xba11 : Nat) (xua0 : Nat) (xua1 : Nat) (xua2 : Nat) (xsa0 : Nat) (xsa1 : Nat) (xsa2 : Nat) (xsa3 : Nat) (xsa4 : Nat) : Int32 := if a < 0 then (-1) else (if 64 ≤ a then (-1) else (if b < 0 then (-1) else (if 64 ≤ b then (-1) else (if a = b then (-1) else (-9)))))
set_option maxHeartbeats 4000000 in
set_option maxRecDepth 100000 in
theorem c_X11_stop (l : Launch) (g : GG) (x0 : Nat) (a : Int32) (b : Int32) (xr : Nat) (xt : Nat) (xg : Nat) (xb : Nat) (xp : Nat) (xu : Nat) (xm : Nat) (xd : Nat) (xw : Nat) (xh : Nat) (xa : Nat) (xs : Nat) (xf : Nat) (xgs : Nat) (xgh : Nat) (xba0 : Nat) (xba1 : Nat) (xba2 : Nat) (xba3 : Nat) (xba4 : Nat) (xba5 : Nat) (xba6 : Nat) (xba7 : Nat) (xba8 : Nat) (xba9 : Nat) (xba10 : Nat) (xba11 : Nat) (xua0 : Nat) (xua1 : Nat) (xua2 : Nat) (xsa0 : Nat) (xsa1 : Nat) (xsa2 : Nat) (xsa3 : Nat) (xsa4 : Nat) : MI l g yX11_stop cX11_stop 5 (some .int) 4 91 0 0 [(x0, .inr (11, [.ref xr, .ref xt, .ref xg, .ref xb, .ref xp, .ref xu, .ref xm, .ref xd, .ref xw, .ref xh, .ref xa, .ref xs, .ref xf, .int 0, .int 0, .long 0, .long 0, .int 0])), (xg, .inr (3, [.ref xgs, .ref xgh])), (xgs, .inl (cI g, 64, .inl (fun _ => 0))), (xgh, .inl (cI g, 64, .inl (fun _ => 0))), (xb, .inr (1, [.ref xba0, .ref xba1, .ref xba2, .ref xba3, .ref xba4, .ref xba5, .ref xba6, .ref xba7, .ref xba8, .ref xba9, .ref xba10, .ref xba11, .int 0, .int 0])), (xu, .inr (7, [.ref xua0, .ref xua1, .ref xua2, .int 0])), (xs, .inr (9, [.ref xsa0, .ref xsa1, .ref xsa2, .ref xsa3, .ref xsa4, .int 0])), (xsa0, .inl (cJ g, 4, .inr (.inl (fun _ => 0))))] [.ref x0, .int a, .int b] (fun rr_ _ => rr_ = sp_X11_stop g x0 a b xr xt xg xb xp xu xm xd xw xh xa xs xf xgs xgh xba0 xba1 xba2 xba3 xba4 xba5 xba6 xba7 xba8 xba9 xba10 xba11 xua0 xua1 xua2 xsa0 xsa1 xsa2 xsa3 xsa4) := by
  refine met_of (fun A => va_Qi _ (bW g A) A) (by decide) (Nat.le_of_ble_eq_true rfl) ?_
  intro p e s m below meth c A ls X hK hP hD hA hZ hS hl
  have hx := X.1
  have hb := X.2.1
  have hml := X.2.2.1
  have hown := X.2.2.2.1
  have hts := X.2.2.2.2.1
  have hnm := X.2.2.2.2.2.2.2
  have hl : lv_has ls 5 [(0, .ref x0), (1, .int a), (2, .int b)] := hl
  refine lv_iload_n hx hb dX11_stop_0 rfl (lv_at hl 1 rfl) ?_
  refine kSi (As := [.int a]) (rest := []) (wr := [(x0, .inr (11, [.ref xr, .ref xt, .ref xg, .ref xb, .ref xp, .ref xu, .ref xm, .ref xd, .ref xw, .ref xh, .ref xa, .ref xs, .ref xf, .int 0, .int 0, .long 0, .long 0, .int 0])), (xg, .inr (3, [.ref xgs, .ref xgh])), (xgs, .inl (cI g, 64, .inl (fun _ => 0))), (xgh, .inl (cI g, 64, .inl (fun _ => 0))), (xb, .inr (1, [.ref xba0, .ref xba1, .ref xba2, .ref xba3, .ref xba4, .ref xba5, .ref xba6, .ref xba7, .ref xba8, .ref xba9, .ref xba10, .ref xba11, .int 0, .int 0])), (xu, .inr (7, [.ref xua0, .ref xua1, .ref xua2, .int 0])), (xs, .inr (9, [.ref xsa0, .ref xsa1, .ref xsa2, .ref xsa3, .ref xsa4, .int 0])), (xsa0, .inl (cJ g, 4, .inr (.inl (fun _ => 0))))]) X (c_X3_isCell l g a) ok_X3_isCell q_622 q_621 rfl hK hP hD hS hA hZ hl.1 [] [0, 1, 2, 3, 4, 5, 6, 7] rfl rfl rfl rfl rfl rfl (Nat.le_of_ble_eq_true rfl) ⟨Nat.le_of_ble_eq_true rfl, Nat.le_of_ble_eq_true rfl⟩ dX11_stop_1 ⟨Nat.le_of_ble_eq_true rfl, Nat.le_of_ble_eq_true rfl⟩ (fun r_1 w1 H locs hw_2 hP hD hS => ?_)
  rw [sp_X3_isCell] at hw_2
  rcases Classical.em (a < 0) with c_3 | c_3
  ·
    rw [if_pos c_3] at hw_2
    obtain ⟨e1, e2⟩ := Prod.mk.inj hw_2
    subst e1; subst e2
    have hP : va_P g.1 classes [(x0, .inr (11, [.ref xr, .ref xt, .ref xg, .ref xb, .ref xp, .ref xu, .ref xm, .ref xd, .ref xw, .ref xh, .ref xa, .ref xs, .ref xf, .int 0, .int 0, .long 0, .long 0, .int 0])), (xg, .inr (3, [.ref xgs, .ref xgh])), (xgs, .inl (cI g, 64, .inl (fun _ => 0))), (xgh, .inl (cI g, 64, .inl (fun _ => 0))), (xb, .inr (1, [.ref xba0, .ref xba1, .ref xba2, .ref xba3, .ref xba4, .ref xba5, .ref xba6, .ref xba7, .ref xba8, .ref xba9, .ref xba10, .ref xba11, .int 0, .int 0])), (xu, .inr (7, [.ref xua0, .ref xua1, .ref xua2, .int 0])), (xs, .inr (9, [.ref xsa0, .ref xsa1, .ref xsa2, .ref xsa3, .ref xsa4, .int 0])), (xsa0, .inl (cJ g, 4, .inr (.inl (fun _ => 0))))] H := hP
    have hD : va_D A [(x0, .inr (11, [.ref xr, .ref xt, .ref xg, .ref xb, .ref xp, .ref xu, .ref xm, .ref xd, .ref xw, .ref xh, .ref xa, .ref xs, .ref xf, .int 0, .int 0, .long 0, .long 0, .int 0])), (xg, .inr (3, [.ref xgs, .ref xgh])), (xgs, .inl (cI g, 64, .inl (fun _ => 0))), (xgh, .inl (cI g, 64, .inl (fun _ => 0))), (xb, .inr (1, [.ref xba0, .ref xba1, .ref xba2, .ref xba3, .ref xba4, .ref xba5, .ref xba6, .ref xba7, .ref xba8, .ref xba9, .ref xba10, .ref xba11, .int 0, .int 0])), (xu, .inr (7, [.ref xua0, .ref xua1, .ref xua2, .int 0])), (xs, .inr (9, [.ref xsa0, .ref xsa1, .ref xsa2, .ref xsa3, .ref xsa4, .int 0])), (xsa0, .inl (cJ g, 4, .inr (.inl (fun _ => 0))))] := hD
    refine lv_if_eq (tgt := 19) hx hb dX11_stop_4 (by decide) (fun _ => ?_) (fun c_4 => absurd (by decide) c_4)
    refine lv_iconst (v := (-1)) hx hb dX11_stop_19 (by decide) ?_
    exact rI X hK hP hD hS dX11_stop_20 (by rfl) (Nat.le_of_ble_eq_true rfl) (Nat.le_of_ble_eq_true rfl) (by show _ = _; unfold sp_X11_stop; rw [if_pos c_3]; try rfl)
  ·
    rw [if_neg c_3] at hw_2
    rcases Classical.em (64 ≤ a) with c_5 | c_5
    ·
      rw [if_pos c_5] at hw_2
      obtain ⟨e1, e2⟩ := Prod.mk.inj hw_2
      subst e1; subst e2
      have hP : va_P g.1 classes [(x0, .inr (11, [.ref xr, .ref xt, .ref xg, .ref xb, .ref xp, .ref xu, .ref xm, .ref xd, .ref xw, .ref xh, .ref xa, .ref xs, .ref xf, .int 0, .int 0, .long 0, .long 0, .int 0])), (xg, .inr (3, [.ref xgs, .ref xgh])), (xgs, .inl (cI g, 64, .inl (fun _ => 0))), (xgh, .inl (cI g, 64, .inl (fun _ => 0))), (xb, .inr (1, [.ref xba0, .ref xba1, .ref xba2, .ref xba3, .ref xba4, .ref xba5, .ref xba6, .ref xba7, .ref xba8, .ref xba9, .ref xba10, .ref xba11, .int 0, .int 0])), (xu, .inr (7, [.ref xua0, .ref xua1, .ref xua2, .int 0])), (xs, .inr (9, [.ref xsa0, .ref xsa1, .ref xsa2, .ref xsa3, .ref xsa4, .int 0])), (xsa0, .inl (cJ g, 4, .inr (.inl (fun _ => 0))))] H := hP
      have hD : va_D A [(x0, .inr (11, [.ref xr, .ref xt, .ref xg, .ref xb, .ref xp, .ref xu, .ref xm, .ref xd, .ref xw, .ref xh, .ref xa, .ref xs, .ref xf, .int 0, .int 0, .long 0, .long 0, .int 0])), (xg, .inr (3, [.ref xgs, .ref xgh])), (xgs, .inl (cI g, 64, .inl (fun _ => 0))), (xgh, .inl (cI g, 64, .inl (fun _ => 0))), (xb, .inr (1, [.ref xba0, .ref xba1, .ref xba2, .ref xba3, .ref xba4, .ref xba5, .ref xba6, .ref xba7, .ref xba8, .ref xba9, .ref xba10, .ref xba11, .int 0, .int 0])), (xu, .inr (7, [.ref xua0, .ref xua1, .ref xua2, .int 0])), (xs, .inr (9, [.ref xsa0, .ref xsa1, .ref xsa2, .ref xsa3, .ref xsa4, .int 0])), (xsa0, .inl (cJ g, 4, .inr (.inl (fun _ => 0))))] := hD
      refine lv_if_eq (tgt := 19) hx hb dX11_stop_4 (by decide) (fun _ => ?_) (fun c_6 => absurd (by decide) c_6)
      refine lv_iconst (v := (-1)) hx hb dX11_stop_19 (by decide) ?_
      exact rI X hK hP hD hS dX11_stop_20 (by rfl) (Nat.le_of_ble_eq_true rfl) (Nat.le_of_ble_eq_true rfl) (by show _ = _; unfold sp_X11_stop; rw [if_neg c_3, if_pos c_5]; try rfl)
    ·
      rw [if_neg c_5] at hw_2
      obtain ⟨e1, e2⟩ := Prod.mk.inj hw_2
      subst e1; subst e2
      have hP : va_P g.1 classes [(x0, .inr (11, [.ref xr, .ref xt, .ref xg, .ref xb, .ref xp, .ref xu, .ref xm, .ref xd, .ref xw, .ref xh, .ref xa, .ref xs, .ref xf, .int 0, .int 0, .long 0, .long 0, .int 0])), (xg, .inr (3, [.ref xgs, .ref xgh])), (xgs, .inl (cI g, 64, .inl (fun _ => 0))), (xgh, .inl (cI g, 64, .inl (fun _ => 0))), (xb, .inr (1, [.ref xba0, .ref xba1, .ref xba2, .ref xba3, .ref xba4, .ref xba5, .ref xba6, .ref xba7, .ref xba8, .ref xba9, .ref xba10, .ref xba11, .int 0, .int 0])), (xu, .inr (7, [.ref xua0, .ref xua1, .ref xua2, .int 0])), (xs, .inr (9, [.ref xsa0, .ref xsa1, .ref xsa2, .ref xsa3, .ref xsa4, .int 0])), (xsa0, .inl (cJ g, 4, .inr (.inl (fun _ => 0))))] H := hP
      have hD : va_D A [(x0, .inr (11, [.ref xr, .ref xt, .ref xg, .ref xb, .ref xp, .ref xu, .ref xm, .ref xd, .ref xw, .ref xh, .ref xa, .ref xs, .ref xf, .int 0, .int 0, .long 0, .long 0, .int 0])), (xg, .inr (3, [.ref xgs, .ref xgh])), (xgs, .inl (cI g, 64, .inl (fun _ => 0))), (xgh, .inl (cI g, 64, .inl (fun _ => 0))), (xb, .inr (1, [.ref xba0, .ref xba1, .ref xba2, .ref xba3, .ref xba4, .ref xba5, .ref xba6, .ref xba7, .ref xba8, .ref xba9, .ref xba10, .ref xba11, .int 0, .int 0])), (xu, .inr (7, [.ref xua0, .ref xua1, .ref xua2, .int 0])), (xs, .inr (9, [.ref xsa0, .ref xsa1, .ref xsa2, .ref xsa3, .ref xsa4, .int 0])), (xsa0, .inl (cJ g, 4, .inr (.inl (fun _ => 0))))] := hD
      refine lv_if_eq (tgt := 19) hx hb dX11_stop_4 (by decide) (fun c_7 => absurd c_7 (by decide)) (fun _ => ?_)
      refine lv_iload_n hx hb dX11_stop_7 rfl (lv_at hl 2 rfl) ?_
      refine kSi (As := [.int b]) (rest := []) (wr := [(x0, .inr (11, [.ref xr, .ref xt, .ref xg, .ref xb, .ref xp, .ref xu, .ref xm, .ref xd, .ref xw, .ref xh, .ref xa, .ref xs, .ref xf, .int 0, .int 0, .long 0, .long 0, .int 0])), (xg, .inr (3, [.ref xgs, .ref xgh])), (xgs, .inl (cI g, 64, .inl (fun _ => 0))), (xgh, .inl (cI g, 64, .inl (fun _ => 0))), (xb, .inr (1, [.ref xba0, .ref xba1, .ref xba2, .ref xba3, .ref xba4, .ref xba5, .ref xba6, .ref xba7, .ref xba8, .ref xba9, .ref xba10, .ref xba11, .int 0, .int 0])), (xu, .inr (7, [.ref xua0, .ref xua1, .ref xua2, .int 0])), (xs, .inr (9, [.ref xsa0, .ref xsa1, .ref xsa2, .ref xsa3, .ref xsa4, .int 0])), (xsa0, .inl (cJ g, 4, .inr (.inl (fun _ => 0))))]) X (c_X3_isCell l g b) ok_X3_isCell q_622 q_621 rfl hK hP hD hS hA hZ hl.1 [] [0, 1, 2, 3, 4, 5, 6, 7] rfl rfl rfl rfl rfl rfl (Nat.le_of_ble_eq_true rfl) ⟨Nat.le_of_ble_eq_true rfl, Nat.le_of_ble_eq_true rfl⟩ dX11_stop_8 ⟨Nat.le_of_ble_eq_true rfl, Nat.le_of_ble_eq_true rfl⟩ (fun r_8 w1 H locs hw_9 hP hD hS => ?_)
      rw [sp_X3_isCell] at hw_9
      rcases Classical.em (b < 0) with c_10 | c_10
      ·
        rw [if_pos c_10] at hw_9
        obtain ⟨e1, e2⟩ := Prod.mk.inj hw_9
        subst e1; subst e2
        have hP : va_P g.1 classes [(x0, .inr (11, [.ref xr, .ref xt, .ref xg, .ref xb, .ref xp, .ref xu, .ref xm, .ref xd, .ref xw, .ref xh, .ref xa, .ref xs, .ref xf, .int 0, .int 0, .long 0, .long 0, .int 0])), (xg, .inr (3, [.ref xgs, .ref xgh])), (xgs, .inl (cI g, 64, .inl (fun _ => 0))), (xgh, .inl (cI g, 64, .inl (fun _ => 0))), (xb, .inr (1, [.ref xba0, .ref xba1, .ref xba2, .ref xba3, .ref xba4, .ref xba5, .ref xba6, .ref xba7, .ref xba8, .ref xba9, .ref xba10, .ref xba11, .int 0, .int 0])), (xu, .inr (7, [.ref xua0, .ref xua1, .ref xua2, .int 0])), (xs, .inr (9, [.ref xsa0, .ref xsa1, .ref xsa2, .ref xsa3, .ref xsa4, .int 0])), (xsa0, .inl (cJ g, 4, .inr (.inl (fun _ => 0))))] H := hP
        have hD : va_D A [(x0, .inr (11, [.ref xr, .ref xt, .ref xg, .ref xb, .ref xp, .ref xu, .ref xm, .ref xd, .ref xw, .ref xh, .ref xa, .ref xs, .ref xf, .int 0, .int 0, .long 0, .long 0, .int 0])), (xg, .inr (3, [.ref xgs, .ref xgh])), (xgs, .inl (cI g, 64, .inl (fun _ => 0))), (xgh, .inl (cI g, 64, .inl (fun _ => 0))), (xb, .inr (1, [.ref xba0, .ref xba1, .ref xba2, .ref xba3, .ref xba4, .ref xba5, .ref xba6, .ref xba7, .ref xba8, .ref xba9, .ref xba10, .ref xba11, .int 0, .int 0])), (xu, .inr (7, [.ref xua0, .ref xua1, .ref xua2, .int 0])), (xs, .inr (9, [.ref xsa0, .ref xsa1, .ref xsa2, .ref xsa3, .ref xsa4, .int 0])), (xsa0, .inl (cJ g, 4, .inr (.inl (fun _ => 0))))] := hD
        refine lv_if_eq (tgt := 19) hx hb dX11_stop_11 (by decide) (fun _ => ?_) (fun c_11 => absurd (by decide) c_11)
        refine lv_iconst (v := (-1)) hx hb dX11_stop_19 (by decide) ?_
        exact rI X hK hP hD hS dX11_stop_20 (by rfl) (Nat.le_of_ble_eq_true rfl) (Nat.le_of_ble_eq_true rfl) (by show _ = _; unfold sp_X11_stop; rw [if_neg c_3, if_neg c_5, if_pos c_10]; try rfl)
      ·
        rw [if_neg c_10] at hw_9
        rcases Classical.em (64 ≤ b) with c_12 | c_12
        ·
          rw [if_pos c_12] at hw_9
          obtain ⟨e1, e2⟩ := Prod.mk.inj hw_9
          subst e1; subst e2
          have hP : va_P g.1 classes [(x0, .inr (11, [.ref xr, .ref xt, .ref xg, .ref xb, .ref xp, .ref xu, .ref xm, .ref xd, .ref xw, .ref xh, .ref xa, .ref xs, .ref xf, .int 0, .int 0, .long 0, .long 0, .int 0])), (xg, .inr (3, [.ref xgs, .ref xgh])), (xgs, .inl (cI g, 64, .inl (fun _ => 0))), (xgh, .inl (cI g, 64, .inl (fun _ => 0))), (xb, .inr (1, [.ref xba0, .ref xba1, .ref xba2, .ref xba3, .ref xba4, .ref xba5, .ref xba6, .ref xba7, .ref xba8, .ref xba9, .ref xba10, .ref xba11, .int 0, .int 0])), (xu, .inr (7, [.ref xua0, .ref xua1, .ref xua2, .int 0])), (xs, .inr (9, [.ref xsa0, .ref xsa1, .ref xsa2, .ref xsa3, .ref xsa4, .int 0])), (xsa0, .inl (cJ g, 4, .inr (.inl (fun _ => 0))))] H := hP
          have hD : va_D A [(x0, .inr (11, [.ref xr, .ref xt, .ref xg, .ref xb, .ref xp, .ref xu, .ref xm, .ref xd, .ref xw, .ref xh, .ref xa, .ref xs, .ref xf, .int 0, .int 0, .long 0, .long 0, .int 0])), (xg, .inr (3, [.ref xgs, .ref xgh])), (xgs, .inl (cI g, 64, .inl (fun _ => 0))), (xgh, .inl (cI g, 64, .inl (fun _ => 0))), (xb, .inr (1, [.ref xba0, .ref xba1, .ref xba2, .ref xba3, .ref xba4, .ref xba5, .ref xba6, .ref xba7, .ref xba8, .ref xba9, .ref xba10, .ref xba11, .int 0, .int 0])), (xu, .inr (7, [.ref xua0, .ref xua1, .ref xua2, .int 0])), (xs, .inr (9, [.ref xsa0, .ref xsa1, .ref xsa2, .ref xsa3, .ref xsa4, .int 0])), (xsa0, .inl (cJ g, 4, .inr (.inl (fun _ => 0))))] := hD
          refine lv_if_eq (tgt := 19) hx hb dX11_stop_11 (by decide) (fun _ => ?_) (fun c_13 => absurd (by decide) c_13)
          refine lv_iconst (v := (-1)) hx hb dX11_stop_19 (by decide) ?_
          exact rI X hK hP hD hS dX11_stop_20 (by rfl) (Nat.le_of_ble_eq_true rfl) (Nat.le_of_ble_eq_true rfl) (by show _ = _; unfold sp_X11_stop; rw [if_neg c_3, if_neg c_5, if_neg c_10, if_pos c_12]; try rfl)
        ·
          rw [if_neg c_12] at hw_9
          obtain ⟨e1, e2⟩ := Prod.mk.inj hw_9
          subst e1; subst e2
          have hP : va_P g.1 classes [(x0, .inr (11, [.ref xr, .ref xt, .ref xg, .ref xb, .ref xp, .ref xu, .ref xm, .ref xd, .ref xw, .ref xh, .ref xa, .ref xs, .ref xf, .int 0, .int 0, .long 0, .long 0, .int 0])), (xg, .inr (3, [.ref xgs, .ref xgh])), (xgs, .inl (cI g, 64, .inl (fun _ => 0))), (xgh, .inl (cI g, 64, .inl (fun _ => 0))), (xb, .inr (1, [.ref xba0, .ref xba1, .ref xba2, .ref xba3, .ref xba4, .ref xba5, .ref xba6, .ref xba7, .ref xba8, .ref xba9, .ref xba10, .ref xba11, .int 0, .int 0])), (xu, .inr (7, [.ref xua0, .ref xua1, .ref xua2, .int 0])), (xs, .inr (9, [.ref xsa0, .ref xsa1, .ref xsa2, .ref xsa3, .ref xsa4, .int 0])), (xsa0, .inl (cJ g, 4, .inr (.inl (fun _ => 0))))] H := hP
          have hD : va_D A [(x0, .inr (11, [.ref xr, .ref xt, .ref xg, .ref xb, .ref xp, .ref xu, .ref xm, .ref xd, .ref xw, .ref xh, .ref xa, .ref xs, .ref xf, .int 0, .int 0, .long 0, .long 0, .int 0])), (xg, .inr (3, [.ref xgs, .ref xgh])), (xgs, .inl (cI g, 64, .inl (fun _ => 0))), (xgh, .inl (cI g, 64, .inl (fun _ => 0))), (xb, .inr (1, [.ref xba0, .ref xba1, .ref xba2, .ref xba3, .ref xba4, .ref xba5, .ref xba6, .ref xba7, .ref xba8, .ref xba9, .ref xba10, .ref xba11, .int 0, .int 0])), (xu, .inr (7, [.ref xua0, .ref xua1, .ref xua2, .int 0])), (xs, .inr (9, [.ref xsa0, .ref xsa1, .ref xsa2, .ref xsa3, .ref xsa4, .int 0])), (xsa0, .inl (cJ g, 4, .inr (.inl (fun _ => 0))))] := hD
          refine lv_if_eq (tgt := 19) hx hb dX11_stop_11 (by decide) (fun c_14 => absurd c_14 (by decide)) (fun _ => ?_)
          refine lv_iload_n hx hb dX11_stop_14 rfl (lv_at hl 1 rfl) ?_
          refine lv_iload_n hx hb dX11_stop_15 rfl (lv_at hl 2 rfl) ?_
          refine lv_icmp_ne (tgt := 21) hx hb dX11_stop_16 (by decide) (fun c_15 => ?_) (fun c_15 => ?_)
          ·
            refine lv_aload_n hx hb dX11_stop_21 rfl (lv_at hl 0 rfl) ?_
            refine va_get (D := g.1) (ci := 11) (v := .ref xg) (C := RX11) (T := TX11) (N := 18) hx hb hts fw_X11 hown hK hP 0 rfl rfl 2 (by decide) (hts _ q_460) (fun _ h9 => h9) rfl dX11_stop_22 ?_
            refine lv_iload_n hx hb dX11_stop_25 rfl (lv_at hl 1 rfl) ?_
            refine kVi (As := [.int a]) (rest := []) (wr := [(x0, .inr (11, [.ref xr, .ref xt, .ref xg, .ref xb, .ref xp, .ref xu, .ref xm, .ref xd, .ref xw, .ref xh, .ref xa, .ref xs, .ref xf, .int 0, .int 0, .long 0, .long 0, .int 0])), (xgh, .inl (cI g, 64, .inl (fun _ => 0))), (xb, .inr (1, [.ref xba0, .ref xba1, .ref xba2, .ref xba3, .ref xba4, .ref xba5, .ref xba6, .ref xba7, .ref xba8, .ref xba9, .ref xba10, .ref xba11, .int 0, .int 0])), (xu, .inr (7, [.ref xua0, .ref xua1, .ref xua2, .int 0])), (xs, .inr (9, [.ref xsa0, .ref xsa1, .ref xsa2, .ref xsa3, .ref xsa4, .int 0])), (xsa0, .inl (cJ g, 4, .inr (.inl (fun _ => 0))))]) X (c_X3_isWater l g xg a xgs xgh c_3 c_5) ok_X3_isWater okv_X3_isWater q_651 rfl hK hP hD hS hA hZ hl.1 [1, 2] [0, 3, 4, 5, 6, 7] rfl rfl rfl rfl rfl 0 3 rfl rfl rfl (Nat.le_of_ble_eq_true rfl) ⟨Nat.le_of_ble_eq_true rfl, Nat.le_of_ble_eq_true rfl⟩ dX11_stop_26 ⟨Nat.le_of_ble_eq_true rfl, Nat.le_of_ble_eq_true rfl⟩ (fun r_16 w1 H locs hw_17 hP hD hS => ?_)
            rw [sp_X3_isWater] at hw_17
            obtain ⟨e1, e2⟩ := Prod.mk.inj hw_17
            subst e1; subst e2
            have hP : va_P g.1 classes [(x0, .inr (11, [.ref xr, .ref xt, .ref xg, .ref xb, .ref xp, .ref xu, .ref xm, .ref xd, .ref xw, .ref xh, .ref xa, .ref xs, .ref xf, .int 0, .int 0, .long 0, .long 0, .int 0])), (xgh, .inl (cI g, 64, .inl (fun _ => 0))), (xb, .inr (1, [.ref xba0, .ref xba1, .ref xba2, .ref xba3, .ref xba4, .ref xba5, .ref xba6, .ref xba7, .ref xba8, .ref xba9, .ref xba10, .ref xba11, .int 0, .int 0])), (xu, .inr (7, [.ref xua0, .ref xua1, .ref xua2, .int 0])), (xs, .inr (9, [.ref xsa0, .ref xsa1, .ref xsa2, .ref xsa3, .ref xsa4, .int 0])), (xsa0, .inl (cJ g, 4, .inr (.inl (fun _ => 0)))), (xg, .inr (3, [.ref xgs, .ref xgh])), (xgs, .inl (cI g, 64, .inl (fun _ => 0)))] H := hP
            have hD : va_D A [(x0, .inr (11, [.ref xr, .ref xt, .ref xg, .ref xb, .ref xp, .ref xu, .ref xm, .ref xd, .ref xw, .ref xh, .ref xa, .ref xs, .ref xf, .int 0, .int 0, .long 0, .long 0, .int 0])), (xgh, .inl (cI g, 64, .inl (fun _ => 0))), (xb, .inr (1, [.ref xba0, .ref xba1, .ref xba2, .ref xba3, .ref xba4, .ref xba5, .ref xba6, .ref xba7, .ref xba8, .ref xba9, .ref xba10, .ref xba11, .int 0, .int 0])), (xu, .inr (7, [.ref xua0, .ref xua1, .ref xua2, .int 0])), (xs, .inr (9, [.ref xsa0, .ref xsa1, .ref xsa2, .ref xsa3, .ref xsa4, .int 0])), (xsa0, .inl (cJ g, 4, .inr (.inl (fun _ => 0)))), (xg, .inr (3, [.ref xgs, .ref xgh])), (xgs, .inl (cI g, 64, .inl (fun _ => 0)))] := hD
            refine lv_if_ne (tgt := 43) hx hb dX11_stop_29 (by decide) (fun c_18 => absurd (by decide) c_18) (fun _ => ?_)
            refine lv_aload_n hx hb dX11_stop_32 rfl (lv_at hl 0 rfl) ?_
            refine va_get (D := g.1) (ci := 11) (v := .ref xg) (C := RX11) (T := TX11) (N := 18) hx hb hts fw_X11 hown hK hP 0 rfl rfl 2 (by decide) (hts _ q_460) (fun _ h9 => h9) rfl dX11_stop_33 ?_
            refine lv_iload_n hx hb dX11_stop_36 rfl (lv_at hl 2 rfl) ?_
            refine kVi (As := [.int b]) (rest := []) (wr := [(x0, .inr (11, [.ref xr, .ref xt, .ref xg, .ref xb, .ref xp, .ref xu, .ref xm, .ref xd, .ref xw, .ref xh, .ref xa, .ref xs, .ref xf, .int 0, .int 0, .long 0, .long 0, .int 0])), (xgh, .inl (cI g, 64, .inl (fun _ => 0))), (xb, .inr (1, [.ref xba0, .ref xba1, .ref xba2, .ref xba3, .ref xba4, .ref xba5, .ref xba6, .ref xba7, .ref xba8, .ref xba9, .ref xba10, .ref xba11, .int 0, .int 0])), (xu, .inr (7, [.ref xua0, .ref xua1, .ref xua2, .int 0])), (xs, .inr (9, [.ref xsa0, .ref xsa1, .ref xsa2, .ref xsa3, .ref xsa4, .int 0])), (xsa0, .inl (cJ g, 4, .inr (.inl (fun _ => 0))))]) X (c_X3_isWater l g xg b xgs xgh c_10 c_12) ok_X3_isWater okv_X3_isWater q_651 rfl hK hP hD hS hA hZ hl.1 [6, 7] [0, 1, 2, 3, 4, 5] rfl rfl rfl rfl rfl 0 3 rfl rfl rfl (Nat.le_of_ble_eq_true rfl) ⟨Nat.le_of_ble_eq_true rfl, Nat.le_of_ble_eq_true rfl⟩ dX11_stop_37 ⟨Nat.le_of_ble_eq_true rfl, Nat.le_of_ble_eq_true rfl⟩ (fun r_19 w1 H locs hw_20 hP hD hS => ?_)
            rw [sp_X3_isWater] at hw_20
            obtain ⟨e1, e2⟩ := Prod.mk.inj hw_20
            subst e1; subst e2
            have hP : va_P g.1 classes [(x0, .inr (11, [.ref xr, .ref xt, .ref xg, .ref xb, .ref xp, .ref xu, .ref xm, .ref xd, .ref xw, .ref xh, .ref xa, .ref xs, .ref xf, .int 0, .int 0, .long 0, .long 0, .int 0])), (xgh, .inl (cI g, 64, .inl (fun _ => 0))), (xb, .inr (1, [.ref xba0, .ref xba1, .ref xba2, .ref xba3, .ref xba4, .ref xba5, .ref xba6, .ref xba7, .ref xba8, .ref xba9, .ref xba10, .ref xba11, .int 0, .int 0])), (xu, .inr (7, [.ref xua0, .ref xua1, .ref xua2, .int 0])), (xs, .inr (9, [.ref xsa0, .ref xsa1, .ref xsa2, .ref xsa3, .ref xsa4, .int 0])), (xsa0, .inl (cJ g, 4, .inr (.inl (fun _ => 0)))), (xg, .inr (3, [.ref xgs, .ref xgh])), (xgs, .inl (cI g, 64, .inl (fun _ => 0)))] H := hP
            have hD : va_D A [(x0, .inr (11, [.ref xr, .ref xt, .ref xg, .ref xb, .ref xp, .ref xu, .ref xm, .ref xd, .ref xw, .ref xh, .ref xa, .ref xs, .ref xf, .int 0, .int 0, .long 0, .long 0, .int 0])), (xgh, .inl (cI g, 64, .inl (fun _ => 0))), (xb, .inr (1, [.ref xba0, .ref xba1, .ref xba2, .ref xba3, .ref xba4, .ref xba5, .ref xba6, .ref xba7, .ref xba8, .ref xba9, .ref xba10, .ref xba11, .int 0, .int 0])), (xu, .inr (7, [.ref xua0, .ref xua1, .ref xua2, .int 0])), (xs, .inr (9, [.ref xsa0, .ref xsa1, .ref xsa2, .ref xsa3, .ref xsa4, .int 0])), (xsa0, .inl (cJ g, 4, .inr (.inl (fun _ => 0)))), (xg, .inr (3, [.ref xgs, .ref xgh])), (xgs, .inl (cI g, 64, .inl (fun _ => 0)))] := hD
            refine lv_if_eq (tgt := 46) hx hb dX11_stop_40 (by decide) (fun _ => ?_) (fun c_21 => absurd (by decide) c_21)
            refine lv_aload_n hx hb dX11_stop_46 rfl (lv_at hl 0 rfl) ?_
            refine va_get (D := g.1) (ci := 11) (v := .ref xs) (C := RX11) (T := TX11) (N := 18) hx hb hts fw_X11 hown hK hP 0 rfl rfl 11 (by decide) (hts _ q_469) (fun _ h9 => h9) rfl dX11_stop_47 ?_
            refine lv_aload_n hx hb dX11_stop_50 rfl (lv_at hl 0 rfl) ?_
            refine va_get (D := g.1) (ci := 11) (v := .ref xg) (C := RX11) (T := TX11) (N := 18) hx hb hts fw_X11 hown hK hP 0 rfl rfl 2 (by decide) (hts _ q_460) (fun _ h9 => h9) rfl dX11_stop_51 ?_
            refine lv_aload_n hx hb dX11_stop_54 rfl (lv_at hl 0 rfl) ?_
            refine lv_iconst (v := 0) hx hb dX11_stop_55 (by decide) ?_
            refine kVi (As := [.int 0]) (rest := [.ref xg, .ref xs]) (wr := [(xgh, .inl (cI g, 64, .inl (fun _ => 0))), (xb, .inr (1, [.ref xba0, .ref xba1, .ref xba2, .ref xba3, .ref xba4, .ref xba5, .ref xba6, .ref xba7, .ref xba8, .ref xba9, .ref xba10, .ref xba11, .int 0, .int 0])), (xs, .inr (9, [.ref xsa0, .ref xsa1, .ref xsa2, .ref xsa3, .ref xsa4, .int 0])), (xsa0, .inl (cJ g, 4, .inr (.inl (fun _ => 0)))), (xg, .inr (3, [.ref xgs, .ref xgh])), (xgs, .inl (cI g, 64, .inl (fun _ => 0)))]) X (c_X11_inForce0 l g x0 xr xt xg xb xp xu xm xd xw xh xa xs xf xua0 xua1 xua2) ok_X11_inForce okv_X11_inForce q_809 rfl hK hP hD hS hA hZ hl.1 [0, 3] [1, 2, 4, 5, 6, 7] rfl rfl rfl rfl rfl 0 11 rfl rfl rfl (Nat.le_of_ble_eq_true rfl) ⟨Nat.le_of_ble_eq_true rfl, Nat.le_of_ble_eq_true rfl⟩ dX11_stop_56 ⟨Nat.le_of_ble_eq_true rfl, Nat.le_of_ble_eq_true rfl⟩ (fun r_22 w1 H locs hw_23 hP hD hS => ?_)
            rw [sp_X11_inForce0] at hw_23
            obtain ⟨e1, e2⟩ := Prod.mk.inj hw_23
            subst e1; subst e2
            have hP : va_P g.1 classes [(xgh, .inl (cI g, 64, .inl (fun _ => 0))), (xb, .inr (1, [.ref xba0, .ref xba1, .ref xba2, .ref xba3, .ref xba4, .ref xba5, .ref xba6, .ref xba7, .ref xba8, .ref xba9, .ref xba10, .ref xba11, .int 0, .int 0])), (xs, .inr (9, [.ref xsa0, .ref xsa1, .ref xsa2, .ref xsa3, .ref xsa4, .int 0])), (xsa0, .inl (cJ g, 4, .inr (.inl (fun _ => 0)))), (xg, .inr (3, [.ref xgs, .ref xgh])), (xgs, .inl (cI g, 64, .inl (fun _ => 0))), (x0, .inr (11, [.ref xr, .ref xt, .ref xg, .ref xb, .ref xp, .ref xu, .ref xm, .ref xd, .ref xw, .ref xh, .ref xa, .ref xs, .ref xf, .int 0, .int 0, .long 0, .long 0, .int 0])), (xu, .inr (7, [.ref xua0, .ref xua1, .ref xua2, .int 0]))] H := hP
            have hD : va_D A [(xgh, .inl (cI g, 64, .inl (fun _ => 0))), (xb, .inr (1, [.ref xba0, .ref xba1, .ref xba2, .ref xba3, .ref xba4, .ref xba5, .ref xba6, .ref xba7, .ref xba8, .ref xba9, .ref xba10, .ref xba11, .int 0, .int 0])), (xs, .inr (9, [.ref xsa0, .ref xsa1, .ref xsa2, .ref xsa3, .ref xsa4, .int 0])), (xsa0, .inl (cJ g, 4, .inr (.inl (fun _ => 0)))), (xg, .inr (3, [.ref xgs, .ref xgh])), (xgs, .inl (cI g, 64, .inl (fun _ => 0))), (x0, .inr (11, [.ref xr, .ref xt, .ref xg, .ref xb, .ref xp, .ref xu, .ref xm, .ref xd, .ref xw, .ref xh, .ref xa, .ref xs, .ref xf, .int 0, .int 0, .long 0, .long 0, .int 0])), (xu, .inr (7, [.ref xua0, .ref xua1, .ref xua2, .int 0]))] := hD
            refine kVv (As := [.ref xg, .int 10]) (rest := []) (wr := [(xb, .inr (1, [.ref xba0, .ref xba1, .ref xba2, .ref xba3, .ref xba4, .ref xba5, .ref xba6, .ref xba7, .ref xba8, .ref xba9, .ref xba10, .ref xba11, .int 0, .int 0])), (x0, .inr (11, [.ref xr, .ref xt, .ref xg, .ref xb, .ref xp, .ref xu, .ref xm, .ref xd, .ref xw, .ref xh, .ref xa, .ref xs, .ref xf, .int 0, .int 0, .long 0, .long 0, .int 0])), (xu, .inr (7, [.ref xua0, .ref xua1, .ref xua2, .int 0]))]) X (c_X9_survey l g xs xg xsa0 xsa1 xsa2 xsa3 xsa4 xgs xgh) ok_X9_survey okv_X9_survey q_1323 rfl hK hP hD hS hA hZ hl.1 [2, 3, 4, 5, 0] [1, 6, 7] rfl rfl rfl rfl rfl 0 9 rfl rfl rfl (Nat.le_of_ble_eq_true rfl) ⟨Nat.le_of_ble_eq_true rfl, Nat.le_of_ble_eq_true rfl⟩ dX11_stop_59 ⟨Nat.le_of_ble_eq_true rfl, Nat.le_of_ble_eq_true rfl⟩ (fun w1 H locs hw_25 hP hD hS => ?_)
            rw [sp_X9_survey] at hw_25
            subst hw_25
            have hP : va_P g.1 classes [(xb, .inr (1, [.ref xba0, .ref xba1, .ref xba2, .ref xba3, .ref xba4, .ref xba5, .ref xba6, .ref xba7, .ref xba8, .ref xba9, .ref xba10, .ref xba11, .int 0, .int 0])), (x0, .inr (11, [.ref xr, .ref xt, .ref xg, .ref xb, .ref xp, .ref xu, .ref xm, .ref xd, .ref xw, .ref xh, .ref xa, .ref xs, .ref xf, .int 0, .int 0, .long 0, .long 0, .int 0])), (xu, .inr (7, [.ref xua0, .ref xua1, .ref xua2, .int 0])), (xs, .inr (9, [.ref xsa0, .ref xsa1, .ref xsa2, .ref xsa3, .ref xsa4, .int 0])), (xsa0, .inl (cJ g, 4, .inr (.inl opF))), (xg, .inr (3, [.ref xgs, .ref xgh])), (xgs, .inl (cI g, 64, .inl (fun _ => 0))), (xgh, .inl (cI g, 64, .inl (fun _ => 0)))] H := hP
            have hD : va_D A [(xb, .inr (1, [.ref xba0, .ref xba1, .ref xba2, .ref xba3, .ref xba4, .ref xba5, .ref xba6, .ref xba7, .ref xba8, .ref xba9, .ref xba10, .ref xba11, .int 0, .int 0])), (x0, .inr (11, [.ref xr, .ref xt, .ref xg, .ref xb, .ref xp, .ref xu, .ref xm, .ref xd, .ref xw, .ref xh, .ref xa, .ref xs, .ref xf, .int 0, .int 0, .long 0, .long 0, .int 0])), (xu, .inr (7, [.ref xua0, .ref xua1, .ref xua2, .int 0])), (xs, .inr (9, [.ref xsa0, .ref xsa1, .ref xsa2, .ref xsa3, .ref xsa4, .int 0])), (xsa0, .inl (cJ g, 4, .inr (.inl opF))), (xg, .inr (3, [.ref xgs, .ref xgh])), (xgs, .inl (cI g, 64, .inl (fun _ => 0))), (xgh, .inl (cI g, 64, .inl (fun _ => 0)))] := hD
            refine lv_aload_n hx hb dX11_stop_62 rfl (lv_at hl 0 rfl) ?_
            refine va_get (D := g.1) (ci := 11) (v := .ref xs) (C := RX11) (T := TX11) (N := 18) hx hb hts fw_X11 hown hK hP 1 rfl rfl 11 (by decide) (hts _ q_469) (fun _ h9 => h9) rfl dX11_stop_63 ?_
            refine lv_iload_n hx hb dX11_stop_66 rfl (lv_at hl 1 rfl) ?_
            obtain ⟨ja, h_ja, e_ja⟩ := natI (x := a) (n := 64) (by simp only [i32lt, i32le, i32eq, Int32.reduceToInt] at c_3 c_5 c_15 ⊢; omega) (by simp only [i32lt, i32le, i32eq, Int32.reduceToInt] at c_3 c_5 c_15 ⊢; omega) (by decide)
            have hn_ja : (nI ja).toInt = (ja : Int) := nI_toInt (by omega)
            refine lv_topk (v := nI ja) e_ja ?_
            refine lv_iload_n hx hb dX11_stop_67 rfl (lv_at hl 2 rfl) ?_
            obtain ⟨jb, h_jb, e_jb⟩ := natI (x := b) (n := 64) (by simp only [i32lt, i32le, i32eq, Int32.reduceToInt] at c_10 c_12 c_15 ⊢; omega) (by simp only [i32lt, i32le, i32eq, Int32.reduceToInt] at c_10 c_12 c_15 ⊢; omega) (by decide)
            have hn_jb : (nI jb).toInt = (jb : Int) := nI_toInt (by omega)
            refine lv_topk (v := nI jb) e_jb ?_
            have hab : ja ≠ jb := fun h => c_15 (by rw [e_ja, e_jb, h])
            refine lv_lconst (v := 0) hx hb dX11_stop_68 (by decide) ?_
            refine kVi (As := [.int (nI ja), .int (nI jb), .long 0]) (rest := []) (wr := [(xb, .inr (1, [.ref xba0, .ref xba1, .ref xba2, .ref xba3, .ref xba4, .ref xba5, .ref xba6, .ref xba7, .ref xba8, .ref xba9, .ref xba10, .ref xba11, .int 0, .int 0])), (x0, .inr (11, [.ref xr, .ref xt, .ref xg, .ref xb, .ref xp, .ref xu, .ref xm, .ref xd, .ref xw, .ref xh, .ref xa, .ref xs, .ref xf, .int 0, .int 0, .long 0, .long 0, .int 0])), (xu, .inr (7, [.ref xua0, .ref xua1, .ref xua2, .int 0])), (xg, .inr (3, [.ref xgs, .ref xgh])), (xgs, .inl (cI g, 64, .inl (fun _ => 0))), (xgh, .inl (cI g, 64, .inl (fun _ => 0)))]) X (c_X9_connects l g xs ja jb xsa0 xsa1 xsa2 xsa3 xsa4 (by first | decide | omega) (by first | decide | omega) (by first | decide | omega)) ok_X9_connects okv_X9_connects q_1329 rfl hK hP hD hS hA hZ hl.1 [3, 4] [0, 1, 2, 5, 6, 7] rfl rfl rfl rfl rfl 0 9 rfl rfl rfl (Nat.le_of_ble_eq_true rfl) ⟨Nat.le_of_ble_eq_true rfl, Nat.le_of_ble_eq_true rfl⟩ dX11_stop_69 ⟨Nat.le_of_ble_eq_true rfl, Nat.le_of_ble_eq_true rfl⟩ (fun r_26 w1 H locs hw_27 hP hD hS => ?_)
            rw [sp_X9_connects] at hw_27
            obtain ⟨e1, e2⟩ := Prod.mk.inj hw_27
            subst e1; subst e2
            have hP : va_P g.1 classes [(xb, .inr (1, [.ref xba0, .ref xba1, .ref xba2, .ref xba3, .ref xba4, .ref xba5, .ref xba6, .ref xba7, .ref xba8, .ref xba9, .ref xba10, .ref xba11, .int 0, .int 0])), (x0, .inr (11, [.ref xr, .ref xt, .ref xg, .ref xb, .ref xp, .ref xu, .ref xm, .ref xd, .ref xw, .ref xh, .ref xa, .ref xs, .ref xf, .int 0, .int 0, .long 0, .long 0, .int 0])), (xu, .inr (7, [.ref xua0, .ref xua1, .ref xua2, .int 0])), (xg, .inr (3, [.ref xgs, .ref xgh])), (xgs, .inl (cI g, 64, .inl (fun _ => 0))), (xgh, .inl (cI g, 64, .inl (fun _ => 0))), (xs, .inr (9, [.ref xsa0, .ref xsa1, .ref xsa2, .ref xsa3, .ref xsa4, .int 0])), (xsa0, .inl (cJ g, 4, .inr (.inl opF)))] H := hP
            have hD : va_D A [(xb, .inr (1, [.ref xba0, .ref xba1, .ref xba2, .ref xba3, .ref xba4, .ref xba5, .ref xba6, .ref xba7, .ref xba8, .ref xba9, .ref xba10, .ref xba11, .int 0, .int 0])), (x0, .inr (11, [.ref xr, .ref xt, .ref xg, .ref xb, .ref xp, .ref xu, .ref xm, .ref xd, .ref xw, .ref xh, .ref xa, .ref xs, .ref xf, .int 0, .int 0, .long 0, .long 0, .int 0])), (xu, .inr (7, [.ref xua0, .ref xua1, .ref xua2, .int 0])), (xg, .inr (3, [.ref xgs, .ref xgh])), (xgs, .inl (cI g, 64, .inl (fun _ => 0))), (xgh, .inl (cI g, 64, .inl (fun _ => 0))), (xs, .inr (9, [.ref xsa0, .ref xsa1, .ref xsa2, .ref xsa3, .ref xsa4, .int 0])), (xsa0, .inl (cJ g, 4, .inr (.inl opF)))] := hD
            refine lv_if_ne (tgt := 81) hx hb dX11_stop_72 (by decide) (fun _ => ?_) (fun c_28 => absurd c_28 (by decide))
            refine lv_aload_n hx hb dX11_stop_81 rfl (lv_at hl 0 rfl) ?_
            refine va_get (D := g.1) (ci := 11) (v := .ref xb) (C := RX11) (T := TX11) (N := 18) hx hb hts fw_X11 hown hK hP 1 rfl rfl 3 (by decide) (hts _ q_461) (fun _ h9 => h9) rfl dX11_stop_82 ?_
            refine kVl (As := []) (rest := []) (wr := [(x0, .inr (11, [.ref xr, .ref xt, .ref xg, .ref xb, .ref xp, .ref xu, .ref xm, .ref xd, .ref xw, .ref xh, .ref xa, .ref xs, .ref xf, .int 0, .int 0, .long 0, .long 0, .int 0])), (xu, .inr (7, [.ref xua0, .ref xua1, .ref xua2, .int 0])), (xg, .inr (3, [.ref xgs, .ref xgh])), (xgs, .inl (cI g, 64, .inl (fun _ => 0))), (xgh, .inl (cI g, 64, .inl (fun _ => 0))), (xs, .inr (9, [.ref xsa0, .ref xsa1, .ref xsa2, .ref xsa3, .ref xsa4, .int 0])), (xsa0, .inl (cJ g, 4, .inr (.inl opF)))]) X (c_X1_standingCells l g xb xba0 xba1 xba2 xba3 xba4 xba5 xba6 xba7 xba8 xba9 xba10 xba11) ok_X1_standingCells okv_X1_standingCells q_1335 rfl hK hP hD hS hA hZ hl.1 [0] [1, 2, 3, 4, 5, 6, 7] rfl rfl rfl rfl rfl 0 1 rfl rfl rfl (Nat.le_of_ble_eq_true rfl) ⟨Nat.le_of_ble_eq_true rfl, Nat.le_of_ble_eq_true rfl⟩ dX11_stop_85 ⟨Nat.le_of_ble_eq_true rfl, Nat.le_of_ble_eq_true rfl⟩ (fun r_29 w1 H locs hw_30 hP hD hS => ?_)
            rw [sp_X1_standingCells] at hw_30
            obtain ⟨e1, e2⟩ := Prod.mk.inj hw_30
            subst e1; subst e2
            have hP : va_P g.1 classes [(x0, .inr (11, [.ref xr, .ref xt, .ref xg, .ref xb, .ref xp, .ref xu, .ref xm, .ref xd, .ref xw, .ref xh, .ref xa, .ref xs, .ref xf, .int 0, .int 0, .long 0, .long 0, .int 0])), (xu, .inr (7, [.ref xua0, .ref xua1, .ref xua2, .int 0])), (xg, .inr (3, [.ref xgs, .ref xgh])), (xgs, .inl (cI g, 64, .inl (fun _ => 0))), (xgh, .inl (cI g, 64, .inl (fun _ => 0))), (xs, .inr (9, [.ref xsa0, .ref xsa1, .ref xsa2, .ref xsa3, .ref xsa4, .int 0])), (xsa0, .inl (cJ g, 4, .inr (.inl opF))), (xb, .inr (1, [.ref xba0, .ref xba1, .ref xba2, .ref xba3, .ref xba4, .ref xba5, .ref xba6, .ref xba7, .ref xba8, .ref xba9, .ref xba10, .ref xba11, .int 0, .int 0]))] H := hP
            have hD : va_D A [(x0, .inr (11, [.ref xr, .ref xt, .ref xg, .ref xb, .ref xp, .ref xu, .ref xm, .ref xd, .ref xw, .ref xh, .ref xa, .ref xs, .ref xf, .int 0, .int 0, .long 0, .long 0, .int 0])), (xu, .inr (7, [.ref xua0, .ref xua1, .ref xua2, .int 0])), (xg, .inr (3, [.ref xgs, .ref xgh])), (xgs, .inl (cI g, 64, .inl (fun _ => 0))), (xgh, .inl (cI g, 64, .inl (fun _ => 0))), (xs, .inr (9, [.ref xsa0, .ref xsa1, .ref xsa2, .ref xsa3, .ref xsa4, .int 0])), (xsa0, .inl (cJ g, 4, .inr (.inl opF))), (xb, .inr (1, [.ref xba0, .ref xba1, .ref xba2, .ref xba3, .ref xba4, .ref xba5, .ref xba6, .ref xba7, .ref xba8, .ref xba9, .ref xba10, .ref xba11, .int 0, .int 0]))] := hD
            refine lv_iload_n hx hb dX11_stop_88 rfl (lv_at hl 1 rfl) ?_
            refine kSl (As := [.int a]) (rest := [.long 0]) (wr := [(x0, .inr (11, [.ref xr, .ref xt, .ref xg, .ref xb, .ref xp, .ref xu, .ref xm, .ref xd, .ref xw, .ref xh, .ref xa, .ref xs, .ref xf, .int 0, .int 0, .long 0, .long 0, .int 0])), (xu, .inr (7, [.ref xua0, .ref xua1, .ref xua2, .int 0])), (xg, .inr (3, [.ref xgs, .ref xgh])), (xgs, .inl (cI g, 64, .inl (fun _ => 0))), (xgh, .inl (cI g, 64, .inl (fun _ => 0))), (xs, .inr (9, [.ref xsa0, .ref xsa1, .ref xsa2, .ref xsa3, .ref xsa4, .int 0])), (xsa0, .inl (cJ g, 4, .inr (.inl opF))), (xb, .inr (1, [.ref xba0, .ref xba1, .ref xba2, .ref xba3, .ref xba4, .ref xba5, .ref xba6, .ref xba7, .ref xba8, .ref xba9, .ref xba10, .ref xba11, .int 0, .int 0]))]) X (c_X3_bit l g a) ok_X3_bit q_842 q_1336 rfl hK hP hD hS hA hZ hl.1 [] [0, 1, 2, 3, 4, 5, 6, 7] rfl rfl rfl rfl rfl rfl (Nat.le_of_ble_eq_true rfl) ⟨Nat.le_of_ble_eq_true rfl, Nat.le_of_ble_eq_true rfl⟩ dX11_stop_89 ⟨Nat.le_of_ble_eq_true rfl, Nat.le_of_ble_eq_true rfl⟩ (fun r_31 w1 H locs hw_32 hP hD hS => ?_)
            rw [sp_X3_bit] at hw_32
            obtain ⟨e1, e2⟩ := Prod.mk.inj hw_32
            subst e1; subst e2
            have hP : va_P g.1 classes [(x0, .inr (11, [.ref xr, .ref xt, .ref xg, .ref xb, .ref xp, .ref xu, .ref xm, .ref xd, .ref xw, .ref xh, .ref xa, .ref xs, .ref xf, .int 0, .int 0, .long 0, .long 0, .int 0])), (xu, .inr (7, [.ref xua0, .ref xua1, .ref xua2, .int 0])), (xg, .inr (3, [.ref xgs, .ref xgh])), (xgs, .inl (cI g, 64, .inl (fun _ => 0))), (xgh, .inl (cI g, 64, .inl (fun _ => 0))), (xs, .inr (9, [.ref xsa0, .ref xsa1, .ref xsa2, .ref xsa3, .ref xsa4, .int 0])), (xsa0, .inl (cJ g, 4, .inr (.inl opF))), (xb, .inr (1, [.ref xba0, .ref xba1, .ref xba2, .ref xba3, .ref xba4, .ref xba5, .ref xba6, .ref xba7, .ref xba8, .ref xba9, .ref xba10, .ref xba11, .int 0, .int 0]))] H := hP
            have hD : va_D A [(x0, .inr (11, [.ref xr, .ref xt, .ref xg, .ref xb, .ref xp, .ref xu, .ref xm, .ref xd, .ref xw, .ref xh, .ref xa, .ref xs, .ref xf, .int 0, .int 0, .long 0, .long 0, .int 0])), (xu, .inr (7, [.ref xua0, .ref xua1, .ref xua2, .int 0])), (xg, .inr (3, [.ref xgs, .ref xgh])), (xgs, .inl (cI g, 64, .inl (fun _ => 0))), (xgh, .inl (cI g, 64, .inl (fun _ => 0))), (xs, .inr (9, [.ref xsa0, .ref xsa1, .ref xsa2, .ref xsa3, .ref xsa4, .int 0])), (xsa0, .inl (cJ g, 4, .inr (.inl opF))), (xb, .inr (1, [.ref xba0, .ref xba1, .ref xba2, .ref xba3, .ref xba4, .ref xba5, .ref xba6, .ref xba7, .ref xba8, .ref xba9, .ref xba10, .ref xba11, .int 0, .int 0]))] := hD
            refine lv_iload_n hx hb dX11_stop_92 rfl (lv_at hl 2 rfl) ?_
            refine kSl (As := [.int b]) (rest := [.long (jshl 1 a), .long 0]) (wr := [(x0, .inr (11, [.ref xr, .ref xt, .ref xg, .ref xb, .ref xp, .ref xu, .ref xm, .ref xd, .ref xw, .ref xh, .ref xa, .ref xs, .ref xf, .int 0, .int 0, .long 0, .long 0, .int 0])), (xu, .inr (7, [.ref xua0, .ref xua1, .ref xua2, .int 0])), (xg, .inr (3, [.ref xgs, .ref xgh])), (xgs, .inl (cI g, 64, .inl (fun _ => 0))), (xgh, .inl (cI g, 64, .inl (fun _ => 0))), (xs, .inr (9, [.ref xsa0, .ref xsa1, .ref xsa2, .ref xsa3, .ref xsa4, .int 0])), (xsa0, .inl (cJ g, 4, .inr (.inl opF))), (xb, .inr (1, [.ref xba0, .ref xba1, .ref xba2, .ref xba3, .ref xba4, .ref xba5, .ref xba6, .ref xba7, .ref xba8, .ref xba9, .ref xba10, .ref xba11, .int 0, .int 0]))]) X (c_X3_bit l g b) ok_X3_bit q_842 q_1336 rfl hK hP hD hS hA hZ hl.1 [] [0, 1, 2, 3, 4, 5, 6, 7] rfl rfl rfl rfl rfl rfl (Nat.le_of_ble_eq_true rfl) ⟨Nat.le_of_ble_eq_true rfl, Nat.le_of_ble_eq_true rfl⟩ dX11_stop_93 ⟨Nat.le_of_ble_eq_true rfl, Nat.le_of_ble_eq_true rfl⟩ (fun r_33 w1 H locs hw_34 hP hD hS => ?_)
            rw [sp_X3_bit] at hw_34
            obtain ⟨e1, e2⟩ := Prod.mk.inj hw_34
            subst e1; subst e2
            have hP : va_P g.1 classes [(x0, .inr (11, [.ref xr, .ref xt, .ref xg, .ref xb, .ref xp, .ref xu, .ref xm, .ref xd, .ref xw, .ref xh, .ref xa, .ref xs, .ref xf, .int 0, .int 0, .long 0, .long 0, .int 0])), (xu, .inr (7, [.ref xua0, .ref xua1, .ref xua2, .int 0])), (xg, .inr (3, [.ref xgs, .ref xgh])), (xgs, .inl (cI g, 64, .inl (fun _ => 0))), (xgh, .inl (cI g, 64, .inl (fun _ => 0))), (xs, .inr (9, [.ref xsa0, .ref xsa1, .ref xsa2, .ref xsa3, .ref xsa4, .int 0])), (xsa0, .inl (cJ g, 4, .inr (.inl opF))), (xb, .inr (1, [.ref xba0, .ref xba1, .ref xba2, .ref xba3, .ref xba4, .ref xba5, .ref xba6, .ref xba7, .ref xba8, .ref xba9, .ref xba10, .ref xba11, .int 0, .int 0]))] H := hP
            have hD : va_D A [(x0, .inr (11, [.ref xr, .ref xt, .ref xg, .ref xb, .ref xp, .ref xu, .ref xm, .ref xd, .ref xw, .ref xh, .ref xa, .ref xs, .ref xf, .int 0, .int 0, .long 0, .long 0, .int 0])), (xu, .inr (7, [.ref xua0, .ref xua1, .ref xua2, .int 0])), (xg, .inr (3, [.ref xgs, .ref xgh])), (xgs, .inl (cI g, 64, .inl (fun _ => 0))), (xgh, .inl (cI g, 64, .inl (fun _ => 0))), (xs, .inr (9, [.ref xsa0, .ref xsa1, .ref xsa2, .ref xsa3, .ref xsa4, .int 0])), (xsa0, .inl (cJ g, 4, .inr (.inl opF))), (xb, .inr (1, [.ref xba0, .ref xba1, .ref xba2, .ref xba3, .ref xba4, .ref xba5, .ref xba6, .ref xba7, .ref xba8, .ref xba9, .ref xba10, .ref xba11, .int 0, .int 0]))] := hD
            refine lv_lor hx hb dX11_stop_96 ?_
            refine lv_ldc2 (v := (-1)) hx hb hown (hts _ q_1185) dX11_stop_97 ?_
            refine lv_lxor hx hb dX11_stop_100 ?_
            refine lv_land hx hb dX11_stop_101 ?_
            refine lv_topkl (v := 0) (and0 _) ?_
            refine lv_lstore_n (lv' := [(3, .long 0), (0, .ref x0), (1, .int a), (2, .int b)]) hx hb dX11_stop_102 rfl hl (by decide) rfl (fun ls hl => ?_)
            refine lv_aload_n hx hb dX11_stop_103 rfl (lv_at hl 1 rfl) ?_
            refine va_get (D := g.1) (ci := 11) (v := .ref xs) (C := RX11) (T := TX11) (N := 18) hx hb hts fw_X11 hown hK hP 0 rfl rfl 11 (by decide) (hts _ q_469) (fun _ h9 => h9) rfl dX11_stop_104 ?_
            refine lv_iload_n hx hb dX11_stop_107 rfl (lv_at hl 2 rfl) ?_
            refine lv_topk (v := nI ja) e_ja ?_
            refine lv_iload_n hx hb dX11_stop_108 rfl (lv_at hl 3 rfl) ?_
            refine lv_topk (v := nI jb) e_jb ?_
            refine lv_lload_n hx hb dX11_stop_109 rfl (lv_at hl 0 rfl) ?_
            refine kVi (As := [.int (nI ja), .int (nI jb), .long 0]) (rest := []) (wr := [(x0, .inr (11, [.ref xr, .ref xt, .ref xg, .ref xb, .ref xp, .ref xu, .ref xm, .ref xd, .ref xw, .ref xh, .ref xa, .ref xs, .ref xf, .int 0, .int 0, .long 0, .long 0, .int 0])), (xu, .inr (7, [.ref xua0, .ref xua1, .ref xua2, .int 0])), (xg, .inr (3, [.ref xgs, .ref xgh])), (xgs, .inl (cI g, 64, .inl (fun _ => 0))), (xgh, .inl (cI g, 64, .inl (fun _ => 0))), (xb, .inr (1, [.ref xba0, .ref xba1, .ref xba2, .ref xba3, .ref xba4, .ref xba5, .ref xba6, .ref xba7, .ref xba8, .ref xba9, .ref xba10, .ref xba11, .int 0, .int 0]))]) X (c_X9_connects l g xs ja jb xsa0 xsa1 xsa2 xsa3 xsa4 (by first | decide | omega) (by first | decide | omega) (by first | decide | omega)) ok_X9_connects okv_X9_connects q_1329 rfl hK hP hD hS hA hZ hl.1 [5, 6] [0, 1, 2, 3, 4, 7] rfl rfl rfl rfl rfl 0 9 rfl rfl rfl (Nat.le_of_ble_eq_true rfl) ⟨Nat.le_of_ble_eq_true rfl, Nat.le_of_ble_eq_true rfl⟩ dX11_stop_110 ⟨Nat.le_of_ble_eq_true rfl, Nat.le_of_ble_eq_true rfl⟩ (fun r_35 w1 H locs hw_36 hP hD hS => ?_)
            rw [sp_X9_connects] at hw_36
            obtain ⟨e1, e2⟩ := Prod.mk.inj hw_36
            subst e1; subst e2
            have hP : va_P g.1 classes [(x0, .inr (11, [.ref xr, .ref xt, .ref xg, .ref xb, .ref xp, .ref xu, .ref xm, .ref xd, .ref xw, .ref xh, .ref xa, .ref xs, .ref xf, .int 0, .int 0, .long 0, .long 0, .int 0])), (xu, .inr (7, [.ref xua0, .ref xua1, .ref xua2, .int 0])), (xg, .inr (3, [.ref xgs, .ref xgh])), (xgs, .inl (cI g, 64, .inl (fun _ => 0))), (xgh, .inl (cI g, 64, .inl (fun _ => 0))), (xb, .inr (1, [.ref xba0, .ref xba1, .ref xba2, .ref xba3, .ref xba4, .ref xba5, .ref xba6, .ref xba7, .ref xba8, .ref xba9, .ref xba10, .ref xba11, .int 0, .int 0])), (xs, .inr (9, [.ref xsa0, .ref xsa1, .ref xsa2, .ref xsa3, .ref xsa4, .int 0])), (xsa0, .inl (cJ g, 4, .inr (.inl opF)))] H := hP
            have hD : va_D A [(x0, .inr (11, [.ref xr, .ref xt, .ref xg, .ref xb, .ref xp, .ref xu, .ref xm, .ref xd, .ref xw, .ref xh, .ref xa, .ref xs, .ref xf, .int 0, .int 0, .long 0, .long 0, .int 0])), (xu, .inr (7, [.ref xua0, .ref xua1, .ref xua2, .int 0])), (xg, .inr (3, [.ref xgs, .ref xgh])), (xgs, .inl (cI g, 64, .inl (fun _ => 0))), (xgh, .inl (cI g, 64, .inl (fun _ => 0))), (xb, .inr (1, [.ref xba0, .ref xba1, .ref xba2, .ref xba3, .ref xba4, .ref xba5, .ref xba6, .ref xba7, .ref xba8, .ref xba9, .ref xba10, .ref xba11, .int 0, .int 0])), (xs, .inr (9, [.ref xsa0, .ref xsa1, .ref xsa2, .ref xsa3, .ref xsa4, .int 0])), (xsa0, .inl (cJ g, 4, .inr (.inl opF)))] := hD
            refine lv_if_eq (tgt := 119) hx hb dX11_stop_113 (by decide) (fun c_37 => absurd c_37 (by decide)) (fun _ => ?_)
            refine lv_bipush (v := (-9)) hx hb dX11_stop_116 (by decide) ?_
            exact rI X hK hP hD hS dX11_stop_118 (by rfl) (Nat.le_of_ble_eq_true rfl) (Nat.le_of_ble_eq_true rfl) (by show _ = _; unfold sp_X11_stop; rw [if_neg c_3, if_neg c_5, if_neg c_10, if_neg c_12, if_neg c_15]; try rfl)
          ·
            refine lv_iconst (v := (-1)) hx hb dX11_stop_19 (by decide) ?_
            exact rI X hK hP hD hS dX11_stop_20 (by rfl) (Nat.le_of_ble_eq_true rfl) (Nat.le_of_ble_eq_true rfl) (by show _ = _; unfold sp_X11_stop; rw [if_neg c_3, if_neg c_5, if_neg c_10, if_neg c_12, if_pos c_15]; try rfl)
