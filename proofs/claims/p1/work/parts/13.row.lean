set_option maxRecDepth 200000 in
theorem q_531 : Cond.code yJ7_fill_fda19 cJ7_fill_fda19 5 none ∈ tb := tb_mem 531 (by rfl) rfl
set_option maxRecDepth 200000 in
theorem q_530 : Cond.static yJ7_fill_fda19 ∈ tb := tb_mem 530 (by decide +kernel) rfl
set_option maxRecDepth 200000 in
theorem q_529 : Cond.methodLink "CityRoad$Shelf" 35 yJ7_fill_fda19 ∈ tb := tb_mem 529 (by decide +kernel) rfl
set_option maxRecDepth 200000 in
theorem q_528 : Cond.code yX8_layOut cX8_layOut 3 none ∈ tb := tb_mem 528 (by rfl) rfl
set_option maxRecDepth 200000 in
theorem q_526 : Cond.instanceMethod yX8_layOut ∈ tb := tb_mem 526 (by decide +kernel) rfl
set_option maxRecDepth 200000 in
theorem q_527 : Cond.selects "CityRoad$Shelf" yX8_layOut yX8_layOut ∈ tb := tb_mem 527 (by decide +kernel) rfl
set_option maxRecDepth 200000 in
theorem q_525 : Cond.methodLink "CityRoad" 103 yX8_layOut ∈ tb := tb_mem 525 (by decide +kernel) rfl
theorem dX8_layOut_0 : decode cX8_layOut 0 = .ok (.aload_n 0, 1) := by decide +kernel
theorem dX8_layOut_1 : decode cX8_layOut 1 = .ok (.getfield 9, 3) := by decide +kernel
theorem dX8_layOut_4 : decode cX8_layOut 4 = .ok (.iload_n 1, 1) := by decide +kernel
theorem dX8_layOut_5 : decode cX8_layOut 5 = .ok (.iload_n 2, 1) := by decide +kernel
theorem dX8_layOut_6 : decode cX8_layOut 6 = .ok (.iastore, 1) := by decide +kernel
theorem dX8_layOut_7 : decode cX8_layOut 7 = .ok (.aload_n 0, 1) := by decide +kernel
theorem dX8_layOut_8 : decode cX8_layOut 8 = .ok (.getfield 13, 3) := by decide +kernel
theorem dX8_layOut_11 : decode cX8_layOut 11 = .ok (.iload_n 1, 1) := by decide +kernel
theorem dX8_layOut_12 : decode cX8_layOut 12 = .ok (.bipush 40, 2) := by decide +kernel
theorem dX8_layOut_14 : decode cX8_layOut 14 = .ok (.imul, 1) := by decide +kernel
theorem dX8_layOut_15 : decode cX8_layOut 15 = .ok (.iload_n 1, 1) := by decide +kernel
theorem dX8_layOut_16 : decode cX8_layOut 16 = .ok (.bipush 40, 2) := by decide +kernel
theorem dX8_layOut_18 : decode cX8_layOut 18 = .ok (.imul, 1) := by decide +kernel
theorem dX8_layOut_19 : decode cX8_layOut 19 = .ok (.iload_n 2, 1) := by decide +kernel
theorem dX8_layOut_20 : decode cX8_layOut 20 = .ok (.iadd, 1) := by decide +kernel
theorem dX8_layOut_21 : decode cX8_layOut 21 = .ok (.aload_n 0, 1) := by decide +kernel
theorem dX8_layOut_22 : decode cX8_layOut 22 = .ok (.getfield 26, 3) := by decide +kernel
theorem dX8_layOut_25 : decode cX8_layOut 25 = .ok (.invokestatic 35, 3) := by decide +kernel
theorem dX8_layOut_28 : decode cX8_layOut 28 = .ok (.return_, 1) := by decide +kernel
theorem dX11_row_0 : decode cX11_row 0 = .ok (.aload_n 0, 1) := by decide +kernel
theorem dX11_row_1 : decode cX11_row 1 = .ok (.getfield 12, 3) := by decide +kernel
theorem dX11_row_4 : decode cX11_row 4 = .ok (.iload_n 1, 1) := by decide +kernel
theorem dX11_row_5 : decode cX11_row 5 = .ok (.invokevirtual 95, 3) := by decide +kernel
theorem dX11_row_8 : decode cX11_row 8 = .ok (.ifCond .eq 9, 3) := by decide +kernel
theorem dX11_row_17 : decode cX11_row 17 = .ok (.iconst (-1), 1) := by decide +kernel
theorem dX11_row_18 : decode cX11_row 18 = .ok (.ireturn, 1) := by decide +kernel
theorem dX11_row_11 : decode cX11_row 11 = .ok (.iload_n 2, 1) := by decide +kernel
theorem dX11_row_12 : decode cX11_row 12 = .ok (.bipush 40, 2) := by decide +kernel
theorem dX11_row_14 : decode cX11_row 14 = .ok (.if_icmp .le 5, 3) := by decide +kernel
theorem dX11_row_19 : decode cX11_row 19 = .ok (.iload_n 2, 1) := by decide +kernel
theorem dX11_row_20 : decode cX11_row 20 = .ok (.ifCond .ge 9, 3) := by decide +kernel
theorem dX11_row_29 : decode cX11_row 29 = .ok (.aload_n 0, 1) := by decide +kernel
theorem dX11_row_30 : decode cX11_row 30 = .ok (.getfield 12, 3) := by decide +kernel
theorem dX11_row_33 : decode cX11_row 33 = .ok (.iload_n 1, 1) := by decide +kernel
theorem dX11_row_34 : decode cX11_row 34 = .ok (.iload_n 2, 1) := by decide +kernel
theorem dX11_row_35 : decode cX11_row 35 = .ok (.invokevirtual 103, 3) := by decide +kernel
theorem dX11_row_38 : decode cX11_row 38 = .ok (.iload_n 2, 1) := by decide +kernel
theorem dX11_row_39 : decode cX11_row 39 = .ok (.ireturn, 1) := by decide +kernel
theorem dX11_row_23 : decode cX11_row 23 = .ok (.aload_n 0, 1) := by decide +kernel
theorem dX11_row_24 : decode cX11_row 24 = .ok (.iconst 5, 1) := by decide +kernel
theorem dX11_row_25 : decode cX11_row 25 = .ok (.invokevirtual 99, 3) := by decide +kernel
theorem dX11_row_28 : decode cX11_row 28 = .ok (.ireturn, 1) := by decide +kernel
theorem dX11_text_0 : decode cX11_text 0 = .ok (.aload_n 0, 1) := by decide +kernel
theorem dX11_text_1 : decode cX11_text 1 = .ok (.getfield 20, 3) := by decide +kernel
theorem dX11_text_4 : decode cX11_text 4 = .ok (.iload_n 1, 1) := by decide +kernel
theorem dX11_text_5 : decode cX11_text 5 = .ok (.invokevirtual 95, 3) := by decide +kernel
theorem dX11_text_8 : decode cX11_text 8 = .ok (.ifCond .eq 9, 3) := by decide +kernel
theorem dX11_text_17 : decode cX11_text 17 = .ok (.iconst (-1), 1) := by decide +kernel
theorem dX11_text_18 : decode cX11_text 18 = .ok (.ireturn, 1) := by decide +kernel
theorem dX11_text_11 : decode cX11_text 11 = .ok (.iload_n 2, 1) := by decide +kernel
theorem dX11_text_12 : decode cX11_text 12 = .ok (.bipush 40, 2) := by decide +kernel
theorem dX11_text_14 : decode cX11_text 14 = .ok (.if_icmp .le 5, 3) := by decide +kernel
theorem dX11_text_19 : decode cX11_text 19 = .ok (.iload_n 2, 1) := by decide +kernel
theorem dX11_text_20 : decode cX11_text 20 = .ok (.ifCond .ge 9, 3) := by decide +kernel
theorem dX11_text_29 : decode cX11_text 29 = .ok (.aload_n 0, 1) := by decide +kernel
theorem dX11_text_30 : decode cX11_text 30 = .ok (.getfield 20, 3) := by decide +kernel
theorem dX11_text_33 : decode cX11_text 33 = .ok (.iload_n 1, 1) := by decide +kernel
theorem dX11_text_34 : decode cX11_text 34 = .ok (.iload_n 2, 1) := by decide +kernel
theorem dX11_text_35 : decode cX11_text 35 = .ok (.invokevirtual 103, 3) := by decide +kernel
theorem dX11_text_38 : decode cX11_text 38 = .ok (.iload_n 2, 1) := by decide +kernel
theorem dX11_text_39 : decode cX11_text 39 = .ok (.ireturn, 1) := by decide +kernel
theorem dX11_text_23 : decode cX11_text 23 = .ok (.aload_n 0, 1) := by decide +kernel
theorem dX11_text_24 : decode cX11_text 24 = .ok (.iconst 5, 1) := by decide +kernel
theorem dX11_text_25 : decode cX11_text 25 = .ok (.invokevirtual 99, 3) := by decide +kernel
theorem dX11_text_28 : decode cX11_text 28 = .ok (.ireturn, 1) := by decide +kernel
theorem dX12_row_0 : decode cX12_row 0 = .ok (.iload_n 1, 1) := by decide +kernel
theorem dX12_row_1 : decode cX12_row 1 = .ok (.invokestatic 212, 3) := by decide +kernel
theorem dX12_row_4 : decode cX12_row 4 = .ok (.ifCond .eq 9, 3) := by decide +kernel
theorem dX12_row_13 : decode cX12_row 13 = .ok (.iconst (-1), 1) := by decide +kernel
theorem dX12_row_14 : decode cX12_row 14 = .ok (.ireturn, 1) := by decide +kernel
theorem dX12_row_7 : decode cX12_row 7 = .ok (.iload_n 2, 1) := by decide +kernel
theorem dX12_row_8 : decode cX12_row 8 = .ok (.bipush 40, 2) := by decide +kernel
theorem dX12_row_10 : decode cX12_row 10 = .ok (.if_icmp .le 5, 3) := by decide +kernel
theorem dX12_row_15 : decode cX12_row 15 = .ok (.iload_n 2, 1) := by decide +kernel
theorem dX12_row_16 : decode cX12_row 16 = .ok (.ifCond .ge 9, 3) := by decide +kernel
theorem dX12_row_25 : decode cX12_row 25 = .ok (.aload_n 0, 1) := by decide +kernel
theorem dX12_row_26 : decode cX12_row 26 = .ok (.getfield 13, 3) := by decide +kernel
theorem dX12_row_29 : decode cX12_row 29 = .ok (.iload_n 1, 1) := by decide +kernel
theorem dX12_row_30 : decode cX12_row 30 = .ok (.iload_n 2, 1) := by decide +kernel
theorem dX12_row_31 : decode cX12_row 31 = .ok (.iastore, 1) := by decide +kernel
theorem dX12_row_32 : decode cX12_row 32 = .ok (.iconst 0, 1) := by decide +kernel
theorem dX12_row_33 : decode cX12_row 33 = .ok (.istore_n 3, 1) := by decide +kernel
theorem dX12_row_34 : decode cX12_row 34 = .ok (.iload_n 3, 1) := by decide +kernel
theorem dX12_row_35 : decode cX12_row 35 = .ok (.bipush 40, 2) := by decide +kernel
theorem dX12_row_37 : decode cX12_row 37 = .ok (.if_icmp .ge 21, 3) := by decide +kernel
theorem dX12_row_40 : decode cX12_row 40 = .ok (.aload_n 0, 1) := by decide +kernel
theorem dX12_row_41 : decode cX12_row 41 = .ok (.getfield 16, 3) := by decide +kernel
theorem dX12_row_44 : decode cX12_row 44 = .ok (.bipush 40, 2) := by decide +kernel
theorem dX12_row_46 : decode cX12_row 46 = .ok (.iload_n 1, 1) := by decide +kernel
theorem dX12_row_47 : decode cX12_row 47 = .ok (.imul, 1) := by decide +kernel
theorem dX12_row_48 : decode cX12_row 48 = .ok (.iload_n 3, 1) := by decide +kernel
theorem dX12_row_49 : decode cX12_row 49 = .ok (.iadd, 1) := by decide +kernel
theorem dX12_row_50 : decode cX12_row 50 = .ok (.iconst 0, 1) := by decide +kernel
theorem dX12_row_51 : decode cX12_row 51 = .ok (.iastore, 1) := by decide +kernel
theorem dX12_row_52 : decode cX12_row 52 = .ok (.iinc 3 1, 3) := by decide +kernel
theorem dX12_row_55 : decode cX12_row 55 = .ok (.goto (-21), 3) := by decide +kernel
theorem dX12_row_58 : decode cX12_row 58 = .ok (.iload_n 2, 1) := by decide +kernel
theorem dX12_row_59 : decode cX12_row 59 = .ok (.ireturn, 1) := by decide +kernel
theorem dX12_row_19 : decode cX12_row 19 = .ok (.aload_n 0, 1) := by decide +kernel
theorem dX12_row_20 : decode cX12_row 20 = .ok (.iconst 5, 1) := by decide +kernel
theorem dX12_row_21 : decode cX12_row 21 = .ok (.invokevirtual 216, 3) := by decide +kernel
theorem dX12_row_24 : decode cX12_row 24 = .ok (.ireturn, 1) := by decide +kernel
theorem dX12_text_0 : decode cX12_text 0 = .ok (.iload_n 1, 1) := by decide +kernel
theorem dX12_text_1 : decode cX12_text 1 = .ok (.invokestatic 220, 3) := by decide +kernel
theorem dX12_text_4 : decode cX12_text 4 = .ok (.ifCond .eq 9, 3) := by decide +kernel
theorem dX12_text_13 : decode cX12_text 13 = .ok (.iconst (-1), 1) := by decide +kernel
theorem dX12_text_14 : decode cX12_text 14 = .ok (.ireturn, 1) := by decide +kernel
theorem dX12_text_7 : decode cX12_text 7 = .ok (.iload_n 2, 1) := by decide +kernel
theorem dX12_text_8 : decode cX12_text 8 = .ok (.bipush 40, 2) := by decide +kernel
theorem dX12_text_10 : decode cX12_text 10 = .ok (.if_icmp .le 5, 3) := by decide +kernel
theorem dX12_text_15 : decode cX12_text 15 = .ok (.iload_n 2, 1) := by decide +kernel
theorem dX12_text_16 : decode cX12_text 16 = .ok (.ifCond .ge 9, 3) := by decide +kernel
theorem dX12_text_25 : decode cX12_text 25 = .ok (.aload_n 0, 1) := by decide +kernel
theorem dX12_text_26 : decode cX12_text 26 = .ok (.getfield 22, 3) := by decide +kernel
theorem dX12_text_29 : decode cX12_text 29 = .ok (.iload_n 1, 1) := by decide +kernel
theorem dX12_text_30 : decode cX12_text 30 = .ok (.iload_n 2, 1) := by decide +kernel
theorem dX12_text_31 : decode cX12_text 31 = .ok (.iastore, 1) := by decide +kernel
theorem dX12_text_32 : decode cX12_text 32 = .ok (.iconst 0, 1) := by decide +kernel
theorem dX12_text_33 : decode cX12_text 33 = .ok (.istore_n 3, 1) := by decide +kernel
theorem dX12_text_34 : decode cX12_text 34 = .ok (.iload_n 3, 1) := by decide +kernel
theorem dX12_text_35 : decode cX12_text 35 = .ok (.bipush 40, 2) := by decide +kernel
theorem dX12_text_37 : decode cX12_text 37 = .ok (.if_icmp .ge 22, 3) := by decide +kernel
theorem dX12_text_40 : decode cX12_text 40 = .ok (.aload_n 0, 1) := by decide +kernel
theorem dX12_text_41 : decode cX12_text 41 = .ok (.getfield 25, 3) := by decide +kernel
theorem dX12_text_44 : decode cX12_text 44 = .ok (.bipush 40, 2) := by decide +kernel
theorem dX12_text_46 : decode cX12_text 46 = .ok (.iload_n 1, 1) := by decide +kernel
theorem dX12_text_47 : decode cX12_text 47 = .ok (.imul, 1) := by decide +kernel
theorem dX12_text_48 : decode cX12_text 48 = .ok (.iload_n 3, 1) := by decide +kernel
theorem dX12_text_49 : decode cX12_text 49 = .ok (.iadd, 1) := by decide +kernel
theorem dX12_text_50 : decode cX12_text 50 = .ok (.bipush 32, 2) := by decide +kernel
theorem dX12_text_52 : decode cX12_text 52 = .ok (.iastore, 1) := by decide +kernel
theorem dX12_text_53 : decode cX12_text 53 = .ok (.iinc 3 1, 3) := by decide +kernel
theorem dX12_text_56 : decode cX12_text 56 = .ok (.goto (-22), 3) := by decide +kernel
theorem dX12_text_59 : decode cX12_text 59 = .ok (.iload_n 2, 1) := by decide +kernel
theorem dX12_text_60 : decode cX12_text 60 = .ok (.ireturn, 1) := by decide +kernel
theorem dX12_text_19 : decode cX12_text 19 = .ok (.aload_n 0, 1) := by decide +kernel
theorem dX12_text_20 : decode cX12_text 20 = .ok (.iconst 5, 1) := by decide +kernel
theorem dX12_text_21 : decode cX12_text 21 = .ok (.invokevirtual 216, 3) := by decide +kernel
theorem dX12_text_24 : decode cX12_text 24 = .ok (.ireturn, 1) := by decide +kernel
theorem ok_J7_fill_fda19 : okM yJ7_fill_fda19 cJ7_fill_fda19 5 none 4 := ⟨q_531, q_92, by decide +kernel, by decide +kernel, by decide +kernel⟩
theorem ok_X8_layOut : okM yX8_layOut cX8_layOut 3 none 2 := ⟨q_528, q_90, by decide +kernel, by decide +kernel, by decide +kernel⟩
theorem okv_X8_layOut : okV yX8_layOut := ⟨q_526, q_527⟩
set_option maxHeartbeats 4000000 in
set_option maxRecDepth 100000 in
theorem c_X8_layOut (l : Launch) (g : GG) (jr : Nat) (jn : Nat) (h0 : Nat) (nr : Int32) (bl : Int32) (h0s : Nat) (h0p : Nat) (pf : Nat → Int32) (hjr : jr < 6) (hjn : jn ≤ 40) : MV l g yX8_layOut cX8_layOut 3 2 46 0 0 [(h0, .inr (8, [.int nr, .int bl, .ref h0s, .ref h0p])), (h0s, .inl (cI g, 6, .inl (fun _ => (-1)))), (h0p, .inl (cI g, 240, .inl pf))] [.ref h0, .int (nI jr), .int (nI jn)] (fun ww_ => ∃ (q_3 : Nat → Int32), ww_ = [(h0, .inr (8, [.int nr, .int bl, .ref h0s, .ref h0p])), (h0s, .inl (cI g, 6, .inl (upd (fun _ => (-1)) jr (nI jn)))), (h0p, .inl (cI g, 240, .inl q_3))]) := by
  refine met_of (fun A => va_Qv _ (bW g A) A) (by decide) (Nat.le_of_ble_eq_true rfl) ?_
  intro p e s m below meth c A ls X hK hP hD hA hZ hS hl
  have hx := X.1
  have hb := X.2.1
  have hml := X.2.2.1
  have hown := X.2.2.2.1
  have hts := X.2.2.2.2.1
  have hnm := X.2.2.2.2.2.2.2
  have hl : lv_has ls 3 [(0, .ref h0), (1, .int (nI jr)), (2, .int (nI jn))] := hl
  refine lv_aload_n hx hb dX8_layOut_0 rfl (lv_at hl 0 rfl) ?_
  refine va_get (D := g.1) (ci := 8) (v := .ref h0s) (C := RX8) (T := TX8) (N := 4) hx hb hts fw_X8 hown hK hP 0 rfl rfl 2 (by decide) (hts _ q_128) (fun _ h9 => h9) rfl dX8_layOut_1 ?_
  refine lv_iload_n hx hb dX8_layOut_4 rfl (lv_at hl 1 rfl) ?_
  refine lv_iload_n hx hb dX8_layOut_5 rfl (lv_at hl 2 rfl) ?_
  refine va_iast hx hb hK hP hD hS 1 0 rfl rfl (vp_in_nI (by omega) (by omega)) dX8_layOut_6 (fun H locs hP hD hS => ?_)
  have hP : va_P g.1 classes [(h0, .inr (8, [.int nr, .int bl, .ref h0s, .ref h0p])), (h0s, .inl (cI g, 6, .inl (upd (fun _ => (-1)) (nI jr).toNatClampNeg (nI jn)))), (h0p, .inl (cI g, 240, .inl pf))] H := hP
  have hD : va_D A [(h0, .inr (8, [.int nr, .int bl, .ref h0s, .ref h0p])), (h0s, .inl (cI g, 6, .inl (upd (fun _ => (-1)) (nI jr).toNatClampNeg (nI jn)))), (h0p, .inl (cI g, 240, .inl pf))] := hD
  rw [nI_clamp (show jr < 2 ^ 31 by omega)] at hP hD
  refine lv_aload_n hx hb dX8_layOut_7 rfl (lv_at hl 0 rfl) ?_
  refine va_get (D := g.1) (ci := 8) (v := .ref h0p) (C := RX8) (T := TX8) (N := 4) hx hb hts fw_X8 hown hK hP 0 rfl rfl 3 (by decide) (hts _ q_129) (fun _ h9 => h9) rfl dX8_layOut_8 ?_
  refine lv_iload_n hx hb dX8_layOut_11 rfl (lv_at hl 1 rfl) ?_
  refine lv_bipush (v := 40) hx hb dX8_layOut_12 (by decide) ?_
  refine lv_imul hx hb dX8_layOut_14 ?_
  refine lv_topk (v := nI (jr * 40)) (pk_mul _ _) ?_
  refine lv_iload_n hx hb dX8_layOut_15 rfl (lv_at hl 1 rfl) ?_
  refine lv_bipush (v := 40) hx hb dX8_layOut_16 (by decide) ?_
  refine lv_imul hx hb dX8_layOut_18 ?_
  refine lv_topk (v := nI (jr * 40)) (pk_mul _ _) ?_
  refine lv_iload_n hx hb dX8_layOut_19 rfl (lv_at hl 2 rfl) ?_
  refine lv_iadd hx hb dX8_layOut_20 ?_
  refine lv_topk (v := nI ((jr * 40) + jn)) (nI_add _ _) ?_
  refine lv_aload_n hx hb dX8_layOut_21 rfl (lv_at hl 0 rfl) ?_
  refine va_get (D := g.1) (ci := 8) (v := .int bl) (C := RX8) (T := TX8) (N := 4) hx hb hts fw_X8 hown hK hP 0 rfl rfl 1 (by decide) (hts _ q_127) (fun _ h9 => h9) rfl dX8_layOut_22 ?_
  refine kSv (As := [.ref h0p, .int (nI (jr * 40)), .int (nI ((jr * 40) + jn)), .int bl]) (rest := []) (wr := [(h0, .inr (8, [.int nr, .int bl, .ref h0s, .ref h0p])), (h0s, .inl (cI g, 6, .inl (upd (fun _ => (-1)) jr (nI jn))))]) X (c_J7_fill_fda19 l g h0p 240 pf (jr * 40) ((jr * 40) + jn) bl (by first | decide | omega) (by first | decide | omega) (by first | decide | omega)) ok_J7_fill_fda19 q_530 q_529 rfl hK hP hD hS hA hZ hl.1 [2] [0, 1] rfl rfl rfl rfl rfl rfl (Nat.le_of_ble_eq_true rfl) ⟨Nat.le_of_ble_eq_true rfl, Nat.le_of_ble_eq_true rfl⟩ dX8_layOut_25 ⟨Nat.le_of_ble_eq_true rfl, Nat.le_of_ble_eq_true rfl⟩ (fun w1 H locs hw_2 hP hD hS => ?_)
  obtain ⟨q_3, rfl⟩ := hw_2
  have hP : va_P g.1 classes [(h0, .inr (8, [.int nr, .int bl, .ref h0s, .ref h0p])), (h0s, .inl (cI g, 6, .inl (upd (fun _ => (-1)) jr (nI jn)))), (h0p, .inl (cI g, 240, .inl q_3))] H := hP
  have hD : va_D A [(h0, .inr (8, [.int nr, .int bl, .ref h0s, .ref h0p])), (h0s, .inl (cI g, 6, .inl (upd (fun _ => (-1)) jr (nI jn)))), (h0p, .inl (cI g, 240, .inl q_3))] := hD
  exact rV X hK hP hD hS dX8_layOut_28 (Nat.le_of_ble_eq_true rfl) (Nat.le_of_ble_eq_true rfl) ⟨_, rfl⟩
def sp_X11_row (g : GG) (x0 : Nat) (r : Int32) (n : Int32) (xr : Nat) (xt : Nat) (xg : Nat) (xb : Nat) (xp : Nat) (xu : Nat) (xm : Nat) (xd : Nat) (xw : Nat) (xh : Nat) (xa : Nat) (xs : Nat) (xf : Nat) (xrs : Nat) (xrp : Nat) : Int32 := if r < 0 then (-1) else (if 6 ≤ r then (-1) else (if n ≤ 40 then (if 0 ≤ n then n else (-3)) else (-1)))
set_option maxHeartbeats 4000000 in
set_option maxRecDepth 100000 in
theorem c_X11_row (l : Launch) (g : GG) (x0 : Nat) (r : Int32) (n : Int32) (xr : Nat) (xt : Nat) (xg : Nat) (xb : Nat) (xp : Nat) (xu : Nat) (xm : Nat) (xd : Nat) (xw : Nat) (xh : Nat) (xa : Nat) (xs : Nat) (xf : Nat) (xrs : Nat) (xrp : Nat) : MI l g yX11_row cX11_row 3 (some .int) 3 68 0 0 [(x0, .inr (11, [.ref xr, .ref xt, .ref xg, .ref xb, .ref xp, .ref xu, .ref xm, .ref xd, .ref xw, .ref xh, .ref xa, .ref xs, .ref xf, .int 0, .int 0, .long 0, .long 0, .int 0])), (xr, .inr (8, [.int 6, .int 0, .ref xrs, .ref xrp])), (xrs, .inl (cI g, 6, .inl (fun _ => (-1)))), (xrp, .inl (cI g, 240, .inl (fun _ => 0))), (xf, .inl (cI g, 6, .inl (fun _ => 0)))] [.ref x0, .int r, .int n] (fun rr_ _ => rr_ = sp_X11_row g x0 r n xr xt xg xb xp xu xm xd xw xh xa xs xf xrs xrp) := by
  refine met_of (fun A => va_Qi _ (bW g A) A) (by decide) (Nat.le_of_ble_eq_true rfl) ?_
  intro p e s m below meth c A ls X hK hP hD hA hZ hS hl
  have hx := X.1
  have hb := X.2.1
  have hml := X.2.2.1
  have hown := X.2.2.2.1
  have hts := X.2.2.2.2.1
  have hnm := X.2.2.2.2.2.2.2
  have hl : lv_has ls 3 [(0, .ref x0), (1, .int r), (2, .int n)] := hl
  refine lv_aload_n hx hb dX11_row_0 rfl (lv_at hl 0 rfl) ?_
  refine va_get (D := g.1) (ci := 11) (v := .ref xr) (C := RX11) (T := TX11) (N := 18) hx hb hts fw_X11 hown hK hP 0 rfl rfl 0 (by decide) (hts _ q_458) (fun _ h9 => h9) rfl dX11_row_1 ?_
  refine lv_iload_n hx hb dX11_row_4 rfl (lv_at hl 1 rfl) ?_
  refine kVi (As := [.int r]) (rest := []) (wr := [(x0, .inr (11, [.ref xr, .ref xt, .ref xg, .ref xb, .ref xp, .ref xu, .ref xm, .ref xd, .ref xw, .ref xh, .ref xa, .ref xs, .ref xf, .int 0, .int 0, .long 0, .long 0, .int 0])), (xrs, .inl (cI g, 6, .inl (fun _ => (-1)))), (xrp, .inl (cI g, 240, .inl (fun _ => 0))), (xf, .inl (cI g, 6, .inl (fun _ => 0)))]) X (c_X8_exists l g xr r 6 0 xrs xrp) ok_X8_exists okv_X8_exists q_517 rfl hK hP hD hS hA hZ hl.1 [1] [0, 2, 3, 4] rfl rfl rfl rfl rfl 0 8 rfl rfl rfl (Nat.le_of_ble_eq_true rfl) ⟨Nat.le_of_ble_eq_true rfl, Nat.le_of_ble_eq_true rfl⟩ dX11_row_5 ⟨Nat.le_of_ble_eq_true rfl, Nat.le_of_ble_eq_true rfl⟩ (fun r_1 w1 H locs hw_2 hP hD hS => ?_)
  rw [sp_X8_exists] at hw_2
  rcases Classical.em (r < 0) with c_3 | c_3
  ·
    rw [if_pos c_3] at hw_2
    obtain ⟨e1, e2⟩ := Prod.mk.inj hw_2
    subst e1; subst e2
    have hP : va_P g.1 classes [(x0, .inr (11, [.ref xr, .ref xt, .ref xg, .ref xb, .ref xp, .ref xu, .ref xm, .ref xd, .ref xw, .ref xh, .ref xa, .ref xs, .ref xf, .int 0, .int 0, .long 0, .long 0, .int 0])), (xrs, .inl (cI g, 6, .inl (fun _ => (-1)))), (xrp, .inl (cI g, 240, .inl (fun _ => 0))), (xf, .inl (cI g, 6, .inl (fun _ => 0))), (xr, .inr (8, [.int 6, .int 0, .ref xrs, .ref xrp]))] H := hP
    have hD : va_D A [(x0, .inr (11, [.ref xr, .ref xt, .ref xg, .ref xb, .ref xp, .ref xu, .ref xm, .ref xd, .ref xw, .ref xh, .ref xa, .ref xs, .ref xf, .int 0, .int 0, .long 0, .long 0, .int 0])), (xrs, .inl (cI g, 6, .inl (fun _ => (-1)))), (xrp, .inl (cI g, 240, .inl (fun _ => 0))), (xf, .inl (cI g, 6, .inl (fun _ => 0))), (xr, .inr (8, [.int 6, .int 0, .ref xrs, .ref xrp]))] := hD
    refine lv_if_eq (tgt := 17) hx hb dX11_row_8 (by decide) (fun _ => ?_) (fun c_4 => absurd (by decide) c_4)
    refine lv_iconst (v := (-1)) hx hb dX11_row_17 (by decide) ?_
    exact rI X hK hP hD hS dX11_row_18 (by rfl) (Nat.le_of_ble_eq_true rfl) (Nat.le_of_ble_eq_true rfl) (by show _ = _; unfold sp_X11_row; rw [if_pos c_3]; try rfl)
  ·
    rw [if_neg c_3] at hw_2
    rcases Classical.em (6 ≤ r) with c_5 | c_5
    ·
      rw [if_pos c_5] at hw_2
      obtain ⟨e1, e2⟩ := Prod.mk.inj hw_2
      subst e1; subst e2
      have hP : va_P g.1 classes [(x0, .inr (11, [.ref xr, .ref xt, .ref xg, .ref xb, .ref xp, .ref xu, .ref xm, .ref xd, .ref xw, .ref xh, .ref xa, .ref xs, .ref xf, .int 0, .int 0, .long 0, .long 0, .int 0])), (xrs, .inl (cI g, 6, .inl (fun _ => (-1)))), (xrp, .inl (cI g, 240, .inl (fun _ => 0))), (xf, .inl (cI g, 6, .inl (fun _ => 0))), (xr, .inr (8, [.int 6, .int 0, .ref xrs, .ref xrp]))] H := hP
      have hD : va_D A [(x0, .inr (11, [.ref xr, .ref xt, .ref xg, .ref xb, .ref xp, .ref xu, .ref xm, .ref xd, .ref xw, .ref xh, .ref xa, .ref xs, .ref xf, .int 0, .int 0, .long 0, .long 0, .int 0])), (xrs, .inl (cI g, 6, .inl (fun _ => (-1)))), (xrp, .inl (cI g, 240, .inl (fun _ => 0))), (xf, .inl (cI g, 6, .inl (fun _ => 0))), (xr, .inr (8, [.int 6, .int 0, .ref xrs, .ref xrp]))] := hD
      refine lv_if_eq (tgt := 17) hx hb dX11_row_8 (by decide) (fun _ => ?_) (fun c_6 => absurd (by decide) c_6)
      refine lv_iconst (v := (-1)) hx hb dX11_row_17 (by decide) ?_
      exact rI X hK hP hD hS dX11_row_18 (by rfl) (Nat.le_of_ble_eq_true rfl) (Nat.le_of_ble_eq_true rfl) (by show _ = _; unfold sp_X11_row; rw [if_neg c_3, if_pos c_5]; try rfl)
    ·
      rw [if_neg c_5] at hw_2
      obtain ⟨e1, e2⟩ := Prod.mk.inj hw_2
      subst e1; subst e2
      have hP : va_P g.1 classes [(x0, .inr (11, [.ref xr, .ref xt, .ref xg, .ref xb, .ref xp, .ref xu, .ref xm, .ref xd, .ref xw, .ref xh, .ref xa, .ref xs, .ref xf, .int 0, .int 0, .long 0, .long 0, .int 0])), (xrs, .inl (cI g, 6, .inl (fun _ => (-1)))), (xrp, .inl (cI g, 240, .inl (fun _ => 0))), (xf, .inl (cI g, 6, .inl (fun _ => 0))), (xr, .inr (8, [.int 6, .int 0, .ref xrs, .ref xrp]))] H := hP
      have hD : va_D A [(x0, .inr (11, [.ref xr, .ref xt, .ref xg, .ref xb, .ref xp, .ref xu, .ref xm, .ref xd, .ref xw, .ref xh, .ref xa, .ref xs, .ref xf, .int 0, .int 0, .long 0, .long 0, .int 0])), (xrs, .inl (cI g, 6, .inl (fun _ => (-1)))), (xrp, .inl (cI g, 240, .inl (fun _ => 0))), (xf, .inl (cI g, 6, .inl (fun _ => 0))), (xr, .inr (8, [.int 6, .int 0, .ref xrs, .ref xrp]))] := hD
      refine lv_if_eq (tgt := 17) hx hb dX11_row_8 (by decide) (fun c_7 => absurd c_7 (by decide)) (fun _ => ?_)
      refine lv_iload_n hx hb dX11_row_11 rfl (lv_at hl 2 rfl) ?_
      refine lv_bipush (v := 40) hx hb dX11_row_12 (by decide) ?_
      refine lv_icmp_le (tgt := 19) hx hb dX11_row_14 (by decide) (fun c_8 => ?_) (fun c_8 => ?_)
      ·
        refine lv_iload_n hx hb dX11_row_19 rfl (lv_at hl 2 rfl) ?_
        refine lv_if_ge (tgt := 29) hx hb dX11_row_20 (by decide) (fun c_9 => ?_) (fun c_9 => ?_)
        ·
          refine lv_aload_n hx hb dX11_row_29 rfl (lv_at hl 0 rfl) ?_
          refine va_get (D := g.1) (ci := 11) (v := .ref xr) (C := RX11) (T := TX11) (N := 18) hx hb hts fw_X11 hown hK hP 0 rfl rfl 0 (by decide) (hts _ q_458) (fun _ h9 => h9) rfl dX11_row_30 ?_
          refine lv_iload_n hx hb dX11_row_33 rfl (lv_at hl 1 rfl) ?_
          obtain ⟨jr, h_jr, e_jr⟩ := natI (x := r) (n := 6) (by simp only [i32lt, i32le, i32eq, Int32.reduceToInt] at c_3 c_5 ⊢; omega) (by simp only [i32lt, i32le, i32eq, Int32.reduceToInt] at c_3 c_5 ⊢; omega) (by decide)
          have hn_jr : (nI jr).toInt = (jr : Int) := nI_toInt (by omega)
          refine lv_topk (v := nI jr) e_jr ?_
          refine lv_iload_n hx hb dX11_row_34 rfl (lv_at hl 2 rfl) ?_
          obtain ⟨jn, h_jn, e_jn⟩ := natI (x := n) (n := 41) (by simp only [i32lt, i32le, i32eq, Int32.reduceToInt] at c_8 c_9 ⊢; omega) (by simp only [i32lt, i32le, i32eq, Int32.reduceToInt] at c_8 c_9 ⊢; omega) (by decide)
          have hn_jn : (nI jn).toInt = (jn : Int) := nI_toInt (by omega)
          refine lv_topk (v := nI jn) e_jn ?_
          refine kVv (As := [.int (nI jr), .int (nI jn)]) (rest := []) (wr := [(x0, .inr (11, [.ref xr, .ref xt, .ref xg, .ref xb, .ref xp, .ref xu, .ref xm, .ref xd, .ref xw, .ref xh, .ref xa, .ref xs, .ref xf, .int 0, .int 0, .long 0, .long 0, .int 0])), (xf, .inl (cI g, 6, .inl (fun _ => 0)))]) X (c_X8_layOut l g jr jn xr 6 0 xrs xrp (fun _ => 0) (by first | decide | omega) (by first | decide | omega)) ok_X8_layOut okv_X8_layOut q_525 rfl hK hP hD hS hA hZ hl.1 [4, 1, 2] [0, 3] rfl rfl rfl rfl rfl 0 8 rfl rfl rfl (Nat.le_of_ble_eq_true rfl) ⟨Nat.le_of_ble_eq_true rfl, Nat.le_of_ble_eq_true rfl⟩ dX11_row_35 ⟨Nat.le_of_ble_eq_true rfl, Nat.le_of_ble_eq_true rfl⟩ (fun w1 H locs hw_11 hP hD hS => ?_)
          obtain ⟨q_12, rfl⟩ := hw_11
          have hP : va_P g.1 classes [(x0, .inr (11, [.ref xr, .ref xt, .ref xg, .ref xb, .ref xp, .ref xu, .ref xm, .ref xd, .ref xw, .ref xh, .ref xa, .ref xs, .ref xf, .int 0, .int 0, .long 0, .long 0, .int 0])), (xf, .inl (cI g, 6, .inl (fun _ => 0))), (xr, .inr (8, [.int 6, .int 0, .ref xrs, .ref xrp])), (xrs, .inl (cI g, 6, .inl (upd (fun _ => (-1)) jr (nI jn)))), (xrp, .inl (cI g, 240, .inl q_12))] H := hP
          have hD : va_D A [(x0, .inr (11, [.ref xr, .ref xt, .ref xg, .ref xb, .ref xp, .ref xu, .ref xm, .ref xd, .ref xw, .ref xh, .ref xa, .ref xs, .ref xf, .int 0, .int 0, .long 0, .long 0, .int 0])), (xf, .inl (cI g, 6, .inl (fun _ => 0))), (xr, .inr (8, [.int 6, .int 0, .ref xrs, .ref xrp])), (xrs, .inl (cI g, 6, .inl (upd (fun _ => (-1)) jr (nI jn)))), (xrp, .inl (cI g, 240, .inl q_12))] := hD
          refine lv_iload_n hx hb dX11_row_38 rfl (lv_at hl 2 rfl) ?_
          exact rI X hK hP hD hS dX11_row_39 (by rfl) (Nat.le_of_ble_eq_true rfl) (Nat.le_of_ble_eq_true rfl) (by show _ = _; unfold sp_X11_row; rw [if_neg c_3, if_neg c_5, if_pos c_8, if_pos c_9]; try rfl)
        ·
          refine lv_aload_n hx hb dX11_row_23 rfl (lv_at hl 0 rfl) ?_
          refine lv_iconst (v := 5) hx hb dX11_row_24 (by decide) ?_
          refine kVi (As := [.int 5]) (rest := []) (wr := [(xrs, .inl (cI g, 6, .inl (fun _ => (-1)))), (xrp, .inl (cI g, 240, .inl (fun _ => 0))), (xr, .inr (8, [.int 6, .int 0, .ref xrs, .ref xrp]))]) X (c_X11_found5 l g x0 xr xt xg xb xp xu xm xd xw xh xa xs xf) ok_X11_found okv_X11_found q_521 rfl hK hP hD hS hA hZ hl.1 [0, 3] [1, 2, 4] rfl rfl rfl rfl rfl 0 11 rfl rfl rfl (Nat.le_of_ble_eq_true rfl) ⟨Nat.le_of_ble_eq_true rfl, Nat.le_of_ble_eq_true rfl⟩ dX11_row_25 ⟨Nat.le_of_ble_eq_true rfl, Nat.le_of_ble_eq_true rfl⟩ (fun r_13 w1 H locs hw_14 hP hD hS => ?_)
          rw [sp_X11_found5] at hw_14
          obtain ⟨e1, e2⟩ := Prod.mk.inj hw_14
          subst e1; subst e2
          have hP : va_P g.1 classes [(xrs, .inl (cI g, 6, .inl (fun _ => (-1)))), (xrp, .inl (cI g, 240, .inl (fun _ => 0))), (xr, .inr (8, [.int 6, .int 0, .ref xrs, .ref xrp])), (x0, .inr (11, [.ref xr, .ref xt, .ref xg, .ref xb, .ref xp, .ref xu, .ref xm, .ref xd, .ref xw, .ref xh, .ref xa, .ref xs, .ref xf, .int 0, .int 0, .long 0, .long 0, .int 5])), (xf, .inl (cI g, 6, .inl (upd (fun _ => 0) 5 1)))] H := hP
          have hD : va_D A [(xrs, .inl (cI g, 6, .inl (fun _ => (-1)))), (xrp, .inl (cI g, 240, .inl (fun _ => 0))), (xr, .inr (8, [.int 6, .int 0, .ref xrs, .ref xrp])), (x0, .inr (11, [.ref xr, .ref xt, .ref xg, .ref xb, .ref xp, .ref xu, .ref xm, .ref xd, .ref xw, .ref xh, .ref xa, .ref xs, .ref xf, .int 0, .int 0, .long 0, .long 0, .int 5])), (xf, .inl (cI g, 6, .inl (upd (fun _ => 0) 5 1)))] := hD
          exact rI X hK hP hD hS dX11_row_28 (by rfl) (Nat.le_of_ble_eq_true rfl) (Nat.le_of_ble_eq_true rfl) (by show _ = _; unfold sp_X11_row; rw [if_neg c_3, if_neg c_5, if_pos c_8, if_neg c_9]; try rfl)
      ·
        refine lv_iconst (v := (-1)) hx hb dX11_row_17 (by decide) ?_
        exact rI X hK hP hD hS dX11_row_18 (by rfl) (Nat.le_of_ble_eq_true rfl) (Nat.le_of_ble_eq_true rfl) (by show _ = _; unfold sp_X11_row; rw [if_neg c_3, if_neg c_5, if_neg c_8]; try rfl)
def sp_X11_text (g : GG) (x0 : Nat) (r : Int32) (n : Int32) (xr : Nat) (xt : Nat) (xg : Nat) (xb : Nat) (xp : Nat) (xu : Nat) (xm : Nat) (xd : Nat) (xw : Nat) (xh : Nat) (xa : Nat) (xs : Nat) (xf : Nat) (xts : Nat) (xtp : Nat) : Int32 := if r < 0 then (-1) else (if 4 ≤ r then (-1) else (if n ≤ 40 then (if 0 ≤ n then n else (-3)) else (-1)))
set_option maxHeartbeats 4000000 in
set_option maxRecDepth 100000 in
theorem c_X11_text (l : Launch) (g : GG) (x0 : Nat) (r : Int32) (n : Int32) (xr : Nat) (xt : Nat) (xg : Nat) (xb : Nat) (xp : Nat) (xu : Nat) (xm : Nat) (xd : Nat) (xw : Nat) (xh : Nat) (xa : Nat) (xs : Nat) (xf : Nat) (xts : Nat) (xtp : Nat) : MI l g yX11_text cX11_text 3 (some .int) 3 68 0 0 [(x0, .inr (11, [.ref xr, .ref xt, .ref xg, .ref xb, .ref xp, .ref xu, .ref xm, .ref xd, .ref xw, .ref xh, .ref xa, .ref xs, .ref xf, .int 0, .int 0, .long 0, .long 0, .int 0])), (xt, .inr (8, [.int 4, .int 32, .ref xts, .ref xtp])), (xts, .inl (cI g, 6, .inl (fun _ => (-1)))), (xtp, .inl (cI g, 240, .inl (fun _ => 32))), (xf, .inl (cI g, 6, .inl (fun _ => 0)))] [.ref x0, .int r, .int n] (fun rr_ _ => rr_ = sp_X11_text g x0 r n xr xt xg xb xp xu xm xd xw xh xa xs xf xts xtp) := by
  refine met_of (fun A => va_Qi _ (bW g A) A) (by decide) (Nat.le_of_ble_eq_true rfl) ?_
  intro p e s m below meth c A ls X hK hP hD hA hZ hS hl
  have hx := X.1
  have hb := X.2.1
  have hml := X.2.2.1
  have hown := X.2.2.2.1
  have hts := X.2.2.2.2.1
  have hnm := X.2.2.2.2.2.2.2
  have hl : lv_has ls 3 [(0, .ref x0), (1, .int r), (2, .int n)] := hl
  refine lv_aload_n hx hb dX11_text_0 rfl (lv_at hl 0 rfl) ?_
  refine va_get (D := g.1) (ci := 11) (v := .ref xt) (C := RX11) (T := TX11) (N := 18) hx hb hts fw_X11 hown hK hP 0 rfl rfl 1 (by decide) (hts _ q_459) (fun _ h9 => h9) rfl dX11_text_1 ?_
  refine lv_iload_n hx hb dX11_text_4 rfl (lv_at hl 1 rfl) ?_
  refine kVi (As := [.int r]) (rest := []) (wr := [(x0, .inr (11, [.ref xr, .ref xt, .ref xg, .ref xb, .ref xp, .ref xu, .ref xm, .ref xd, .ref xw, .ref xh, .ref xa, .ref xs, .ref xf, .int 0, .int 0, .long 0, .long 0, .int 0])), (xts, .inl (cI g, 6, .inl (fun _ => (-1)))), (xtp, .inl (cI g, 240, .inl (fun _ => 32))), (xf, .inl (cI g, 6, .inl (fun _ => 0)))]) X (c_X8_exists l g xt r 4 32 xts xtp) ok_X8_exists okv_X8_exists q_517 rfl hK hP hD hS hA hZ hl.1 [1] [0, 2, 3, 4] rfl rfl rfl rfl rfl 0 8 rfl rfl rfl (Nat.le_of_ble_eq_true rfl) ⟨Nat.le_of_ble_eq_true rfl, Nat.le_of_ble_eq_true rfl⟩ dX11_text_5 ⟨Nat.le_of_ble_eq_true rfl, Nat.le_of_ble_eq_true rfl⟩ (fun r_1 w1 H locs hw_2 hP hD hS => ?_)
  rw [sp_X8_exists] at hw_2
  rcases Classical.em (r < 0) with c_3 | c_3
  ·
    rw [if_pos c_3] at hw_2
    obtain ⟨e1, e2⟩ := Prod.mk.inj hw_2
    subst e1; subst e2
    have hP : va_P g.1 classes [(x0, .inr (11, [.ref xr, .ref xt, .ref xg, .ref xb, .ref xp, .ref xu, .ref xm, .ref xd, .ref xw, .ref xh, .ref xa, .ref xs, .ref xf, .int 0, .int 0, .long 0, .long 0, .int 0])), (xts, .inl (cI g, 6, .inl (fun _ => (-1)))), (xtp, .inl (cI g, 240, .inl (fun _ => 32))), (xf, .inl (cI g, 6, .inl (fun _ => 0))), (xt, .inr (8, [.int 4, .int 32, .ref xts, .ref xtp]))] H := hP
    have hD : va_D A [(x0, .inr (11, [.ref xr, .ref xt, .ref xg, .ref xb, .ref xp, .ref xu, .ref xm, .ref xd, .ref xw, .ref xh, .ref xa, .ref xs, .ref xf, .int 0, .int 0, .long 0, .long 0, .int 0])), (xts, .inl (cI g, 6, .inl (fun _ => (-1)))), (xtp, .inl (cI g, 240, .inl (fun _ => 32))), (xf, .inl (cI g, 6, .inl (fun _ => 0))), (xt, .inr (8, [.int 4, .int 32, .ref xts, .ref xtp]))] := hD
    refine lv_if_eq (tgt := 17) hx hb dX11_text_8 (by decide) (fun _ => ?_) (fun c_4 => absurd (by decide) c_4)
    refine lv_iconst (v := (-1)) hx hb dX11_text_17 (by decide) ?_
    exact rI X hK hP hD hS dX11_text_18 (by rfl) (Nat.le_of_ble_eq_true rfl) (Nat.le_of_ble_eq_true rfl) (by show _ = _; unfold sp_X11_text; rw [if_pos c_3]; try rfl)
  ·
    rw [if_neg c_3] at hw_2
    rcases Classical.em (4 ≤ r) with c_5 | c_5
    ·
      rw [if_pos c_5] at hw_2
      obtain ⟨e1, e2⟩ := Prod.mk.inj hw_2
      subst e1; subst e2
      have hP : va_P g.1 classes [(x0, .inr (11, [.ref xr, .ref xt, .ref xg, .ref xb, .ref xp, .ref xu, .ref xm, .ref xd, .ref xw, .ref xh, .ref xa, .ref xs, .ref xf, .int 0, .int 0, .long 0, .long 0, .int 0])), (xts, .inl (cI g, 6, .inl (fun _ => (-1)))), (xtp, .inl (cI g, 240, .inl (fun _ => 32))), (xf, .inl (cI g, 6, .inl (fun _ => 0))), (xt, .inr (8, [.int 4, .int 32, .ref xts, .ref xtp]))] H := hP
      have hD : va_D A [(x0, .inr (11, [.ref xr, .ref xt, .ref xg, .ref xb, .ref xp, .ref xu, .ref xm, .ref xd, .ref xw, .ref xh, .ref xa, .ref xs, .ref xf, .int 0, .int 0, .long 0, .long 0, .int 0])), (xts, .inl (cI g, 6, .inl (fun _ => (-1)))), (xtp, .inl (cI g, 240, .inl (fun _ => 32))), (xf, .inl (cI g, 6, .inl (fun _ => 0))), (xt, .inr (8, [.int 4, .int 32, .ref xts, .ref xtp]))] := hD
      refine lv_if_eq (tgt := 17) hx hb dX11_text_8 (by decide) (fun _ => ?_) (fun c_6 => absurd (by decide) c_6)
      refine lv_iconst (v := (-1)) hx hb dX11_text_17 (by decide) ?_
      exact rI X hK hP hD hS dX11_text_18 (by rfl) (Nat.le_of_ble_eq_true rfl) (Nat.le_of_ble_eq_true rfl) (by show _ = _; unfold sp_X11_text; rw [if_neg c_3, if_pos c_5]; try rfl)
    ·
      rw [if_neg c_5] at hw_2
      obtain ⟨e1, e2⟩ := Prod.mk.inj hw_2
      subst e1; subst e2
      have hP : va_P g.1 classes [(x0, .inr (11, [.ref xr, .ref xt, .ref xg, .ref xb, .ref xp, .ref xu, .ref xm, .ref xd, .ref xw, .ref xh, .ref xa, .ref xs, .ref xf, .int 0, .int 0, .long 0, .long 0, .int 0])), (xts, .inl (cI g, 6, .inl (fun _ => (-1)))), (xtp, .inl (cI g, 240, .inl (fun _ => 32))), (xf, .inl (cI g, 6, .inl (fun _ => 0))), (xt, .inr (8, [.int 4, .int 32, .ref xts, .ref xtp]))] H := hP
      have hD : va_D A [(x0, .inr (11, [.ref xr, .ref xt, .ref xg, .ref xb, .ref xp, .ref xu, .ref xm, .ref xd, .ref xw, .ref xh, .ref xa, .ref xs, .ref xf, .int 0, .int 0, .long 0, .long 0, .int 0])), (xts, .inl (cI g, 6, .inl (fun _ => (-1)))), (xtp, .inl (cI g, 240, .inl (fun _ => 32))), (xf, .inl (cI g, 6, .inl (fun _ => 0))), (xt, .inr (8, [.int 4, .int 32, .ref xts, .ref xtp]))] := hD
      refine lv_if_eq (tgt := 17) hx hb dX11_text_8 (by decide) (fun c_7 => absurd c_7 (by decide)) (fun _ => ?_)
      refine lv_iload_n hx hb dX11_text_11 rfl (lv_at hl 2 rfl) ?_
      refine lv_bipush (v := 40) hx hb dX11_text_12 (by decide) ?_
      refine lv_icmp_le (tgt := 19) hx hb dX11_text_14 (by decide) (fun c_8 => ?_) (fun c_8 => ?_)
      ·
        refine lv_iload_n hx hb dX11_text_19 rfl (lv_at hl 2 rfl) ?_
        refine lv_if_ge (tgt := 29) hx hb dX11_text_20 (by decide) (fun c_9 => ?_) (fun c_9 => ?_)
        ·
          refine lv_aload_n hx hb dX11_text_29 rfl (lv_at hl 0 rfl) ?_
          refine va_get (D := g.1) (ci := 11) (v := .ref xt) (C := RX11) (T := TX11) (N := 18) hx hb hts fw_X11 hown hK hP 0 rfl rfl 1 (by decide) (hts _ q_459) (fun _ h9 => h9) rfl dX11_text_30 ?_
          refine lv_iload_n hx hb dX11_text_33 rfl (lv_at hl 1 rfl) ?_
          obtain ⟨jr, h_jr, e_jr⟩ := natI (x := r) (n := 6) (by simp only [i32lt, i32le, i32eq, Int32.reduceToInt] at c_3 c_5 ⊢; omega) (by simp only [i32lt, i32le, i32eq, Int32.reduceToInt] at c_3 c_5 ⊢; omega) (by decide)
          have hn_jr : (nI jr).toInt = (jr : Int) := nI_toInt (by omega)
          refine lv_topk (v := nI jr) e_jr ?_
          refine lv_iload_n hx hb dX11_text_34 rfl (lv_at hl 2 rfl) ?_
          obtain ⟨jn, h_jn, e_jn⟩ := natI (x := n) (n := 41) (by simp only [i32lt, i32le, i32eq, Int32.reduceToInt] at c_8 c_9 ⊢; omega) (by simp only [i32lt, i32le, i32eq, Int32.reduceToInt] at c_8 c_9 ⊢; omega) (by decide)
          have hn_jn : (nI jn).toInt = (jn : Int) := nI_toInt (by omega)
          refine lv_topk (v := nI jn) e_jn ?_
          refine kVv (As := [.int (nI jr), .int (nI jn)]) (rest := []) (wr := [(x0, .inr (11, [.ref xr, .ref xt, .ref xg, .ref xb, .ref xp, .ref xu, .ref xm, .ref xd, .ref xw, .ref xh, .ref xa, .ref xs, .ref xf, .int 0, .int 0, .long 0, .long 0, .int 0])), (xf, .inl (cI g, 6, .inl (fun _ => 0)))]) X (c_X8_layOut l g jr jn xt 4 32 xts xtp (fun _ => 32) (by first | decide | omega) (by first | decide | omega)) ok_X8_layOut okv_X8_layOut q_525 rfl hK hP hD hS hA hZ hl.1 [4, 1, 2] [0, 3] rfl rfl rfl rfl rfl 0 8 rfl rfl rfl (Nat.le_of_ble_eq_true rfl) ⟨Nat.le_of_ble_eq_true rfl, Nat.le_of_ble_eq_true rfl⟩ dX11_text_35 ⟨Nat.le_of_ble_eq_true rfl, Nat.le_of_ble_eq_true rfl⟩ (fun w1 H locs hw_11 hP hD hS => ?_)
          obtain ⟨q_12, rfl⟩ := hw_11
          have hP : va_P g.1 classes [(x0, .inr (11, [.ref xr, .ref xt, .ref xg, .ref xb, .ref xp, .ref xu, .ref xm, .ref xd, .ref xw, .ref xh, .ref xa, .ref xs, .ref xf, .int 0, .int 0, .long 0, .long 0, .int 0])), (xf, .inl (cI g, 6, .inl (fun _ => 0))), (xt, .inr (8, [.int 4, .int 32, .ref xts, .ref xtp])), (xts, .inl (cI g, 6, .inl (upd (fun _ => (-1)) jr (nI jn)))), (xtp, .inl (cI g, 240, .inl q_12))] H := hP
          have hD : va_D A [(x0, .inr (11, [.ref xr, .ref xt, .ref xg, .ref xb, .ref xp, .ref xu, .ref xm, .ref xd, .ref xw, .ref xh, .ref xa, .ref xs, .ref xf, .int 0, .int 0, .long 0, .long 0, .int 0])), (xf, .inl (cI g, 6, .inl (fun _ => 0))), (xt, .inr (8, [.int 4, .int 32, .ref xts, .ref xtp])), (xts, .inl (cI g, 6, .inl (upd (fun _ => (-1)) jr (nI jn)))), (xtp, .inl (cI g, 240, .inl q_12))] := hD
          refine lv_iload_n hx hb dX11_text_38 rfl (lv_at hl 2 rfl) ?_
          exact rI X hK hP hD hS dX11_text_39 (by rfl) (Nat.le_of_ble_eq_true rfl) (Nat.le_of_ble_eq_true rfl) (by show _ = _; unfold sp_X11_text; rw [if_neg c_3, if_neg c_5, if_pos c_8, if_pos c_9]; try rfl)
        ·
          refine lv_aload_n hx hb dX11_text_23 rfl (lv_at hl 0 rfl) ?_
          refine lv_iconst (v := 5) hx hb dX11_text_24 (by decide) ?_
          refine kVi (As := [.int 5]) (rest := []) (wr := [(xts, .inl (cI g, 6, .inl (fun _ => (-1)))), (xtp, .inl (cI g, 240, .inl (fun _ => 32))), (xt, .inr (8, [.int 4, .int 32, .ref xts, .ref xtp]))]) X (c_X11_found5 l g x0 xr xt xg xb xp xu xm xd xw xh xa xs xf) ok_X11_found okv_X11_found q_521 rfl hK hP hD hS hA hZ hl.1 [0, 3] [1, 2, 4] rfl rfl rfl rfl rfl 0 11 rfl rfl rfl (Nat.le_of_ble_eq_true rfl) ⟨Nat.le_of_ble_eq_true rfl, Nat.le_of_ble_eq_true rfl⟩ dX11_text_25 ⟨Nat.le_of_ble_eq_true rfl, Nat.le_of_ble_eq_true rfl⟩ (fun r_13 w1 H locs hw_14 hP hD hS => ?_)
          rw [sp_X11_found5] at hw_14
          obtain ⟨e1, e2⟩ := Prod.mk.inj hw_14
          subst e1; subst e2
          have hP : va_P g.1 classes [(xts, .inl (cI g, 6, .inl (fun _ => (-1)))), (xtp, .inl (cI g, 240, .inl (fun _ => 32))), (xt, .inr (8, [.int 4, .int 32, .ref xts, .ref xtp])), (x0, .inr (11, [.ref xr, .ref xt, .ref xg, .ref xb, .ref xp, .ref xu, .ref xm, .ref xd, .ref xw, .ref xh, .ref xa, .ref xs, .ref xf, .int 0, .int 0, .long 0, .long 0, .int 5])), (xf, .inl (cI g, 6, .inl (upd (fun _ => 0) 5 1)))] H := hP
          have hD : va_D A [(xts, .inl (cI g, 6, .inl (fun _ => (-1)))), (xtp, .inl (cI g, 240, .inl (fun _ => 32))), (xt, .inr (8, [.int 4, .int 32, .ref xts, .ref xtp])), (x0, .inr (11, [.ref xr, .ref xt, .ref xg, .ref xb, .ref xp, .ref xu, .ref xm, .ref xd, .ref xw, .ref xh, .ref xa, .ref xs, .ref xf, .int 0, .int 0, .long 0, .long 0, .int 5])), (xf, .inl (cI g, 6, .inl (upd (fun _ => 0) 5 1)))] := hD
          exact rI X hK hP hD hS dX11_text_28 (by rfl) (Nat.le_of_ble_eq_true rfl) (Nat.le_of_ble_eq_true rfl) (by show _ = _; unfold sp_X11_text; rw [if_neg c_3, if_neg c_5, if_pos c_8, if_neg c_9]; try rfl)
      ·
        refine lv_iconst (v := (-1)) hx hb dX11_text_17 (by decide) ?_
        exact rI X hK hP hD hS dX11_text_18 (by rfl) (Nat.le_of_ble_eq_true rfl) (Nat.le_of_ble_eq_true rfl) (by show _ = _; unfold sp_X11_text; rw [if_neg c_3, if_neg c_5, if_neg c_8]; try rfl)
def sp_X12_row (g : GG) (m0 : Nat) (r : Int32) (n : Int32) (m0a1 : Nat) (m0a5 : Nat) (m0a6 : Nat) (m0a7 : Nat) (m0a8 : Nat) (m0a9 : Nat) (m0a11 : Nat) (m0a12 : Nat) (m0a13 : Nat) (m0a14 : Nat) (m0a15 : Nat) (m0a16 : Nat) (m0a18 : Nat) (m0a19 : Nat) (m0a20 : Nat) (m0a21 : Nat) (m0a22 : Nat) (m0a24 : Nat) (m0a25 : Nat) (m0a26 : Nat) (m0a28 : Nat) (m0a29 : Nat) (m0a30 : Nat) (m0a31 : Nat) (m0a33 : Nat) (m0a34 : Nat) (m0a35 : Nat) (m0a36 : Nat) (m0a37 : Nat) (m0a38 : Nat) (m0a39 : Nat) (m0a40 : Nat) (m0a41 : Nat) (m0a42 : Nat) (m0a43 : Nat) (m0a44 : Nat) (m0a45 : Nat) (m0a46 : Nat) (m0a47 : Nat) (m0a49 : Nat) (m0a50 : Nat) (m0a51 : Nat) (m0a53 : Nat) (m0a54 : Nat) (m0a55 : Nat) (m0a56 : Nat) (m0a57 : Nat) (m0a58 : Nat) (m0a59 : Nat) (m0a60 : Nat) (m0a61 : Nat) (m0a62 : Nat) (m0a63 : Nat) (m0a67 : Nat) (m0a68 : Nat) (m0a69 : Nat) (m0a70 : Nat) (m0a71 : Nat) (m0a72 : Nat) (m0a73 : Nat) (m0a74 : Nat) (m0a75 : Nat) : Int32 := if r < 0 then (-1) else (if 5 < r then (-1) else (if n ≤ 40 then (if 0 ≤ n then n else (-3)) else (-1)))
set_option maxHeartbeats 4000000 in
set_option maxRecDepth 100000 in
theorem c_X12_row (l : Launch) (g : GG) (m0 : Nat) (r : Int32) (n : Int32) (m0a1 : Nat) (m0a5 : Nat) (m0a6 : Nat) (m0a7 : Nat) (m0a8 : Nat) (m0a9 : Nat) (m0a11 : Nat) (m0a12 : Nat) (m0a13 : Nat) (m0a14 : Nat) (m0a15 : Nat) (m0a16 : Nat) (m0a18 : Nat) (m0a19 : Nat) (m0a20 : Nat) (m0a21 : Nat) (m0a22 : Nat) (m0a24 : Nat) (m0a25 : Nat) (m0a26 : Nat) (m0a28 : Nat) (m0a29 : Nat) (m0a30 : Nat) (m0a31 : Nat) (m0a33 : Nat) (m0a34 : Nat) (m0a35 : Nat) (m0a36 : Nat) (m0a37 : Nat) (m0a38 : Nat) (m0a39 : Nat) (m0a40 : Nat) (m0a41 : Nat) (m0a42 : Nat) (m0a43 : Nat) (m0a44 : Nat) (m0a45 : Nat) (m0a46 : Nat) (m0a47 : Nat) (m0a49 : Nat) (m0a50 : Nat) (m0a51 : Nat) (m0a53 : Nat) (m0a54 : Nat) (m0a55 : Nat) (m0a56 : Nat) (m0a57 : Nat) (m0a58 : Nat) (m0a59 : Nat) (m0a60 : Nat) (m0a61 : Nat) (m0a62 : Nat) (m0a63 : Nat) (m0a67 : Nat) (m0a68 : Nat) (m0a69 : Nat) (m0a70 : Nat) (m0a71 : Nat) (m0a72 : Nat) (m0a73 : Nat) (m0a74 : Nat) (m0a75 : Nat) : MI l g yX12_row cX12_row 4 (some .int) 2 42 0 0 [(m0, .inr (12, [.int 0, .ref m0a1, .int 0, .long 0, .int 0, .ref m0a5, .ref m0a6, .ref m0a7, .ref m0a8, .ref m0a9, .int 0, .ref m0a11, .ref m0a12, .ref m0a13, .ref m0a14, .ref m0a15, .ref m0a16, .int 0, .ref m0a18, .ref m0a19, .ref m0a20, .ref m0a21, .ref m0a22, .int 0, .ref m0a24, .ref m0a25, .ref m0a26, .int 0, .ref m0a28, .ref m0a29, .ref m0a30, .ref m0a31, .int 0, .ref m0a33, .ref m0a34, .ref m0a35, .ref m0a36, .ref m0a37, .ref m0a38, .ref m0a39, .ref m0a40, .ref m0a41, .ref m0a42, .ref m0a43, .ref m0a44, .ref m0a45, .ref m0a46, .ref m0a47, .int 0, .ref m0a49, .ref m0a50, .ref m0a51, .int 0, .ref m0a53, .ref m0a54, .ref m0a55, .ref m0a56, .ref m0a57, .ref m0a58, .ref m0a59, .ref m0a60, .ref m0a61, .ref m0a62, .ref m0a63, .long 0, .int 0, .int (-9), .ref m0a67, .ref m0a68, .ref m0a69, .ref m0a70, .ref m0a71, .ref m0a72, .ref m0a73, .ref m0a74, .ref m0a75, .long 0])), (m0a1, .inl (cI g, 6, .inl (fun _ => 0))), (m0a5, .inl (cI g, 6, .inl (fun _ => (-9)))), (m0a6, .inl (cI g, 240, .inl (fun _ => 0)))] [.ref m0, .int r, .int n] (fun rr_ _ => rr_ = sp_X12_row g m0 r n m0a1 m0a5 m0a6 m0a7 m0a8 m0a9 m0a11 m0a12 m0a13 m0a14 m0a15 m0a16 m0a18 m0a19 m0a20 m0a21 m0a22 m0a24 m0a25 m0a26 m0a28 m0a29 m0a30 m0a31 m0a33 m0a34 m0a35 m0a36 m0a37 m0a38 m0a39 m0a40 m0a41 m0a42 m0a43 m0a44 m0a45 m0a46 m0a47 m0a49 m0a50 m0a51 m0a53 m0a54 m0a55 m0a56 m0a57 m0a58 m0a59 m0a60 m0a61 m0a62 m0a63 m0a67 m0a68 m0a69 m0a70 m0a71 m0a72 m0a73 m0a74 m0a75) := by
  refine met_of (fun A => va_Qi _ (bW g A) A) (by decide) (Nat.le_of_ble_eq_true rfl) ?_
  intro p e s m below meth c A ls X hK hP hD hA hZ hS hl
  have hx := X.1
  have hb := X.2.1
  have hml := X.2.2.1
  have hown := X.2.2.2.1
  have hts := X.2.2.2.2.1
  have hnm := X.2.2.2.2.2.2.2
  have hl : lv_has ls 4 [(0, .ref m0), (1, .int r), (2, .int n)] := hl
  refine lv_iload_n hx hb dX12_row_0 rfl (lv_at hl 1 rfl) ?_
  refine kSi (As := [.int r]) (rest := []) (wr := [(m0, .inr (12, [.int 0, .ref m0a1, .int 0, .long 0, .int 0, .ref m0a5, .ref m0a6, .ref m0a7, .ref m0a8, .ref m0a9, .int 0, .ref m0a11, .ref m0a12, .ref m0a13, .ref m0a14, .ref m0a15, .ref m0a16, .int 0, .ref m0a18, .ref m0a19, .ref m0a20, .ref m0a21, .ref m0a22, .int 0, .ref m0a24, .ref m0a25, .ref m0a26, .int 0, .ref m0a28, .ref m0a29, .ref m0a30, .ref m0a31, .int 0, .ref m0a33, .ref m0a34, .ref m0a35, .ref m0a36, .ref m0a37, .ref m0a38, .ref m0a39, .ref m0a40, .ref m0a41, .ref m0a42, .ref m0a43, .ref m0a44, .ref m0a45, .ref m0a46, .ref m0a47, .int 0, .ref m0a49, .ref m0a50, .ref m0a51, .int 0, .ref m0a53, .ref m0a54, .ref m0a55, .ref m0a56, .ref m0a57, .ref m0a58, .ref m0a59, .ref m0a60, .ref m0a61, .ref m0a62, .ref m0a63, .long 0, .int 0, .int (-9), .ref m0a67, .ref m0a68, .ref m0a69, .ref m0a70, .ref m0a71, .ref m0a72, .ref m0a73, .ref m0a74, .ref m0a75, .long 0])), (m0a1, .inl (cI g, 6, .inl (fun _ => 0))), (m0a5, .inl (cI g, 6, .inl (fun _ => (-9)))), (m0a6, .inl (cI g, 240, .inl (fun _ => 0)))]) X (c_X12_isRow l g r) ok_X12_isRow q_1703 q_1702 rfl hK hP hD hS hA hZ hl.1 [] [0, 1, 2, 3] rfl rfl rfl rfl rfl rfl (Nat.le_of_ble_eq_true rfl) ⟨Nat.le_of_ble_eq_true rfl, Nat.le_of_ble_eq_true rfl⟩ dX12_row_1 ⟨Nat.le_of_ble_eq_true rfl, Nat.le_of_ble_eq_true rfl⟩ (fun r_1 w1 H locs hw_2 hP hD hS => ?_)
  rw [sp_X12_isRow] at hw_2
  rcases Classical.em (r < 0) with c_3 | c_3
  ·
    rw [if_pos c_3] at hw_2
    obtain ⟨e1, e2⟩ := Prod.mk.inj hw_2
    subst e1; subst e2
    have hP : va_P g.1 classes [(m0, .inr (12, [.int 0, .ref m0a1, .int 0, .long 0, .int 0, .ref m0a5, .ref m0a6, .ref m0a7, .ref m0a8, .ref m0a9, .int 0, .ref m0a11, .ref m0a12, .ref m0a13, .ref m0a14, .ref m0a15, .ref m0a16, .int 0, .ref m0a18, .ref m0a19, .ref m0a20, .ref m0a21, .ref m0a22, .int 0, .ref m0a24, .ref m0a25, .ref m0a26, .int 0, .ref m0a28, .ref m0a29, .ref m0a30, .ref m0a31, .int 0, .ref m0a33, .ref m0a34, .ref m0a35, .ref m0a36, .ref m0a37, .ref m0a38, .ref m0a39, .ref m0a40, .ref m0a41, .ref m0a42, .ref m0a43, .ref m0a44, .ref m0a45, .ref m0a46, .ref m0a47, .int 0, .ref m0a49, .ref m0a50, .ref m0a51, .int 0, .ref m0a53, .ref m0a54, .ref m0a55, .ref m0a56, .ref m0a57, .ref m0a58, .ref m0a59, .ref m0a60, .ref m0a61, .ref m0a62, .ref m0a63, .long 0, .int 0, .int (-9), .ref m0a67, .ref m0a68, .ref m0a69, .ref m0a70, .ref m0a71, .ref m0a72, .ref m0a73, .ref m0a74, .ref m0a75, .long 0])), (m0a1, .inl (cI g, 6, .inl (fun _ => 0))), (m0a5, .inl (cI g, 6, .inl (fun _ => (-9)))), (m0a6, .inl (cI g, 240, .inl (fun _ => 0)))] H := hP
    have hD : va_D A [(m0, .inr (12, [.int 0, .ref m0a1, .int 0, .long 0, .int 0, .ref m0a5, .ref m0a6, .ref m0a7, .ref m0a8, .ref m0a9, .int 0, .ref m0a11, .ref m0a12, .ref m0a13, .ref m0a14, .ref m0a15, .ref m0a16, .int 0, .ref m0a18, .ref m0a19, .ref m0a20, .ref m0a21, .ref m0a22, .int 0, .ref m0a24, .ref m0a25, .ref m0a26, .int 0, .ref m0a28, .ref m0a29, .ref m0a30, .ref m0a31, .int 0, .ref m0a33, .ref m0a34, .ref m0a35, .ref m0a36, .ref m0a37, .ref m0a38, .ref m0a39, .ref m0a40, .ref m0a41, .ref m0a42, .ref m0a43, .ref m0a44, .ref m0a45, .ref m0a46, .ref m0a47, .int 0, .ref m0a49, .ref m0a50, .ref m0a51, .int 0, .ref m0a53, .ref m0a54, .ref m0a55, .ref m0a56, .ref m0a57, .ref m0a58, .ref m0a59, .ref m0a60, .ref m0a61, .ref m0a62, .ref m0a63, .long 0, .int 0, .int (-9), .ref m0a67, .ref m0a68, .ref m0a69, .ref m0a70, .ref m0a71, .ref m0a72, .ref m0a73, .ref m0a74, .ref m0a75, .long 0])), (m0a1, .inl (cI g, 6, .inl (fun _ => 0))), (m0a5, .inl (cI g, 6, .inl (fun _ => (-9)))), (m0a6, .inl (cI g, 240, .inl (fun _ => 0)))] := hD
    refine lv_if_eq (tgt := 13) hx hb dX12_row_4 (by decide) (fun _ => ?_) (fun c_4 => absurd (by decide) c_4)
    refine lv_iconst (v := (-1)) hx hb dX12_row_13 (by decide) ?_
    exact rI X hK hP hD hS dX12_row_14 (by rfl) (Nat.le_of_ble_eq_true rfl) (Nat.le_of_ble_eq_true rfl) (by show _ = _; unfold sp_X12_row; rw [if_pos c_3]; try rfl)
  ·
    rw [if_neg c_3] at hw_2
    rcases Classical.em (5 < r) with c_5 | c_5
    ·
      rw [if_pos c_5] at hw_2
      obtain ⟨e1, e2⟩ := Prod.mk.inj hw_2
      subst e1; subst e2
      have hP : va_P g.1 classes [(m0, .inr (12, [.int 0, .ref m0a1, .int 0, .long 0, .int 0, .ref m0a5, .ref m0a6, .ref m0a7, .ref m0a8, .ref m0a9, .int 0, .ref m0a11, .ref m0a12, .ref m0a13, .ref m0a14, .ref m0a15, .ref m0a16, .int 0, .ref m0a18, .ref m0a19, .ref m0a20, .ref m0a21, .ref m0a22, .int 0, .ref m0a24, .ref m0a25, .ref m0a26, .int 0, .ref m0a28, .ref m0a29, .ref m0a30, .ref m0a31, .int 0, .ref m0a33, .ref m0a34, .ref m0a35, .ref m0a36, .ref m0a37, .ref m0a38, .ref m0a39, .ref m0a40, .ref m0a41, .ref m0a42, .ref m0a43, .ref m0a44, .ref m0a45, .ref m0a46, .ref m0a47, .int 0, .ref m0a49, .ref m0a50, .ref m0a51, .int 0, .ref m0a53, .ref m0a54, .ref m0a55, .ref m0a56, .ref m0a57, .ref m0a58, .ref m0a59, .ref m0a60, .ref m0a61, .ref m0a62, .ref m0a63, .long 0, .int 0, .int (-9), .ref m0a67, .ref m0a68, .ref m0a69, .ref m0a70, .ref m0a71, .ref m0a72, .ref m0a73, .ref m0a74, .ref m0a75, .long 0])), (m0a1, .inl (cI g, 6, .inl (fun _ => 0))), (m0a5, .inl (cI g, 6, .inl (fun _ => (-9)))), (m0a6, .inl (cI g, 240, .inl (fun _ => 0)))] H := hP
      have hD : va_D A [(m0, .inr (12, [.int 0, .ref m0a1, .int 0, .long 0, .int 0, .ref m0a5, .ref m0a6, .ref m0a7, .ref m0a8, .ref m0a9, .int 0, .ref m0a11, .ref m0a12, .ref m0a13, .ref m0a14, .ref m0a15, .ref m0a16, .int 0, .ref m0a18, .ref m0a19, .ref m0a20, .ref m0a21, .ref m0a22, .int 0, .ref m0a24, .ref m0a25, .ref m0a26, .int 0, .ref m0a28, .ref m0a29, .ref m0a30, .ref m0a31, .int 0, .ref m0a33, .ref m0a34, .ref m0a35, .ref m0a36, .ref m0a37, .ref m0a38, .ref m0a39, .ref m0a40, .ref m0a41, .ref m0a42, .ref m0a43, .ref m0a44, .ref m0a45, .ref m0a46, .ref m0a47, .int 0, .ref m0a49, .ref m0a50, .ref m0a51, .int 0, .ref m0a53, .ref m0a54, .ref m0a55, .ref m0a56, .ref m0a57, .ref m0a58, .ref m0a59, .ref m0a60, .ref m0a61, .ref m0a62, .ref m0a63, .long 0, .int 0, .int (-9), .ref m0a67, .ref m0a68, .ref m0a69, .ref m0a70, .ref m0a71, .ref m0a72, .ref m0a73, .ref m0a74, .ref m0a75, .long 0])), (m0a1, .inl (cI g, 6, .inl (fun _ => 0))), (m0a5, .inl (cI g, 6, .inl (fun _ => (-9)))), (m0a6, .inl (cI g, 240, .inl (fun _ => 0)))] := hD
      refine lv_if_eq (tgt := 13) hx hb dX12_row_4 (by decide) (fun _ => ?_) (fun c_6 => absurd (by decide) c_6)
      refine lv_iconst (v := (-1)) hx hb dX12_row_13 (by decide) ?_
      exact rI X hK hP hD hS dX12_row_14 (by rfl) (Nat.le_of_ble_eq_true rfl) (Nat.le_of_ble_eq_true rfl) (by show _ = _; unfold sp_X12_row; rw [if_neg c_3, if_pos c_5]; try rfl)
    ·
      rw [if_neg c_5] at hw_2
      obtain ⟨e1, e2⟩ := Prod.mk.inj hw_2
      subst e1; subst e2
      have hP : va_P g.1 classes [(m0, .inr (12, [.int 0, .ref m0a1, .int 0, .long 0, .int 0, .ref m0a5, .ref m0a6, .ref m0a7, .ref m0a8, .ref m0a9, .int 0, .ref m0a11, .ref m0a12, .ref m0a13, .ref m0a14, .ref m0a15, .ref m0a16, .int 0, .ref m0a18, .ref m0a19, .ref m0a20, .ref m0a21, .ref m0a22, .int 0, .ref m0a24, .ref m0a25, .ref m0a26, .int 0, .ref m0a28, .ref m0a29, .ref m0a30, .ref m0a31, .int 0, .ref m0a33, .ref m0a34, .ref m0a35, .ref m0a36, .ref m0a37, .ref m0a38, .ref m0a39, .ref m0a40, .ref m0a41, .ref m0a42, .ref m0a43, .ref m0a44, .ref m0a45, .ref m0a46, .ref m0a47, .int 0, .ref m0a49, .ref m0a50, .ref m0a51, .int 0, .ref m0a53, .ref m0a54, .ref m0a55, .ref m0a56, .ref m0a57, .ref m0a58, .ref m0a59, .ref m0a60, .ref m0a61, .ref m0a62, .ref m0a63, .long 0, .int 0, .int (-9), .ref m0a67, .ref m0a68, .ref m0a69, .ref m0a70, .ref m0a71, .ref m0a72, .ref m0a73, .ref m0a74, .ref m0a75, .long 0])), (m0a1, .inl (cI g, 6, .inl (fun _ => 0))), (m0a5, .inl (cI g, 6, .inl (fun _ => (-9)))), (m0a6, .inl (cI g, 240, .inl (fun _ => 0)))] H := hP
      have hD : va_D A [(m0, .inr (12, [.int 0, .ref m0a1, .int 0, .long 0, .int 0, .ref m0a5, .ref m0a6, .ref m0a7, .ref m0a8, .ref m0a9, .int 0, .ref m0a11, .ref m0a12, .ref m0a13, .ref m0a14, .ref m0a15, .ref m0a16, .int 0, .ref m0a18, .ref m0a19, .ref m0a20, .ref m0a21, .ref m0a22, .int 0, .ref m0a24, .ref m0a25, .ref m0a26, .int 0, .ref m0a28, .ref m0a29, .ref m0a30, .ref m0a31, .int 0, .ref m0a33, .ref m0a34, .ref m0a35, .ref m0a36, .ref m0a37, .ref m0a38, .ref m0a39, .ref m0a40, .ref m0a41, .ref m0a42, .ref m0a43, .ref m0a44, .ref m0a45, .ref m0a46, .ref m0a47, .int 0, .ref m0a49, .ref m0a50, .ref m0a51, .int 0, .ref m0a53, .ref m0a54, .ref m0a55, .ref m0a56, .ref m0a57, .ref m0a58, .ref m0a59, .ref m0a60, .ref m0a61, .ref m0a62, .ref m0a63, .long 0, .int 0, .int (-9), .ref m0a67, .ref m0a68, .ref m0a69, .ref m0a70, .ref m0a71, .ref m0a72, .ref m0a73, .ref m0a74, .ref m0a75, .long 0])), (m0a1, .inl (cI g, 6, .inl (fun _ => 0))), (m0a5, .inl (cI g, 6, .inl (fun _ => (-9)))), (m0a6, .inl (cI g, 240, .inl (fun _ => 0)))] := hD
      refine lv_if_eq (tgt := 13) hx hb dX12_row_4 (by decide) (fun c_7 => absurd c_7 (by decide)) (fun _ => ?_)
      refine lv_iload_n hx hb dX12_row_7 rfl (lv_at hl 2 rfl) ?_
      refine lv_bipush (v := 40) hx hb dX12_row_8 (by decide) ?_
      refine lv_icmp_le (tgt := 15) hx hb dX12_row_10 (by decide) (fun c_8 => ?_) (fun c_8 => ?_)
      ·
        refine lv_iload_n hx hb dX12_row_15 rfl (lv_at hl 2 rfl) ?_
        refine lv_if_ge (tgt := 25) hx hb dX12_row_16 (by decide) (fun c_9 => ?_) (fun c_9 => ?_)
        ·
          refine lv_aload_n hx hb dX12_row_25 rfl (lv_at hl 0 rfl) ?_
          refine va_get (D := g.1) (ci := 12) (v := .ref m0a5) (C := RX12) (T := TX12) (N := 77) hx hb hts fw_X12 hown hK hP 0 rfl rfl 5 (by decide) (hts _ q_1471) (fun _ h9 => h9) rfl dX12_row_26 ?_
          refine lv_iload_n hx hb dX12_row_29 rfl (lv_at hl 1 rfl) ?_
          refine lv_iload_n hx hb dX12_row_30 rfl (lv_at hl 2 rfl) ?_
          refine va_iast hx hb hK hP hD hS 2 0 rfl rfl (vp_in_iff.mpr (by simp only [i32lt, i32le, i32eq, Int32.reduceToInt] at c_3 c_5; omega)) dX12_row_31 (fun H locs hP hD hS => ?_)
          have hP : va_P g.1 classes [(m0, .inr (12, [.int 0, .ref m0a1, .int 0, .long 0, .int 0, .ref m0a5, .ref m0a6, .ref m0a7, .ref m0a8, .ref m0a9, .int 0, .ref m0a11, .ref m0a12, .ref m0a13, .ref m0a14, .ref m0a15, .ref m0a16, .int 0, .ref m0a18, .ref m0a19, .ref m0a20, .ref m0a21, .ref m0a22, .int 0, .ref m0a24, .ref m0a25, .ref m0a26, .int 0, .ref m0a28, .ref m0a29, .ref m0a30, .ref m0a31, .int 0, .ref m0a33, .ref m0a34, .ref m0a35, .ref m0a36, .ref m0a37, .ref m0a38, .ref m0a39, .ref m0a40, .ref m0a41, .ref m0a42, .ref m0a43, .ref m0a44, .ref m0a45, .ref m0a46, .ref m0a47, .int 0, .ref m0a49, .ref m0a50, .ref m0a51, .int 0, .ref m0a53, .ref m0a54, .ref m0a55, .ref m0a56, .ref m0a57, .ref m0a58, .ref m0a59, .ref m0a60, .ref m0a61, .ref m0a62, .ref m0a63, .long 0, .int 0, .int (-9), .ref m0a67, .ref m0a68, .ref m0a69, .ref m0a70, .ref m0a71, .ref m0a72, .ref m0a73, .ref m0a74, .ref m0a75, .long 0])), (m0a1, .inl (cI g, 6, .inl (fun _ => 0))), (m0a5, .inl (cI g, 6, .inl (upd (fun _ => (-9)) (r).toNatClampNeg n))), (m0a6, .inl (cI g, 240, .inl (fun _ => 0)))] H := hP
          have hD : va_D A [(m0, .inr (12, [.int 0, .ref m0a1, .int 0, .long 0, .int 0, .ref m0a5, .ref m0a6, .ref m0a7, .ref m0a8, .ref m0a9, .int 0, .ref m0a11, .ref m0a12, .ref m0a13, .ref m0a14, .ref m0a15, .ref m0a16, .int 0, .ref m0a18, .ref m0a19, .ref m0a20, .ref m0a21, .ref m0a22, .int 0, .ref m0a24, .ref m0a25, .ref m0a26, .int 0, .ref m0a28, .ref m0a29, .ref m0a30, .ref m0a31, .int 0, .ref m0a33, .ref m0a34, .ref m0a35, .ref m0a36, .ref m0a37, .ref m0a38, .ref m0a39, .ref m0a40, .ref m0a41, .ref m0a42, .ref m0a43, .ref m0a44, .ref m0a45, .ref m0a46, .ref m0a47, .int 0, .ref m0a49, .ref m0a50, .ref m0a51, .int 0, .ref m0a53, .ref m0a54, .ref m0a55, .ref m0a56, .ref m0a57, .ref m0a58, .ref m0a59, .ref m0a60, .ref m0a61, .ref m0a62, .ref m0a63, .long 0, .int 0, .int (-9), .ref m0a67, .ref m0a68, .ref m0a69, .ref m0a70, .ref m0a71, .ref m0a72, .ref m0a73, .ref m0a74, .ref m0a75, .long 0])), (m0a1, .inl (cI g, 6, .inl (fun _ => 0))), (m0a5, .inl (cI g, 6, .inl (upd (fun _ => (-9)) (r).toNatClampNeg n))), (m0a6, .inl (cI g, 240, .inl (fun _ => 0)))] := hD
          refine lv_iconst (v := 0) hx hb dX12_row_32 (by decide) ?_
          refine lv_istore_n (lv' := [(3, .int 0), (0, .ref m0), (1, .int r), (2, .int n)]) hx hb dX12_row_33 rfl hl (by decide) rfl (fun ls hl => ?_)
          refine loopK 40 (fun k H locs ls => ∃ f1 : Nat → Int32, va_P g.1 classes [(m0, .inr (12, [.int 0, .ref m0a1, .int 0, .long 0, .int 0, .ref m0a5, .ref m0a6, .ref m0a7, .ref m0a8, .ref m0a9, .int 0, .ref m0a11, .ref m0a12, .ref m0a13, .ref m0a14, .ref m0a15, .ref m0a16, .int 0, .ref m0a18, .ref m0a19, .ref m0a20, .ref m0a21, .ref m0a22, .int 0, .ref m0a24, .ref m0a25, .ref m0a26, .int 0, .ref m0a28, .ref m0a29, .ref m0a30, .ref m0a31, .int 0, .ref m0a33, .ref m0a34, .ref m0a35, .ref m0a36, .ref m0a37, .ref m0a38, .ref m0a39, .ref m0a40, .ref m0a41, .ref m0a42, .ref m0a43, .ref m0a44, .ref m0a45, .ref m0a46, .ref m0a47, .int 0, .ref m0a49, .ref m0a50, .ref m0a51, .int 0, .ref m0a53, .ref m0a54, .ref m0a55, .ref m0a56, .ref m0a57, .ref m0a58, .ref m0a59, .ref m0a60, .ref m0a61, .ref m0a62, .ref m0a63, .long 0, .int 0, .int (-9), .ref m0a67, .ref m0a68, .ref m0a69, .ref m0a70, .ref m0a71, .ref m0a72, .ref m0a73, .ref m0a74, .ref m0a75, .long 0])), (m0a1, .inl (cI g, 6, .inl (fun _ => 0))), (m0a5, .inl (cI g, 6, .inl (upd (fun _ => (-9)) (r).toNatClampNeg n))), (m0a6, .inl (cI g, 240, .inl f1))] H ∧ va_D A [(m0, .inr (12, [.int 0, .ref m0a1, .int 0, .long 0, .int 0, .ref m0a5, .ref m0a6, .ref m0a7, .ref m0a8, .ref m0a9, .int 0, .ref m0a11, .ref m0a12, .ref m0a13, .ref m0a14, .ref m0a15, .ref m0a16, .int 0, .ref m0a18, .ref m0a19, .ref m0a20, .ref m0a21, .ref m0a22, .int 0, .ref m0a24, .ref m0a25, .ref m0a26, .int 0, .ref m0a28, .ref m0a29, .ref m0a30, .ref m0a31, .int 0, .ref m0a33, .ref m0a34, .ref m0a35, .ref m0a36, .ref m0a37, .ref m0a38, .ref m0a39, .ref m0a40, .ref m0a41, .ref m0a42, .ref m0a43, .ref m0a44, .ref m0a45, .ref m0a46, .ref m0a47, .int 0, .ref m0a49, .ref m0a50, .ref m0a51, .int 0, .ref m0a53, .ref m0a54, .ref m0a55, .ref m0a56, .ref m0a57, .ref m0a58, .ref m0a59, .ref m0a60, .ref m0a61, .ref m0a62, .ref m0a63, .long 0, .int 0, .int (-9), .ref m0a67, .ref m0a68, .ref m0a69, .ref m0a70, .ref m0a71, .ref m0a72, .ref m0a73, .ref m0a74, .ref m0a75, .long 0])), (m0a1, .inl (cI g, 6, .inl (fun _ => 0))), (m0a5, .inl (cI g, 6, .inl (upd (fun _ => (-9)) (r).toNatClampNeg n))), (m0a6, .inl (cI g, 240, .inl f1))] ∧ va_S A s.heap H locs ∧ lv_has ls 4 [(0, .ref m0), (1, .int r), (2, .int n), (3, .int (nI k))]) (Wg := fun H locs ls => W p l e _ s m _ below meth c H locs _ _ _ (F0 m 34 ls [])) ?_ ?_ _ _ _ ⟨_, hP, hD, hS, lv_sub hl [1, 2, 3, 0] rfl⟩
          · intro k hk_k ih H locs ls hI
            obtain ⟨f1, hP, hD, hS, hl⟩ := hI
            have hn_k : (nI k).toInt = (k : Int) := nI_toInt (by omega)
            refine lv_iload_n hx hb dX12_row_34 rfl (lv_at hl 3 rfl) ?_
            refine lv_bipush (v := 40) hx hb dX12_row_35 (by decide) ?_
            refine lv_icmp_ge (tgt := 58) hx hb dX12_row_37 (by decide) (fun c_10 => (by simp only [i32lt, i32le, i32eq, Int32.reduceToInt] at c_10; omega : False).elim) (fun _ => ?_)
            refine lv_aload_n hx hb dX12_row_40 rfl (lv_at hl 0 rfl) ?_
            refine va_get (D := g.1) (ci := 12) (v := .ref m0a6) (C := RX12) (T := TX12) (N := 77) hx hb hts fw_X12 hown hK hP 0 rfl rfl 6 (by decide) (hts _ q_1472) (fun _ h9 => h9) rfl dX12_row_41 ?_
            refine lv_bipush (v := 40) hx hb dX12_row_44 (by decide) ?_
            refine lv_iload_n hx hb dX12_row_46 rfl (lv_at hl 1 rfl) ?_
            obtain ⟨jr, h_jr, e_jr⟩ := natI (x := r) (n := 6) (by simp only [i32lt, i32le, i32eq, Int32.reduceToInt] at c_3 c_5 ⊢; omega) (by simp only [i32lt, i32le, i32eq, Int32.reduceToInt] at c_3 c_5 ⊢; omega) (by decide)
            have hn_jr : (nI jr).toInt = (jr : Int) := nI_toInt (by omega)
            refine lv_topk (v := nI jr) e_jr ?_
            refine lv_imul hx hb dX12_row_47 ?_
            refine lv_topk (v := nI (40 * jr)) (pk_mul _ _) ?_
            refine lv_iload_n hx hb dX12_row_48 rfl (lv_at hl 3 rfl) ?_
            refine lv_iadd hx hb dX12_row_49 ?_
            refine lv_topk (v := nI ((40 * jr) + k)) (nI_add _ _) ?_
            refine lv_iconst (v := 0) hx hb dX12_row_50 (by decide) ?_
            refine va_iast hx hb hK hP hD hS 3 0 rfl rfl (vp_in_nI (by omega) (by omega)) dX12_row_51 (fun H locs hP hD hS => ?_)
            have hP : va_P g.1 classes [(m0, .inr (12, [.int 0, .ref m0a1, .int 0, .long 0, .int 0, .ref m0a5, .ref m0a6, .ref m0a7, .ref m0a8, .ref m0a9, .int 0, .ref m0a11, .ref m0a12, .ref m0a13, .ref m0a14, .ref m0a15, .ref m0a16, .int 0, .ref m0a18, .ref m0a19, .ref m0a20, .ref m0a21, .ref m0a22, .int 0, .ref m0a24, .ref m0a25, .ref m0a26, .int 0, .ref m0a28, .ref m0a29, .ref m0a30, .ref m0a31, .int 0, .ref m0a33, .ref m0a34, .ref m0a35, .ref m0a36, .ref m0a37, .ref m0a38, .ref m0a39, .ref m0a40, .ref m0a41, .ref m0a42, .ref m0a43, .ref m0a44, .ref m0a45, .ref m0a46, .ref m0a47, .int 0, .ref m0a49, .ref m0a50, .ref m0a51, .int 0, .ref m0a53, .ref m0a54, .ref m0a55, .ref m0a56, .ref m0a57, .ref m0a58, .ref m0a59, .ref m0a60, .ref m0a61, .ref m0a62, .ref m0a63, .long 0, .int 0, .int (-9), .ref m0a67, .ref m0a68, .ref m0a69, .ref m0a70, .ref m0a71, .ref m0a72, .ref m0a73, .ref m0a74, .ref m0a75, .long 0])), (m0a1, .inl (cI g, 6, .inl (fun _ => 0))), (m0a5, .inl (cI g, 6, .inl (upd (fun _ => (-9)) (r).toNatClampNeg n))), (m0a6, .inl (cI g, 240, .inl (upd f1 (nI ((40 * jr) + k)).toNatClampNeg 0)))] H := hP
            have hD : va_D A [(m0, .inr (12, [.int 0, .ref m0a1, .int 0, .long 0, .int 0, .ref m0a5, .ref m0a6, .ref m0a7, .ref m0a8, .ref m0a9, .int 0, .ref m0a11, .ref m0a12, .ref m0a13, .ref m0a14, .ref m0a15, .ref m0a16, .int 0, .ref m0a18, .ref m0a19, .ref m0a20, .ref m0a21, .ref m0a22, .int 0, .ref m0a24, .ref m0a25, .ref m0a26, .int 0, .ref m0a28, .ref m0a29, .ref m0a30, .ref m0a31, .int 0, .ref m0a33, .ref m0a34, .ref m0a35, .ref m0a36, .ref m0a37, .ref m0a38, .ref m0a39, .ref m0a40, .ref m0a41, .ref m0a42, .ref m0a43, .ref m0a44, .ref m0a45, .ref m0a46, .ref m0a47, .int 0, .ref m0a49, .ref m0a50, .ref m0a51, .int 0, .ref m0a53, .ref m0a54, .ref m0a55, .ref m0a56, .ref m0a57, .ref m0a58, .ref m0a59, .ref m0a60, .ref m0a61, .ref m0a62, .ref m0a63, .long 0, .int 0, .int (-9), .ref m0a67, .ref m0a68, .ref m0a69, .ref m0a70, .ref m0a71, .ref m0a72, .ref m0a73, .ref m0a74, .ref m0a75, .long 0])), (m0a1, .inl (cI g, 6, .inl (fun _ => 0))), (m0a5, .inl (cI g, 6, .inl (upd (fun _ => (-9)) (r).toNatClampNeg n))), (m0a6, .inl (cI g, 240, .inl (upd f1 (nI ((40 * jr) + k)).toNatClampNeg 0)))] := hD
            rw [nI_clamp (show ((40 * jr) + k) < 2 ^ 31 by omega)] at hP hD
            refine lv_iinc (v := nI (k + 1)) (lv' := [(3, .int (nI (k + 1))), (0, .ref m0), (1, .int r), (2, .int n)]) hx hb dX12_row_52 hl (k := 3) rfl (nI_1 _) (by decide) rfl (fun ls hl => ?_)
            refine lv_goto (tgt := 34) hx hb dX12_row_55 (by decide) ?_
            exact ih _ _ _ ⟨_, hP, hD, hS, lv_sub hl [1, 2, 3, 0] rfl⟩
          · intro H locs ls hI
            obtain ⟨f1, hP, hD, hS, hl⟩ := hI
            refine lv_iload_n hx hb dX12_row_34 rfl (lv_at hl 3 rfl) ?_
            refine lv_bipush (v := 40) hx hb dX12_row_35 (by decide) ?_
            refine lv_icmp_ge (tgt := 58) hx hb dX12_row_37 (by decide) (fun _ => ?_) (fun c_11 => absurd (by decide) c_11)
            refine lv_iload_n hx hb dX12_row_58 rfl (lv_at hl 2 rfl) ?_
            exact rI X hK hP hD hS dX12_row_59 (by rfl) (Nat.le_of_ble_eq_true rfl) (Nat.le_of_ble_eq_true rfl) (by show _ = _; unfold sp_X12_row; rw [if_neg c_3, if_neg c_5, if_pos c_8, if_pos c_9]; try rfl)
        ·
          refine lv_aload_n hx hb dX12_row_19 rfl (lv_at hl 0 rfl) ?_
          refine lv_iconst (v := 5) hx hb dX12_row_20 (by decide) ?_
          refine kVi (As := [.int 5]) (rest := []) (wr := [(m0a5, .inl (cI g, 6, .inl (fun _ => (-9)))), (m0a6, .inl (cI g, 240, .inl (fun _ => 0)))]) X (c_X12_meets5 l g m0 m0a1 m0a5 m0a6 m0a7 m0a8 m0a9 m0a11 m0a12 m0a13 m0a14 m0a15 m0a16 m0a18 m0a19 m0a20 m0a21 m0a22 m0a24 m0a25 m0a26 m0a28 m0a29 m0a30 m0a31 m0a33 m0a34 m0a35 m0a36 m0a37 m0a38 m0a39 m0a40 m0a41 m0a42 m0a43 m0a44 m0a45 m0a46 m0a47 m0a49 m0a50 m0a51 m0a53 m0a54 m0a55 m0a56 m0a57 m0a58 m0a59 m0a60 m0a61 m0a62 m0a63 m0a67 m0a68 m0a69 m0a70 m0a71 m0a72 m0a73 m0a74 m0a75) ok_X12_meets okv_X12_meets q_1708 rfl hK hP hD hS hA hZ hl.1 [0, 1] [2, 3] rfl rfl rfl rfl rfl 0 12 rfl rfl rfl (Nat.le_of_ble_eq_true rfl) ⟨Nat.le_of_ble_eq_true rfl, Nat.le_of_ble_eq_true rfl⟩ dX12_row_21 ⟨Nat.le_of_ble_eq_true rfl, Nat.le_of_ble_eq_true rfl⟩ (fun r_12 w1 H locs hw_13 hP hD hS => ?_)
          rw [sp_X12_meets5] at hw_13
          obtain ⟨e1, e2⟩ := Prod.mk.inj hw_13
          subst e1; subst e2
          have hP : va_P g.1 classes [(m0a5, .inl (cI g, 6, .inl (fun _ => (-9)))), (m0a6, .inl (cI g, 240, .inl (fun _ => 0))), (m0, .inr (12, [.int 5, .ref m0a1, .int 0, .long 0, .int 0, .ref m0a5, .ref m0a6, .ref m0a7, .ref m0a8, .ref m0a9, .int 0, .ref m0a11, .ref m0a12, .ref m0a13, .ref m0a14, .ref m0a15, .ref m0a16, .int 0, .ref m0a18, .ref m0a19, .ref m0a20, .ref m0a21, .ref m0a22, .int 0, .ref m0a24, .ref m0a25, .ref m0a26, .int 0, .ref m0a28, .ref m0a29, .ref m0a30, .ref m0a31, .int 0, .ref m0a33, .ref m0a34, .ref m0a35, .ref m0a36, .ref m0a37, .ref m0a38, .ref m0a39, .ref m0a40, .ref m0a41, .ref m0a42, .ref m0a43, .ref m0a44, .ref m0a45, .ref m0a46, .ref m0a47, .int 0, .ref m0a49, .ref m0a50, .ref m0a51, .int 0, .ref m0a53, .ref m0a54, .ref m0a55, .ref m0a56, .ref m0a57, .ref m0a58, .ref m0a59, .ref m0a60, .ref m0a61, .ref m0a62, .ref m0a63, .long 0, .int 0, .int (-9), .ref m0a67, .ref m0a68, .ref m0a69, .ref m0a70, .ref m0a71, .ref m0a72, .ref m0a73, .ref m0a74, .ref m0a75, .long 0])), (m0a1, .inl (cI g, 6, .inl (upd (fun _ => 0) 5 1)))] H := hP
          have hD : va_D A [(m0a5, .inl (cI g, 6, .inl (fun _ => (-9)))), (m0a6, .inl (cI g, 240, .inl (fun _ => 0))), (m0, .inr (12, [.int 5, .ref m0a1, .int 0, .long 0, .int 0, .ref m0a5, .ref m0a6, .ref m0a7, .ref m0a8, .ref m0a9, .int 0, .ref m0a11, .ref m0a12, .ref m0a13, .ref m0a14, .ref m0a15, .ref m0a16, .int 0, .ref m0a18, .ref m0a19, .ref m0a20, .ref m0a21, .ref m0a22, .int 0, .ref m0a24, .ref m0a25, .ref m0a26, .int 0, .ref m0a28, .ref m0a29, .ref m0a30, .ref m0a31, .int 0, .ref m0a33, .ref m0a34, .ref m0a35, .ref m0a36, .ref m0a37, .ref m0a38, .ref m0a39, .ref m0a40, .ref m0a41, .ref m0a42, .ref m0a43, .ref m0a44, .ref m0a45, .ref m0a46, .ref m0a47, .int 0, .ref m0a49, .ref m0a50, .ref m0a51, .int 0, .ref m0a53, .ref m0a54, .ref m0a55, .ref m0a56, .ref m0a57, .ref m0a58, .ref m0a59, .ref m0a60, .ref m0a61, .ref m0a62, .ref m0a63, .long 0, .int 0, .int (-9), .ref m0a67, .ref m0a68, .ref m0a69, .ref m0a70, .ref m0a71, .ref m0a72, .ref m0a73, .ref m0a74, .ref m0a75, .long 0])), (m0a1, .inl (cI g, 6, .inl (upd (fun _ => 0) 5 1)))] := hD
          exact rI X hK hP hD hS dX12_row_24 (by rfl) (Nat.le_of_ble_eq_true rfl) (Nat.le_of_ble_eq_true rfl) (by show _ = _; unfold sp_X12_row; rw [if_neg c_3, if_neg c_5, if_pos c_8, if_neg c_9]; try rfl)
      ·
        refine lv_iconst (v := (-1)) hx hb dX12_row_13 (by decide) ?_
        exact rI X hK hP hD hS dX12_row_14 (by rfl) (Nat.le_of_ble_eq_true rfl) (Nat.le_of_ble_eq_true rfl) (by show _ = _; unfold sp_X12_row; rw [if_neg c_3, if_neg c_5, if_neg c_8]; try rfl)
def sp_X12_text (g : GG) (m0 : Nat) (r : Int32) (n : Int32) (m0a1 : Nat) (m0a5 : Nat) (m0a6 : Nat) (m0a7 : Nat) (m0a8 : Nat) (m0a9 : Nat) (m0a11 : Nat) (m0a12 : Nat) (m0a13 : Nat) (m0a14 : Nat) (m0a15 : Nat) (m0a16 : Nat) (m0a18 : Nat) (m0a19 : Nat) (m0a20 : Nat) (m0a21 : Nat) (m0a22 : Nat) (m0a24 : Nat) (m0a25 : Nat) (m0a26 : Nat) (m0a28 : Nat) (m0a29 : Nat) (m0a30 : Nat) (m0a31 : Nat) (m0a33 : Nat) (m0a34 : Nat) (m0a35 : Nat) (m0a36 : Nat) (m0a37 : Nat) (m0a38 : Nat) (m0a39 : Nat) (m0a40 : Nat) (m0a41 : Nat) (m0a42 : Nat) (m0a43 : Nat) (m0a44 : Nat) (m0a45 : Nat) (m0a46 : Nat) (m0a47 : Nat) (m0a49 : Nat) (m0a50 : Nat) (m0a51 : Nat) (m0a53 : Nat) (m0a54 : Nat) (m0a55 : Nat) (m0a56 : Nat) (m0a57 : Nat) (m0a58 : Nat) (m0a59 : Nat) (m0a60 : Nat) (m0a61 : Nat) (m0a62 : Nat) (m0a63 : Nat) (m0a67 : Nat) (m0a68 : Nat) (m0a69 : Nat) (m0a70 : Nat) (m0a71 : Nat) (m0a72 : Nat) (m0a73 : Nat) (m0a74 : Nat) (m0a75 : Nat) : Int32 := if r < 0 then (-1) else (if 3 < r then (-1) else (if n ≤ 40 then (if 0 ≤ n then n else (-3)) else (-1)))
set_option maxHeartbeats 4000000 in
set_option maxRecDepth 100000 in
theorem c_X12_text (l : Launch) (g : GG) (m0 : Nat) (r : Int32) (n : Int32) (m0a1 : Nat) (m0a5 : Nat) (m0a6 : Nat) (m0a7 : Nat) (m0a8 : Nat) (m0a9 : Nat) (m0a11 : Nat) (m0a12 : Nat) (m0a13 : Nat) (m0a14 : Nat) (m0a15 : Nat) (m0a16 : Nat) (m0a18 : Nat) (m0a19 : Nat) (m0a20 : Nat) (m0a21 : Nat) (m0a22 : Nat) (m0a24 : Nat) (m0a25 : Nat) (m0a26 : Nat) (m0a28 : Nat) (m0a29 : Nat) (m0a30 : Nat) (m0a31 : Nat) (m0a33 : Nat) (m0a34 : Nat) (m0a35 : Nat) (m0a36 : Nat) (m0a37 : Nat) (m0a38 : Nat) (m0a39 : Nat) (m0a40 : Nat) (m0a41 : Nat) (m0a42 : Nat) (m0a43 : Nat) (m0a44 : Nat) (m0a45 : Nat) (m0a46 : Nat) (m0a47 : Nat) (m0a49 : Nat) (m0a50 : Nat) (m0a51 : Nat) (m0a53 : Nat) (m0a54 : Nat) (m0a55 : Nat) (m0a56 : Nat) (m0a57 : Nat) (m0a58 : Nat) (m0a59 : Nat) (m0a60 : Nat) (m0a61 : Nat) (m0a62 : Nat) (m0a63 : Nat) (m0a67 : Nat) (m0a68 : Nat) (m0a69 : Nat) (m0a70 : Nat) (m0a71 : Nat) (m0a72 : Nat) (m0a73 : Nat) (m0a74 : Nat) (m0a75 : Nat) : MI l g yX12_text cX12_text 4 (some .int) 2 42 0 0 [(m0, .inr (12, [.int 0, .ref m0a1, .int 0, .long 0, .int 0, .ref m0a5, .ref m0a6, .ref m0a7, .ref m0a8, .ref m0a9, .int 0, .ref m0a11, .ref m0a12, .ref m0a13, .ref m0a14, .ref m0a15, .ref m0a16, .int 0, .ref m0a18, .ref m0a19, .ref m0a20, .ref m0a21, .ref m0a22, .int 0, .ref m0a24, .ref m0a25, .ref m0a26, .int 0, .ref m0a28, .ref m0a29, .ref m0a30, .ref m0a31, .int 0, .ref m0a33, .ref m0a34, .ref m0a35, .ref m0a36, .ref m0a37, .ref m0a38, .ref m0a39, .ref m0a40, .ref m0a41, .ref m0a42, .ref m0a43, .ref m0a44, .ref m0a45, .ref m0a46, .ref m0a47, .int 0, .ref m0a49, .ref m0a50, .ref m0a51, .int 0, .ref m0a53, .ref m0a54, .ref m0a55, .ref m0a56, .ref m0a57, .ref m0a58, .ref m0a59, .ref m0a60, .ref m0a61, .ref m0a62, .ref m0a63, .long 0, .int 0, .int (-9), .ref m0a67, .ref m0a68, .ref m0a69, .ref m0a70, .ref m0a71, .ref m0a72, .ref m0a73, .ref m0a74, .ref m0a75, .long 0])), (m0a1, .inl (cI g, 6, .inl (fun _ => 0))), (m0a8, .inl (cI g, 4, .inl (fun _ => (-9)))), (m0a9, .inl (cI g, 160, .inl (fun _ => 0)))] [.ref m0, .int r, .int n] (fun rr_ _ => rr_ = sp_X12_text g m0 r n m0a1 m0a5 m0a6 m0a7 m0a8 m0a9 m0a11 m0a12 m0a13 m0a14 m0a15 m0a16 m0a18 m0a19 m0a20 m0a21 m0a22 m0a24 m0a25 m0a26 m0a28 m0a29 m0a30 m0a31 m0a33 m0a34 m0a35 m0a36 m0a37 m0a38 m0a39 m0a40 m0a41 m0a42 m0a43 m0a44 m0a45 m0a46 m0a47 m0a49 m0a50 m0a51 m0a53 m0a54 m0a55 m0a56 m0a57 m0a58 m0a59 m0a60 m0a61 m0a62 m0a63 m0a67 m0a68 m0a69 m0a70 m0a71 m0a72 m0a73 m0a74 m0a75) := by
  refine met_of (fun A => va_Qi _ (bW g A) A) (by decide) (Nat.le_of_ble_eq_true rfl) ?_
  intro p e s m below meth c A ls X hK hP hD hA hZ hS hl
  have hx := X.1
  have hb := X.2.1
  have hml := X.2.2.1
  have hown := X.2.2.2.1
  have hts := X.2.2.2.2.1
  have hnm := X.2.2.2.2.2.2.2
  have hl : lv_has ls 4 [(0, .ref m0), (1, .int r), (2, .int n)] := hl
  refine lv_iload_n hx hb dX12_text_0 rfl (lv_at hl 1 rfl) ?_
  refine kSi (As := [.int r]) (rest := []) (wr := [(m0, .inr (12, [.int 0, .ref m0a1, .int 0, .long 0, .int 0, .ref m0a5, .ref m0a6, .ref m0a7, .ref m0a8, .ref m0a9, .int 0, .ref m0a11, .ref m0a12, .ref m0a13, .ref m0a14, .ref m0a15, .ref m0a16, .int 0, .ref m0a18, .ref m0a19, .ref m0a20, .ref m0a21, .ref m0a22, .int 0, .ref m0a24, .ref m0a25, .ref m0a26, .int 0, .ref m0a28, .ref m0a29, .ref m0a30, .ref m0a31, .int 0, .ref m0a33, .ref m0a34, .ref m0a35, .ref m0a36, .ref m0a37, .ref m0a38, .ref m0a39, .ref m0a40, .ref m0a41, .ref m0a42, .ref m0a43, .ref m0a44, .ref m0a45, .ref m0a46, .ref m0a47, .int 0, .ref m0a49, .ref m0a50, .ref m0a51, .int 0, .ref m0a53, .ref m0a54, .ref m0a55, .ref m0a56, .ref m0a57, .ref m0a58, .ref m0a59, .ref m0a60, .ref m0a61, .ref m0a62, .ref m0a63, .long 0, .int 0, .int (-9), .ref m0a67, .ref m0a68, .ref m0a69, .ref m0a70, .ref m0a71, .ref m0a72, .ref m0a73, .ref m0a74, .ref m0a75, .long 0])), (m0a1, .inl (cI g, 6, .inl (fun _ => 0))), (m0a8, .inl (cI g, 4, .inl (fun _ => (-9)))), (m0a9, .inl (cI g, 160, .inl (fun _ => 0)))]) X (c_X12_isText l g r) ok_X12_isText q_1733 q_1732 rfl hK hP hD hS hA hZ hl.1 [] [0, 1, 2, 3] rfl rfl rfl rfl rfl rfl (Nat.le_of_ble_eq_true rfl) ⟨Nat.le_of_ble_eq_true rfl, Nat.le_of_ble_eq_true rfl⟩ dX12_text_1 ⟨Nat.le_of_ble_eq_true rfl, Nat.le_of_ble_eq_true rfl⟩ (fun r_1 w1 H locs hw_2 hP hD hS => ?_)
  rw [sp_X12_isText] at hw_2
  rcases Classical.em (r < 0) with c_3 | c_3
  ·
    rw [if_pos c_3] at hw_2
    obtain ⟨e1, e2⟩ := Prod.mk.inj hw_2
    subst e1; subst e2
    have hP : va_P g.1 classes [(m0, .inr (12, [.int 0, .ref m0a1, .int 0, .long 0, .int 0, .ref m0a5, .ref m0a6, .ref m0a7, .ref m0a8, .ref m0a9, .int 0, .ref m0a11, .ref m0a12, .ref m0a13, .ref m0a14, .ref m0a15, .ref m0a16, .int 0, .ref m0a18, .ref m0a19, .ref m0a20, .ref m0a21, .ref m0a22, .int 0, .ref m0a24, .ref m0a25, .ref m0a26, .int 0, .ref m0a28, .ref m0a29, .ref m0a30, .ref m0a31, .int 0, .ref m0a33, .ref m0a34, .ref m0a35, .ref m0a36, .ref m0a37, .ref m0a38, .ref m0a39, .ref m0a40, .ref m0a41, .ref m0a42, .ref m0a43, .ref m0a44, .ref m0a45, .ref m0a46, .ref m0a47, .int 0, .ref m0a49, .ref m0a50, .ref m0a51, .int 0, .ref m0a53, .ref m0a54, .ref m0a55, .ref m0a56, .ref m0a57, .ref m0a58, .ref m0a59, .ref m0a60, .ref m0a61, .ref m0a62, .ref m0a63, .long 0, .int 0, .int (-9), .ref m0a67, .ref m0a68, .ref m0a69, .ref m0a70, .ref m0a71, .ref m0a72, .ref m0a73, .ref m0a74, .ref m0a75, .long 0])), (m0a1, .inl (cI g, 6, .inl (fun _ => 0))), (m0a8, .inl (cI g, 4, .inl (fun _ => (-9)))), (m0a9, .inl (cI g, 160, .inl (fun _ => 0)))] H := hP
    have hD : va_D A [(m0, .inr (12, [.int 0, .ref m0a1, .int 0, .long 0, .int 0, .ref m0a5, .ref m0a6, .ref m0a7, .ref m0a8, .ref m0a9, .int 0, .ref m0a11, .ref m0a12, .ref m0a13, .ref m0a14, .ref m0a15, .ref m0a16, .int 0, .ref m0a18, .ref m0a19, .ref m0a20, .ref m0a21, .ref m0a22, .int 0, .ref m0a24, .ref m0a25, .ref m0a26, .int 0, .ref m0a28, .ref m0a29, .ref m0a30, .ref m0a31, .int 0, .ref m0a33, .ref m0a34, .ref m0a35, .ref m0a36, .ref m0a37, .ref m0a38, .ref m0a39, .ref m0a40, .ref m0a41, .ref m0a42, .ref m0a43, .ref m0a44, .ref m0a45, .ref m0a46, .ref m0a47, .int 0, .ref m0a49, .ref m0a50, .ref m0a51, .int 0, .ref m0a53, .ref m0a54, .ref m0a55, .ref m0a56, .ref m0a57, .ref m0a58, .ref m0a59, .ref m0a60, .ref m0a61, .ref m0a62, .ref m0a63, .long 0, .int 0, .int (-9), .ref m0a67, .ref m0a68, .ref m0a69, .ref m0a70, .ref m0a71, .ref m0a72, .ref m0a73, .ref m0a74, .ref m0a75, .long 0])), (m0a1, .inl (cI g, 6, .inl (fun _ => 0))), (m0a8, .inl (cI g, 4, .inl (fun _ => (-9)))), (m0a9, .inl (cI g, 160, .inl (fun _ => 0)))] := hD
    refine lv_if_eq (tgt := 13) hx hb dX12_text_4 (by decide) (fun _ => ?_) (fun c_4 => absurd (by decide) c_4)
    refine lv_iconst (v := (-1)) hx hb dX12_text_13 (by decide) ?_
    exact rI X hK hP hD hS dX12_text_14 (by rfl) (Nat.le_of_ble_eq_true rfl) (Nat.le_of_ble_eq_true rfl) (by show _ = _; unfold sp_X12_text; rw [if_pos c_3]; try rfl)
  ·
    rw [if_neg c_3] at hw_2
    rcases Classical.em (3 < r) with c_5 | c_5
    ·
      rw [if_pos c_5] at hw_2
      obtain ⟨e1, e2⟩ := Prod.mk.inj hw_2
      subst e1; subst e2
      have hP : va_P g.1 classes [(m0, .inr (12, [.int 0, .ref m0a1, .int 0, .long 0, .int 0, .ref m0a5, .ref m0a6, .ref m0a7, .ref m0a8, .ref m0a9, .int 0, .ref m0a11, .ref m0a12, .ref m0a13, .ref m0a14, .ref m0a15, .ref m0a16, .int 0, .ref m0a18, .ref m0a19, .ref m0a20, .ref m0a21, .ref m0a22, .int 0, .ref m0a24, .ref m0a25, .ref m0a26, .int 0, .ref m0a28, .ref m0a29, .ref m0a30, .ref m0a31, .int 0, .ref m0a33, .ref m0a34, .ref m0a35, .ref m0a36, .ref m0a37, .ref m0a38, .ref m0a39, .ref m0a40, .ref m0a41, .ref m0a42, .ref m0a43, .ref m0a44, .ref m0a45, .ref m0a46, .ref m0a47, .int 0, .ref m0a49, .ref m0a50, .ref m0a51, .int 0, .ref m0a53, .ref m0a54, .ref m0a55, .ref m0a56, .ref m0a57, .ref m0a58, .ref m0a59, .ref m0a60, .ref m0a61, .ref m0a62, .ref m0a63, .long 0, .int 0, .int (-9), .ref m0a67, .ref m0a68, .ref m0a69, .ref m0a70, .ref m0a71, .ref m0a72, .ref m0a73, .ref m0a74, .ref m0a75, .long 0])), (m0a1, .inl (cI g, 6, .inl (fun _ => 0))), (m0a8, .inl (cI g, 4, .inl (fun _ => (-9)))), (m0a9, .inl (cI g, 160, .inl (fun _ => 0)))] H := hP
      have hD : va_D A [(m0, .inr (12, [.int 0, .ref m0a1, .int 0, .long 0, .int 0, .ref m0a5, .ref m0a6, .ref m0a7, .ref m0a8, .ref m0a9, .int 0, .ref m0a11, .ref m0a12, .ref m0a13, .ref m0a14, .ref m0a15, .ref m0a16, .int 0, .ref m0a18, .ref m0a19, .ref m0a20, .ref m0a21, .ref m0a22, .int 0, .ref m0a24, .ref m0a25, .ref m0a26, .int 0, .ref m0a28, .ref m0a29, .ref m0a30, .ref m0a31, .int 0, .ref m0a33, .ref m0a34, .ref m0a35, .ref m0a36, .ref m0a37, .ref m0a38, .ref m0a39, .ref m0a40, .ref m0a41, .ref m0a42, .ref m0a43, .ref m0a44, .ref m0a45, .ref m0a46, .ref m0a47, .int 0, .ref m0a49, .ref m0a50, .ref m0a51, .int 0, .ref m0a53, .ref m0a54, .ref m0a55, .ref m0a56, .ref m0a57, .ref m0a58, .ref m0a59, .ref m0a60, .ref m0a61, .ref m0a62, .ref m0a63, .long 0, .int 0, .int (-9), .ref m0a67, .ref m0a68, .ref m0a69, .ref m0a70, .ref m0a71, .ref m0a72, .ref m0a73, .ref m0a74, .ref m0a75, .long 0])), (m0a1, .inl (cI g, 6, .inl (fun _ => 0))), (m0a8, .inl (cI g, 4, .inl (fun _ => (-9)))), (m0a9, .inl (cI g, 160, .inl (fun _ => 0)))] := hD
      refine lv_if_eq (tgt := 13) hx hb dX12_text_4 (by decide) (fun _ => ?_) (fun c_6 => absurd (by decide) c_6)
      refine lv_iconst (v := (-1)) hx hb dX12_text_13 (by decide) ?_
      exact rI X hK hP hD hS dX12_text_14 (by rfl) (Nat.le_of_ble_eq_true rfl) (Nat.le_of_ble_eq_true rfl) (by show _ = _; unfold sp_X12_text; rw [if_neg c_3, if_pos c_5]; try rfl)
    ·
      rw [if_neg c_5] at hw_2
      obtain ⟨e1, e2⟩ := Prod.mk.inj hw_2
      subst e1; subst e2
      have hP : va_P g.1 classes [(m0, .inr (12, [.int 0, .ref m0a1, .int 0, .long 0, .int 0, .ref m0a5, .ref m0a6, .ref m0a7, .ref m0a8, .ref m0a9, .int 0, .ref m0a11, .ref m0a12, .ref m0a13, .ref m0a14, .ref m0a15, .ref m0a16, .int 0, .ref m0a18, .ref m0a19, .ref m0a20, .ref m0a21, .ref m0a22, .int 0, .ref m0a24, .ref m0a25, .ref m0a26, .int 0, .ref m0a28, .ref m0a29, .ref m0a30, .ref m0a31, .int 0, .ref m0a33, .ref m0a34, .ref m0a35, .ref m0a36, .ref m0a37, .ref m0a38, .ref m0a39, .ref m0a40, .ref m0a41, .ref m0a42, .ref m0a43, .ref m0a44, .ref m0a45, .ref m0a46, .ref m0a47, .int 0, .ref m0a49, .ref m0a50, .ref m0a51, .int 0, .ref m0a53, .ref m0a54, .ref m0a55, .ref m0a56, .ref m0a57, .ref m0a58, .ref m0a59, .ref m0a60, .ref m0a61, .ref m0a62, .ref m0a63, .long 0, .int 0, .int (-9), .ref m0a67, .ref m0a68, .ref m0a69, .ref m0a70, .ref m0a71, .ref m0a72, .ref m0a73, .ref m0a74, .ref m0a75, .long 0])), (m0a1, .inl (cI g, 6, .inl (fun _ => 0))), (m0a8, .inl (cI g, 4, .inl (fun _ => (-9)))), (m0a9, .inl (cI g, 160, .inl (fun _ => 0)))] H := hP
      have hD : va_D A [(m0, .inr (12, [.int 0, .ref m0a1, .int 0, .long 0, .int 0, .ref m0a5, .ref m0a6, .ref m0a7, .ref m0a8, .ref m0a9, .int 0, .ref m0a11, .ref m0a12, .ref m0a13, .ref m0a14, .ref m0a15, .ref m0a16, .int 0, .ref m0a18, .ref m0a19, .ref m0a20, .ref m0a21, .ref m0a22, .int 0, .ref m0a24, .ref m0a25, .ref m0a26, .int 0, .ref m0a28, .ref m0a29, .ref m0a30, .ref m0a31, .int 0, .ref m0a33, .ref m0a34, .ref m0a35, .ref m0a36, .ref m0a37, .ref m0a38, .ref m0a39, .ref m0a40, .ref m0a41, .ref m0a42, .ref m0a43, .ref m0a44, .ref m0a45, .ref m0a46, .ref m0a47, .int 0, .ref m0a49, .ref m0a50, .ref m0a51, .int 0, .ref m0a53, .ref m0a54, .ref m0a55, .ref m0a56, .ref m0a57, .ref m0a58, .ref m0a59, .ref m0a60, .ref m0a61, .ref m0a62, .ref m0a63, .long 0, .int 0, .int (-9), .ref m0a67, .ref m0a68, .ref m0a69, .ref m0a70, .ref m0a71, .ref m0a72, .ref m0a73, .ref m0a74, .ref m0a75, .long 0])), (m0a1, .inl (cI g, 6, .inl (fun _ => 0))), (m0a8, .inl (cI g, 4, .inl (fun _ => (-9)))), (m0a9, .inl (cI g, 160, .inl (fun _ => 0)))] := hD
      refine lv_if_eq (tgt := 13) hx hb dX12_text_4 (by decide) (fun c_7 => absurd c_7 (by decide)) (fun _ => ?_)
      refine lv_iload_n hx hb dX12_text_7 rfl (lv_at hl 2 rfl) ?_
      refine lv_bipush (v := 40) hx hb dX12_text_8 (by decide) ?_
      refine lv_icmp_le (tgt := 15) hx hb dX12_text_10 (by decide) (fun c_8 => ?_) (fun c_8 => ?_)
      ·
        refine lv_iload_n hx hb dX12_text_15 rfl (lv_at hl 2 rfl) ?_
        refine lv_if_ge (tgt := 25) hx hb dX12_text_16 (by decide) (fun c_9 => ?_) (fun c_9 => ?_)
        ·
          refine lv_aload_n hx hb dX12_text_25 rfl (lv_at hl 0 rfl) ?_
          refine va_get (D := g.1) (ci := 12) (v := .ref m0a8) (C := RX12) (T := TX12) (N := 77) hx hb hts fw_X12 hown hK hP 0 rfl rfl 8 (by decide) (hts _ q_1474) (fun _ h9 => h9) rfl dX12_text_26 ?_
          refine lv_iload_n hx hb dX12_text_29 rfl (lv_at hl 1 rfl) ?_
          refine lv_iload_n hx hb dX12_text_30 rfl (lv_at hl 2 rfl) ?_
          refine va_iast hx hb hK hP hD hS 2 0 rfl rfl (vp_in_iff.mpr (by simp only [i32lt, i32le, i32eq, Int32.reduceToInt] at c_3 c_5; omega)) dX12_text_31 (fun H locs hP hD hS => ?_)
          have hP : va_P g.1 classes [(m0, .inr (12, [.int 0, .ref m0a1, .int 0, .long 0, .int 0, .ref m0a5, .ref m0a6, .ref m0a7, .ref m0a8, .ref m0a9, .int 0, .ref m0a11, .ref m0a12, .ref m0a13, .ref m0a14, .ref m0a15, .ref m0a16, .int 0, .ref m0a18, .ref m0a19, .ref m0a20, .ref m0a21, .ref m0a22, .int 0, .ref m0a24, .ref m0a25, .ref m0a26, .int 0, .ref m0a28, .ref m0a29, .ref m0a30, .ref m0a31, .int 0, .ref m0a33, .ref m0a34, .ref m0a35, .ref m0a36, .ref m0a37, .ref m0a38, .ref m0a39, .ref m0a40, .ref m0a41, .ref m0a42, .ref m0a43, .ref m0a44, .ref m0a45, .ref m0a46, .ref m0a47, .int 0, .ref m0a49, .ref m0a50, .ref m0a51, .int 0, .ref m0a53, .ref m0a54, .ref m0a55, .ref m0a56, .ref m0a57, .ref m0a58, .ref m0a59, .ref m0a60, .ref m0a61, .ref m0a62, .ref m0a63, .long 0, .int 0, .int (-9), .ref m0a67, .ref m0a68, .ref m0a69, .ref m0a70, .ref m0a71, .ref m0a72, .ref m0a73, .ref m0a74, .ref m0a75, .long 0])), (m0a1, .inl (cI g, 6, .inl (fun _ => 0))), (m0a8, .inl (cI g, 4, .inl (upd (fun _ => (-9)) (r).toNatClampNeg n))), (m0a9, .inl (cI g, 160, .inl (fun _ => 0)))] H := hP
          have hD : va_D A [(m0, .inr (12, [.int 0, .ref m0a1, .int 0, .long 0, .int 0, .ref m0a5, .ref m0a6, .ref m0a7, .ref m0a8, .ref m0a9, .int 0, .ref m0a11, .ref m0a12, .ref m0a13, .ref m0a14, .ref m0a15, .ref m0a16, .int 0, .ref m0a18, .ref m0a19, .ref m0a20, .ref m0a21, .ref m0a22, .int 0, .ref m0a24, .ref m0a25, .ref m0a26, .int 0, .ref m0a28, .ref m0a29, .ref m0a30, .ref m0a31, .int 0, .ref m0a33, .ref m0a34, .ref m0a35, .ref m0a36, .ref m0a37, .ref m0a38, .ref m0a39, .ref m0a40, .ref m0a41, .ref m0a42, .ref m0a43, .ref m0a44, .ref m0a45, .ref m0a46, .ref m0a47, .int 0, .ref m0a49, .ref m0a50, .ref m0a51, .int 0, .ref m0a53, .ref m0a54, .ref m0a55, .ref m0a56, .ref m0a57, .ref m0a58, .ref m0a59, .ref m0a60, .ref m0a61, .ref m0a62, .ref m0a63, .long 0, .int 0, .int (-9), .ref m0a67, .ref m0a68, .ref m0a69, .ref m0a70, .ref m0a71, .ref m0a72, .ref m0a73, .ref m0a74, .ref m0a75, .long 0])), (m0a1, .inl (cI g, 6, .inl (fun _ => 0))), (m0a8, .inl (cI g, 4, .inl (upd (fun _ => (-9)) (r).toNatClampNeg n))), (m0a9, .inl (cI g, 160, .inl (fun _ => 0)))] := hD
          refine lv_iconst (v := 0) hx hb dX12_text_32 (by decide) ?_
          refine lv_istore_n (lv' := [(3, .int 0), (0, .ref m0), (1, .int r), (2, .int n)]) hx hb dX12_text_33 rfl hl (by decide) rfl (fun ls hl => ?_)
          refine loopK 40 (fun k H locs ls => ∃ f1 : Nat → Int32, va_P g.1 classes [(m0, .inr (12, [.int 0, .ref m0a1, .int 0, .long 0, .int 0, .ref m0a5, .ref m0a6, .ref m0a7, .ref m0a8, .ref m0a9, .int 0, .ref m0a11, .ref m0a12, .ref m0a13, .ref m0a14, .ref m0a15, .ref m0a16, .int 0, .ref m0a18, .ref m0a19, .ref m0a20, .ref m0a21, .ref m0a22, .int 0, .ref m0a24, .ref m0a25, .ref m0a26, .int 0, .ref m0a28, .ref m0a29, .ref m0a30, .ref m0a31, .int 0, .ref m0a33, .ref m0a34, .ref m0a35, .ref m0a36, .ref m0a37, .ref m0a38, .ref m0a39, .ref m0a40, .ref m0a41, .ref m0a42, .ref m0a43, .ref m0a44, .ref m0a45, .ref m0a46, .ref m0a47, .int 0, .ref m0a49, .ref m0a50, .ref m0a51, .int 0, .ref m0a53, .ref m0a54, .ref m0a55, .ref m0a56, .ref m0a57, .ref m0a58, .ref m0a59, .ref m0a60, .ref m0a61, .ref m0a62, .ref m0a63, .long 0, .int 0, .int (-9), .ref m0a67, .ref m0a68, .ref m0a69, .ref m0a70, .ref m0a71, .ref m0a72, .ref m0a73, .ref m0a74, .ref m0a75, .long 0])), (m0a1, .inl (cI g, 6, .inl (fun _ => 0))), (m0a8, .inl (cI g, 4, .inl (upd (fun _ => (-9)) (r).toNatClampNeg n))), (m0a9, .inl (cI g, 160, .inl f1))] H ∧ va_D A [(m0, .inr (12, [.int 0, .ref m0a1, .int 0, .long 0, .int 0, .ref m0a5, .ref m0a6, .ref m0a7, .ref m0a8, .ref m0a9, .int 0, .ref m0a11, .ref m0a12, .ref m0a13, .ref m0a14, .ref m0a15, .ref m0a16, .int 0, .ref m0a18, .ref m0a19, .ref m0a20, .ref m0a21, .ref m0a22, .int 0, .ref m0a24, .ref m0a25, .ref m0a26, .int 0, .ref m0a28, .ref m0a29, .ref m0a30, .ref m0a31, .int 0, .ref m0a33, .ref m0a34, .ref m0a35, .ref m0a36, .ref m0a37, .ref m0a38, .ref m0a39, .ref m0a40, .ref m0a41, .ref m0a42, .ref m0a43, .ref m0a44, .ref m0a45, .ref m0a46, .ref m0a47, .int 0, .ref m0a49, .ref m0a50, .ref m0a51, .int 0, .ref m0a53, .ref m0a54, .ref m0a55, .ref m0a56, .ref m0a57, .ref m0a58, .ref m0a59, .ref m0a60, .ref m0a61, .ref m0a62, .ref m0a63, .long 0, .int 0, .int (-9), .ref m0a67, .ref m0a68, .ref m0a69, .ref m0a70, .ref m0a71, .ref m0a72, .ref m0a73, .ref m0a74, .ref m0a75, .long 0])), (m0a1, .inl (cI g, 6, .inl (fun _ => 0))), (m0a8, .inl (cI g, 4, .inl (upd (fun _ => (-9)) (r).toNatClampNeg n))), (m0a9, .inl (cI g, 160, .inl f1))] ∧ va_S A s.heap H locs ∧ lv_has ls 4 [(0, .ref m0), (1, .int r), (2, .int n), (3, .int (nI k))]) (Wg := fun H locs ls => W p l e _ s m _ below meth c H locs _ _ _ (F0 m 34 ls [])) ?_ ?_ _ _ _ ⟨_, hP, hD, hS, lv_sub hl [1, 2, 3, 0] rfl⟩
          · intro k hk_k ih H locs ls hI
            obtain ⟨f1, hP, hD, hS, hl⟩ := hI
            have hn_k : (nI k).toInt = (k : Int) := nI_toInt (by omega)
            refine lv_iload_n hx hb dX12_text_34 rfl (lv_at hl 3 rfl) ?_
            refine lv_bipush (v := 40) hx hb dX12_text_35 (by decide) ?_
            refine lv_icmp_ge (tgt := 59) hx hb dX12_text_37 (by decide) (fun c_10 => (by simp only [i32lt, i32le, i32eq, Int32.reduceToInt] at c_10; omega : False).elim) (fun _ => ?_)
            refine lv_aload_n hx hb dX12_text_40 rfl (lv_at hl 0 rfl) ?_
            refine va_get (D := g.1) (ci := 12) (v := .ref m0a9) (C := RX12) (T := TX12) (N := 77) hx hb hts fw_X12 hown hK hP 0 rfl rfl 9 (by decide) (hts _ q_1475) (fun _ h9 => h9) rfl dX12_text_41 ?_
            refine lv_bipush (v := 40) hx hb dX12_text_44 (by decide) ?_
            refine lv_iload_n hx hb dX12_text_46 rfl (lv_at hl 1 rfl) ?_
            obtain ⟨jr, h_jr, e_jr⟩ := natI (x := r) (n := 4) (by simp only [i32lt, i32le, i32eq, Int32.reduceToInt] at c_3 c_5 ⊢; omega) (by simp only [i32lt, i32le, i32eq, Int32.reduceToInt] at c_3 c_5 ⊢; omega) (by decide)
            have hn_jr : (nI jr).toInt = (jr : Int) := nI_toInt (by omega)
            refine lv_topk (v := nI jr) e_jr ?_
            refine lv_imul hx hb dX12_text_47 ?_
            refine lv_topk (v := nI (40 * jr)) (pk_mul _ _) ?_
            refine lv_iload_n hx hb dX12_text_48 rfl (lv_at hl 3 rfl) ?_
            refine lv_iadd hx hb dX12_text_49 ?_
            refine lv_topk (v := nI ((40 * jr) + k)) (nI_add _ _) ?_
            refine lv_bipush (v := 32) hx hb dX12_text_50 (by decide) ?_
            refine va_iast hx hb hK hP hD hS 3 0 rfl rfl (vp_in_nI (by omega) (by omega)) dX12_text_52 (fun H locs hP hD hS => ?_)
            have hP : va_P g.1 classes [(m0, .inr (12, [.int 0, .ref m0a1, .int 0, .long 0, .int 0, .ref m0a5, .ref m0a6, .ref m0a7, .ref m0a8, .ref m0a9, .int 0, .ref m0a11, .ref m0a12, .ref m0a13, .ref m0a14, .ref m0a15, .ref m0a16, .int 0, .ref m0a18, .ref m0a19, .ref m0a20, .ref m0a21, .ref m0a22, .int 0, .ref m0a24, .ref m0a25, .ref m0a26, .int 0, .ref m0a28, .ref m0a29, .ref m0a30, .ref m0a31, .int 0, .ref m0a33, .ref m0a34, .ref m0a35, .ref m0a36, .ref m0a37, .ref m0a38, .ref m0a39, .ref m0a40, .ref m0a41, .ref m0a42, .ref m0a43, .ref m0a44, .ref m0a45, .ref m0a46, .ref m0a47, .int 0, .ref m0a49, .ref m0a50, .ref m0a51, .int 0, .ref m0a53, .ref m0a54, .ref m0a55, .ref m0a56, .ref m0a57, .ref m0a58, .ref m0a59, .ref m0a60, .ref m0a61, .ref m0a62, .ref m0a63, .long 0, .int 0, .int (-9), .ref m0a67, .ref m0a68, .ref m0a69, .ref m0a70, .ref m0a71, .ref m0a72, .ref m0a73, .ref m0a74, .ref m0a75, .long 0])), (m0a1, .inl (cI g, 6, .inl (fun _ => 0))), (m0a8, .inl (cI g, 4, .inl (upd (fun _ => (-9)) (r).toNatClampNeg n))), (m0a9, .inl (cI g, 160, .inl (upd f1 (nI ((40 * jr) + k)).toNatClampNeg 32)))] H := hP
            have hD : va_D A [(m0, .inr (12, [.int 0, .ref m0a1, .int 0, .long 0, .int 0, .ref m0a5, .ref m0a6, .ref m0a7, .ref m0a8, .ref m0a9, .int 0, .ref m0a11, .ref m0a12, .ref m0a13, .ref m0a14, .ref m0a15, .ref m0a16, .int 0, .ref m0a18, .ref m0a19, .ref m0a20, .ref m0a21, .ref m0a22, .int 0, .ref m0a24, .ref m0a25, .ref m0a26, .int 0, .ref m0a28, .ref m0a29, .ref m0a30, .ref m0a31, .int 0, .ref m0a33, .ref m0a34, .ref m0a35, .ref m0a36, .ref m0a37, .ref m0a38, .ref m0a39, .ref m0a40, .ref m0a41, .ref m0a42, .ref m0a43, .ref m0a44, .ref m0a45, .ref m0a46, .ref m0a47, .int 0, .ref m0a49, .ref m0a50, .ref m0a51, .int 0, .ref m0a53, .ref m0a54, .ref m0a55, .ref m0a56, .ref m0a57, .ref m0a58, .ref m0a59, .ref m0a60, .ref m0a61, .ref m0a62, .ref m0a63, .long 0, .int 0, .int (-9), .ref m0a67, .ref m0a68, .ref m0a69, .ref m0a70, .ref m0a71, .ref m0a72, .ref m0a73, .ref m0a74, .ref m0a75, .long 0])), (m0a1, .inl (cI g, 6, .inl (fun _ => 0))), (m0a8, .inl (cI g, 4, .inl (upd (fun _ => (-9)) (r).toNatClampNeg n))), (m0a9, .inl (cI g, 160, .inl (upd f1 (nI ((40 * jr) + k)).toNatClampNeg 32)))] := hD
            rw [nI_clamp (show ((40 * jr) + k) < 2 ^ 31 by omega)] at hP hD
            refine lv_iinc (v := nI (k + 1)) (lv' := [(3, .int (nI (k + 1))), (0, .ref m0), (1, .int r), (2, .int n)]) hx hb dX12_text_53 hl (k := 3) rfl (nI_1 _) (by decide) rfl (fun ls hl => ?_)
            refine lv_goto (tgt := 34) hx hb dX12_text_56 (by decide) ?_
            exact ih _ _ _ ⟨_, hP, hD, hS, lv_sub hl [1, 2, 3, 0] rfl⟩
          · intro H locs ls hI
            obtain ⟨f1, hP, hD, hS, hl⟩ := hI
            refine lv_iload_n hx hb dX12_text_34 rfl (lv_at hl 3 rfl) ?_
            refine lv_bipush (v := 40) hx hb dX12_text_35 (by decide) ?_
            refine lv_icmp_ge (tgt := 59) hx hb dX12_text_37 (by decide) (fun _ => ?_) (fun c_11 => absurd (by decide) c_11)
            refine lv_iload_n hx hb dX12_text_59 rfl (lv_at hl 2 rfl) ?_
            exact rI X hK hP hD hS dX12_text_60 (by rfl) (Nat.le_of_ble_eq_true rfl) (Nat.le_of_ble_eq_true rfl) (by show _ = _; unfold sp_X12_text; rw [if_neg c_3, if_neg c_5, if_pos c_8, if_pos c_9]; try rfl)
        ·
          refine lv_aload_n hx hb dX12_text_19 rfl (lv_at hl 0 rfl) ?_
          refine lv_iconst (v := 5) hx hb dX12_text_20 (by decide) ?_
          refine kVi (As := [.int 5]) (rest := []) (wr := [(m0a8, .inl (cI g, 4, .inl (fun _ => (-9)))), (m0a9, .inl (cI g, 160, .inl (fun _ => 0)))]) X (c_X12_meets5 l g m0 m0a1 m0a5 m0a6 m0a7 m0a8 m0a9 m0a11 m0a12 m0a13 m0a14 m0a15 m0a16 m0a18 m0a19 m0a20 m0a21 m0a22 m0a24 m0a25 m0a26 m0a28 m0a29 m0a30 m0a31 m0a33 m0a34 m0a35 m0a36 m0a37 m0a38 m0a39 m0a40 m0a41 m0a42 m0a43 m0a44 m0a45 m0a46 m0a47 m0a49 m0a50 m0a51 m0a53 m0a54 m0a55 m0a56 m0a57 m0a58 m0a59 m0a60 m0a61 m0a62 m0a63 m0a67 m0a68 m0a69 m0a70 m0a71 m0a72 m0a73 m0a74 m0a75) ok_X12_meets okv_X12_meets q_1708 rfl hK hP hD hS hA hZ hl.1 [0, 1] [2, 3] rfl rfl rfl rfl rfl 0 12 rfl rfl rfl (Nat.le_of_ble_eq_true rfl) ⟨Nat.le_of_ble_eq_true rfl, Nat.le_of_ble_eq_true rfl⟩ dX12_text_21 ⟨Nat.le_of_ble_eq_true rfl, Nat.le_of_ble_eq_true rfl⟩ (fun r_12 w1 H locs hw_13 hP hD hS => ?_)
          rw [sp_X12_meets5] at hw_13
          obtain ⟨e1, e2⟩ := Prod.mk.inj hw_13
          subst e1; subst e2
          have hP : va_P g.1 classes [(m0a8, .inl (cI g, 4, .inl (fun _ => (-9)))), (m0a9, .inl (cI g, 160, .inl (fun _ => 0))), (m0, .inr (12, [.int 5, .ref m0a1, .int 0, .long 0, .int 0, .ref m0a5, .ref m0a6, .ref m0a7, .ref m0a8, .ref m0a9, .int 0, .ref m0a11, .ref m0a12, .ref m0a13, .ref m0a14, .ref m0a15, .ref m0a16, .int 0, .ref m0a18, .ref m0a19, .ref m0a20, .ref m0a21, .ref m0a22, .int 0, .ref m0a24, .ref m0a25, .ref m0a26, .int 0, .ref m0a28, .ref m0a29, .ref m0a30, .ref m0a31, .int 0, .ref m0a33, .ref m0a34, .ref m0a35, .ref m0a36, .ref m0a37, .ref m0a38, .ref m0a39, .ref m0a40, .ref m0a41, .ref m0a42, .ref m0a43, .ref m0a44, .ref m0a45, .ref m0a46, .ref m0a47, .int 0, .ref m0a49, .ref m0a50, .ref m0a51, .int 0, .ref m0a53, .ref m0a54, .ref m0a55, .ref m0a56, .ref m0a57, .ref m0a58, .ref m0a59, .ref m0a60, .ref m0a61, .ref m0a62, .ref m0a63, .long 0, .int 0, .int (-9), .ref m0a67, .ref m0a68, .ref m0a69, .ref m0a70, .ref m0a71, .ref m0a72, .ref m0a73, .ref m0a74, .ref m0a75, .long 0])), (m0a1, .inl (cI g, 6, .inl (upd (fun _ => 0) 5 1)))] H := hP
          have hD : va_D A [(m0a8, .inl (cI g, 4, .inl (fun _ => (-9)))), (m0a9, .inl (cI g, 160, .inl (fun _ => 0))), (m0, .inr (12, [.int 5, .ref m0a1, .int 0, .long 0, .int 0, .ref m0a5, .ref m0a6, .ref m0a7, .ref m0a8, .ref m0a9, .int 0, .ref m0a11, .ref m0a12, .ref m0a13, .ref m0a14, .ref m0a15, .ref m0a16, .int 0, .ref m0a18, .ref m0a19, .ref m0a20, .ref m0a21, .ref m0a22, .int 0, .ref m0a24, .ref m0a25, .ref m0a26, .int 0, .ref m0a28, .ref m0a29, .ref m0a30, .ref m0a31, .int 0, .ref m0a33, .ref m0a34, .ref m0a35, .ref m0a36, .ref m0a37, .ref m0a38, .ref m0a39, .ref m0a40, .ref m0a41, .ref m0a42, .ref m0a43, .ref m0a44, .ref m0a45, .ref m0a46, .ref m0a47, .int 0, .ref m0a49, .ref m0a50, .ref m0a51, .int 0, .ref m0a53, .ref m0a54, .ref m0a55, .ref m0a56, .ref m0a57, .ref m0a58, .ref m0a59, .ref m0a60, .ref m0a61, .ref m0a62, .ref m0a63, .long 0, .int 0, .int (-9), .ref m0a67, .ref m0a68, .ref m0a69, .ref m0a70, .ref m0a71, .ref m0a72, .ref m0a73, .ref m0a74, .ref m0a75, .long 0])), (m0a1, .inl (cI g, 6, .inl (upd (fun _ => 0) 5 1)))] := hD
          exact rI X hK hP hD hS dX12_text_24 (by rfl) (Nat.le_of_ble_eq_true rfl) (Nat.le_of_ble_eq_true rfl) (by show _ = _; unfold sp_X12_text; rw [if_neg c_3, if_neg c_5, if_pos c_8, if_neg c_9]; try rfl)
      ·
        refine lv_iconst (v := (-1)) hx hb dX12_text_13 (by decide) ?_
        exact rI X hK hP hD hS dX12_text_14 (by rfl) (Nat.le_of_ble_eq_true rfl) (Nat.le_of_ble_eq_true rfl) (by show _ = _; unfold sp_X12_text; rw [if_neg c_3, if_neg c_5, if_neg c_8]; try rfl)
