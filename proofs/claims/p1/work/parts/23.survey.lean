set_option maxRecDepth 200000 in
theorem q_835 : Cond.methodLink "CityRoad$Ground" 18 Lib.Math.abs.name ∈ tb := tb_mem 835 (by decide +kernel) rfl
set_option maxRecDepth 200000 in
theorem q_836 : Cond.static Lib.Math.abs.name ∈ tb := tb_mem 836 (by decide +kernel) rfl
set_option maxRecDepth 200000 in
theorem q_837 : Cond.code Lib.Math.abs.name Lib.Math.abs.code 1 (some .int) ∈ tb := tb_mem 837 (by rfl) rfl
set_option maxRecDepth 200000 in
theorem q_829 : Cond.code yX3_beside cX3_beside 2 (some .int) ∈ tb := tb_mem 829 (by rfl) rfl
set_option maxRecDepth 200000 in
theorem q_828 : Cond.static yX3_beside ∈ tb := tb_mem 828 (by decide +kernel) rfl
set_option maxRecDepth 200000 in
theorem q_827 : Cond.methodLink "CityRoad$Ground" 32 yX3_beside ∈ tb := tb_mem 827 (by decide +kernel) rfl
set_option maxRecDepth 200000 in
theorem q_830 : Cond.methodLink "CityRoad$Ground" 36 yX3_isWater ∈ tb := tb_mem 830 (by decide +kernel) rfl
set_option maxRecDepth 200000 in
theorem q_834 : Cond.code yX3_slope cX3_slope 3 (some .int) ∈ tb := tb_mem 834 (by rfl) rfl
set_option maxRecDepth 200000 in
theorem q_832 : Cond.instanceMethod yX3_slope ∈ tb := tb_mem 832 (by decide +kernel) rfl
set_option maxRecDepth 200000 in
theorem q_833 : Cond.selects "CityRoad$Ground" yX3_slope yX3_slope ∈ tb := tb_mem 833 (by decide +kernel) rfl
set_option maxRecDepth 200000 in
theorem q_831 : Cond.methodLink "CityRoad$Ground" 40 yX3_slope ∈ tb := tb_mem 831 (by decide +kernel) rfl
set_option maxRecDepth 200000 in
theorem q_826 : Cond.code yX3_onward cX3_onward 5 (some .int) ∈ tb := tb_mem 826 (by rfl) rfl
set_option maxRecDepth 200000 in
theorem q_824 : Cond.instanceMethod yX3_onward ∈ tb := tb_mem 824 (by decide +kernel) rfl
set_option maxRecDepth 200000 in
theorem q_825 : Cond.selects "CityRoad$Ground" yX3_onward yX3_onward ∈ tb := tb_mem 825 (by decide +kernel) rfl
set_option maxRecDepth 200000 in
theorem q_1327 : Cond.methodLink "CityRoad$Stopper" 30 yX3_onward ∈ tb := tb_mem 1327 (by decide +kernel) rfl
set_option maxRecDepth 200000 in
theorem q_843 : Cond.code yX3_bit cX3_bit 1 (some .long) ∈ tb := tb_mem 843 (by rfl) rfl
set_option maxRecDepth 200000 in
theorem q_842 : Cond.static yX3_bit ∈ tb := tb_mem 842 (by decide +kernel) rfl
set_option maxRecDepth 200000 in
theorem q_1328 : Cond.methodLink "CityRoad$Stopper" 34 yX3_bit ∈ tb := tb_mem 1328 (by decide +kernel) rfl
theorem dX3_slope_0 : decode cX3_slope 0 = .ok (.aload_n 0, 1) := by decide +kernel
theorem dX3_slope_1 : decode cX3_slope 1 = .ok (.getfield 15, 3) := by decide +kernel
theorem dX3_slope_4 : decode cX3_slope 4 = .ok (.iload_n 1, 1) := by decide +kernel
theorem dX3_slope_5 : decode cX3_slope 5 = .ok (.iaload, 1) := by decide +kernel
theorem dX3_slope_6 : decode cX3_slope 6 = .ok (.aload_n 0, 1) := by decide +kernel
theorem dX3_slope_7 : decode cX3_slope 7 = .ok (.getfield 15, 3) := by decide +kernel
theorem dX3_slope_10 : decode cX3_slope 10 = .ok (.iload_n 2, 1) := by decide +kernel
theorem dX3_slope_11 : decode cX3_slope 11 = .ok (.iaload, 1) := by decide +kernel
theorem dX3_slope_12 : decode cX3_slope 12 = .ok (.isub, 1) := by decide +kernel
theorem dX3_slope_13 : decode cX3_slope 13 = .ok (.invokestatic 18, 3) := by decide +kernel
theorem dX3_slope_16 : decode cX3_slope 16 = .ok (.ireturn, 1) := by decide +kernel
theorem dX3_beside_0 : decode cX3_beside 0 = .ok (.iload_n 1, 1) := by decide +kernel
theorem dX3_beside_1 : decode cX3_beside 1 = .ok (.tableswitch 77 0 2 #[27, 43, 59], 27) := by decide +kernel
theorem dX3_beside_28 : decode cX3_beside 28 = .ok (.iload_n 0, 1) := by decide +kernel
theorem dX3_beside_29 : decode cX3_beside 29 = .ok (.bipush 8, 2) := by decide +kernel
theorem dX3_beside_31 : decode cX3_beside 31 = .ok (.if_icmp .lt 10, 3) := by decide +kernel
theorem dX3_beside_41 : decode cX3_beside 41 = .ok (.bipush (-9), 2) := by decide +kernel
theorem dX3_beside_43 : decode cX3_beside 43 = .ok (.ireturn, 1) := by decide +kernel
theorem dX3_beside_34 : decode cX3_beside 34 = .ok (.iload_n 0, 1) := by decide +kernel
theorem dX3_beside_35 : decode cX3_beside 35 = .ok (.bipush 8, 2) := by decide +kernel
theorem dX3_beside_37 : decode cX3_beside 37 = .ok (.isub, 1) := by decide +kernel
theorem dX3_beside_38 : decode cX3_beside 38 = .ok (.goto 5, 3) := by decide +kernel
theorem dX3_beside_44 : decode cX3_beside 44 = .ok (.iload_n 0, 1) := by decide +kernel
theorem dX3_beside_45 : decode cX3_beside 45 = .ok (.bipush 8, 2) := by decide +kernel
theorem dX3_beside_47 : decode cX3_beside 47 = .ok (.irem, 1) := by decide +kernel
theorem dX3_beside_48 : decode cX3_beside 48 = .ok (.ifCond .le 9, 3) := by decide +kernel
theorem dX3_beside_57 : decode cX3_beside 57 = .ok (.bipush (-9), 2) := by decide +kernel
theorem dX3_beside_59 : decode cX3_beside 59 = .ok (.ireturn, 1) := by decide +kernel
theorem dX3_beside_51 : decode cX3_beside 51 = .ok (.iload_n 0, 1) := by decide +kernel
theorem dX3_beside_52 : decode cX3_beside 52 = .ok (.iconst 1, 1) := by decide +kernel
theorem dX3_beside_53 : decode cX3_beside 53 = .ok (.isub, 1) := by decide +kernel
theorem dX3_beside_54 : decode cX3_beside 54 = .ok (.goto 5, 3) := by decide +kernel
theorem dX3_beside_60 : decode cX3_beside 60 = .ok (.iload_n 0, 1) := by decide +kernel
theorem dX3_beside_61 : decode cX3_beside 61 = .ok (.bipush 8, 2) := by decide +kernel
theorem dX3_beside_63 : decode cX3_beside 63 = .ok (.irem, 1) := by decide +kernel
theorem dX3_beside_64 : decode cX3_beside 64 = .ok (.bipush 7, 2) := by decide +kernel
theorem dX3_beside_66 : decode cX3_beside 66 = .ok (.if_icmp .ge 9, 3) := by decide +kernel
theorem dX3_beside_75 : decode cX3_beside 75 = .ok (.bipush (-9), 2) := by decide +kernel
theorem dX3_beside_77 : decode cX3_beside 77 = .ok (.ireturn, 1) := by decide +kernel
theorem dX3_beside_69 : decode cX3_beside 69 = .ok (.iload_n 0, 1) := by decide +kernel
theorem dX3_beside_70 : decode cX3_beside 70 = .ok (.iconst 1, 1) := by decide +kernel
theorem dX3_beside_71 : decode cX3_beside 71 = .ok (.iadd, 1) := by decide +kernel
theorem dX3_beside_72 : decode cX3_beside 72 = .ok (.goto 5, 3) := by decide +kernel
theorem dX3_beside_78 : decode cX3_beside 78 = .ok (.iload_n 0, 1) := by decide +kernel
theorem dX3_beside_79 : decode cX3_beside 79 = .ok (.bipush 56, 2) := by decide +kernel
theorem dX3_beside_81 : decode cX3_beside 81 = .ok (.if_icmp .ge 10, 3) := by decide +kernel
theorem dX3_beside_91 : decode cX3_beside 91 = .ok (.bipush (-9), 2) := by decide +kernel
theorem dX3_beside_93 : decode cX3_beside 93 = .ok (.ireturn, 1) := by decide +kernel
theorem dX3_beside_84 : decode cX3_beside 84 = .ok (.iload_n 0, 1) := by decide +kernel
theorem dX3_beside_85 : decode cX3_beside 85 = .ok (.bipush 8, 2) := by decide +kernel
theorem dX3_beside_87 : decode cX3_beside 87 = .ok (.iadd, 1) := by decide +kernel
theorem dX3_beside_88 : decode cX3_beside 88 = .ok (.goto 5, 3) := by decide +kernel
theorem dX3_onward_0 : decode cX3_onward 0 = .ok (.iload_n 1, 1) := by decide +kernel
theorem dX3_onward_1 : decode cX3_onward 1 = .ok (.iload_n 2, 1) := by decide +kernel
theorem dX3_onward_2 : decode cX3_onward 2 = .ok (.invokestatic 32, 3) := by decide +kernel
theorem dX3_onward_5 : decode cX3_onward 5 = .ok (.istore 4, 2) := by decide +kernel
theorem dX3_onward_7 : decode cX3_onward 7 = .ok (.iload 4, 2) := by decide +kernel
theorem dX3_onward_9 : decode cX3_onward 9 = .ok (.bipush (-9), 2) := by decide +kernel
theorem dX3_onward_11 : decode cX3_onward 11 = .ok (.if_icmp .eq 23, 3) := by decide +kernel
theorem dX3_onward_34 : decode cX3_onward 34 = .ok (.bipush (-9), 2) := by decide +kernel
theorem dX3_onward_36 : decode cX3_onward 36 = .ok (.ireturn, 1) := by decide +kernel
theorem dX3_onward_14 : decode cX3_onward 14 = .ok (.aload_n 0, 1) := by decide +kernel
theorem dX3_onward_15 : decode cX3_onward 15 = .ok (.iload 4, 2) := by decide +kernel
theorem dX3_onward_17 : decode cX3_onward 17 = .ok (.invokevirtual 36, 3) := by decide +kernel
theorem dX3_onward_20 : decode cX3_onward 20 = .ok (.ifCond .ne 14, 3) := by decide +kernel
theorem dX3_onward_23 : decode cX3_onward 23 = .ok (.aload_n 0, 1) := by decide +kernel
theorem dX3_onward_24 : decode cX3_onward 24 = .ok (.iload_n 1, 1) := by decide +kernel
theorem dX3_onward_25 : decode cX3_onward 25 = .ok (.iload 4, 2) := by decide +kernel
theorem dX3_onward_27 : decode cX3_onward 27 = .ok (.invokevirtual 40, 3) := by decide +kernel
theorem dX3_onward_30 : decode cX3_onward 30 = .ok (.iload_n 3, 1) := by decide +kernel
theorem dX3_onward_31 : decode cX3_onward 31 = .ok (.if_icmp .le 6, 3) := by decide +kernel
theorem dX3_onward_37 : decode cX3_onward 37 = .ok (.iload 4, 2) := by decide +kernel
theorem dX3_onward_39 : decode cX3_onward 39 = .ok (.ireturn, 1) := by decide +kernel
theorem dX9_survey_0 : decode cX9_survey 0 = .ok (.iconst 0, 1) := by decide +kernel
theorem dX9_survey_1 : decode cX9_survey 1 = .ok (.istore_n 3, 1) := by decide +kernel
theorem dX9_survey_2 : decode cX9_survey 2 = .ok (.iload_n 3, 1) := by decide +kernel
theorem dX9_survey_3 : decode cX9_survey 3 = .ok (.iconst 4, 1) := by decide +kernel
theorem dX9_survey_4 : decode cX9_survey 4 = .ok (.if_icmp .ge 59, 3) := by decide +kernel
theorem dX9_survey_7 : decode cX9_survey 7 = .ok (.aload_n 0, 1) := by decide +kernel
theorem dX9_survey_8 : decode cX9_survey 8 = .ok (.getfield 11, 3) := by decide +kernel
theorem dX9_survey_11 : decode cX9_survey 11 = .ok (.iload_n 3, 1) := by decide +kernel
theorem dX9_survey_12 : decode cX9_survey 12 = .ok (.lconst 0, 1) := by decide +kernel
theorem dX9_survey_13 : decode cX9_survey 13 = .ok (.lastore, 1) := by decide +kernel
theorem dX9_survey_14 : decode cX9_survey 14 = .ok (.iconst 0, 1) := by decide +kernel
theorem dX9_survey_15 : decode cX9_survey 15 = .ok (.istore 4, 2) := by decide +kernel
theorem dX9_survey_17 : decode cX9_survey 17 = .ok (.iload 4, 2) := by decide +kernel
theorem dX9_survey_19 : decode cX9_survey 19 = .ok (.bipush 64, 2) := by decide +kernel
theorem dX9_survey_21 : decode cX9_survey 21 = .ok (.if_icmp .ge 36, 3) := by decide +kernel
theorem dX9_survey_24 : decode cX9_survey 24 = .ok (.aload_n 1, 1) := by decide +kernel
theorem dX9_survey_25 : decode cX9_survey 25 = .ok (.iload 4, 2) := by decide +kernel
theorem dX9_survey_27 : decode cX9_survey 27 = .ok (.iload_n 3, 1) := by decide +kernel
theorem dX9_survey_28 : decode cX9_survey 28 = .ok (.iload_n 2, 1) := by decide +kernel
theorem dX9_survey_29 : decode cX9_survey 29 = .ok (.invokevirtual 30, 3) := by decide +kernel
theorem dX9_survey_32 : decode cX9_survey 32 = .ok (.bipush (-9), 2) := by decide +kernel
theorem dX9_survey_34 : decode cX9_survey 34 = .ok (.if_icmp .eq 17, 3) := by decide +kernel
theorem dX9_survey_51 : decode cX9_survey 51 = .ok (.iinc 4 1, 3) := by decide +kernel
theorem dX9_survey_54 : decode cX9_survey 54 = .ok (.goto (-37), 3) := by decide +kernel
theorem dX9_survey_37 : decode cX9_survey 37 = .ok (.aload_n 0, 1) := by decide +kernel
theorem dX9_survey_38 : decode cX9_survey 38 = .ok (.getfield 11, 3) := by decide +kernel
theorem dX9_survey_41 : decode cX9_survey 41 = .ok (.iload_n 3, 1) := by decide +kernel
theorem dX9_survey_42 : decode cX9_survey 42 = .ok (.dup2, 1) := by decide +kernel
theorem dX9_survey_43 : decode cX9_survey 43 = .ok (.laload, 1) := by decide +kernel
theorem dX9_survey_44 : decode cX9_survey 44 = .ok (.iload 4, 2) := by decide +kernel
theorem dX9_survey_46 : decode cX9_survey 46 = .ok (.invokestatic 34, 3) := by decide +kernel
theorem dX9_survey_49 : decode cX9_survey 49 = .ok (.lor, 1) := by decide +kernel
theorem dX9_survey_50 : decode cX9_survey 50 = .ok (.lastore, 1) := by decide +kernel
theorem dX9_survey_57 : decode cX9_survey 57 = .ok (.iinc 3 1, 3) := by decide +kernel
theorem dX9_survey_60 : decode cX9_survey 60 = .ok (.goto (-58), 3) := by decide +kernel
theorem dX9_survey_63 : decode cX9_survey 63 = .ok (.return_, 1) := by decide +kernel
theorem ok_X3_beside : okM yX3_beside cX3_beside 2 (some .int) 2 := ⟨q_829, q_93, by decide +kernel, by decide +kernel, by decide +kernel⟩
theorem ok_X3_slope : okM yX3_slope cX3_slope 3 (some .int) 2 := ⟨q_834, q_93, by decide +kernel, by decide +kernel, by decide +kernel⟩
theorem okv_X3_slope : okV yX3_slope := ⟨q_832, q_833⟩
theorem ok_X3_onward : okM yX3_onward cX3_onward 5 (some .int) 3 := ⟨q_826, q_93, by decide +kernel, by decide +kernel, by decide +kernel⟩
theorem okv_X3_onward : okV yX3_onward := ⟨q_824, q_825⟩
theorem ok_X3_bit : okM yX3_bit cX3_bit 1 (some .long) 1 := ⟨q_843, q_93, by decide +kernel, by decide +kernel, by decide +kernel⟩
def sp_X3_slope (g : GG) (h0 : Nat) (a0 : Int32) (b0 : Int32) (h0s : Nat) (h0h : Nat) : Int32 × va_W := (0, [(h0, .inr (3, [.ref h0s, .ref h0h])), (h0h, .inl (cI g, 64, .inl (fun _ => 0)))])
set_option maxHeartbeats 4000000 in
set_option maxRecDepth 100000 in
theorem c_X3_slope (l : Launch) (g : GG) (h0 : Nat) (a0 : Int32) (b0 : Int32) (h0s : Nat) (h0h : Nat) (ha0 : ¬ (a0 < 0)) (ha6 : ¬ (64 ≤ a0)) (hb0 : ¬ (b0 < 0)) (hb6 : ¬ (64 ≤ b0)) : MI l g yX3_slope cX3_slope 3 (some .int) 1 21 0 0 [(h0, .inr (3, [.ref h0s, .ref h0h])), (h0h, .inl (cI g, 64, .inl (fun _ => 0)))] [.ref h0, .int a0, .int b0] (fun rr_ ww_ => (rr_, ww_) = sp_X3_slope g h0 a0 b0 h0s h0h) := by
  refine met_of (fun A => va_Qi _ (bW g A) A) (by decide) (Nat.le_of_ble_eq_true rfl) ?_
  intro p e s m below meth c A ls X hK hP hD hA hZ hS hl
  have hx := X.1
  have hb := X.2.1
  have hml := X.2.2.1
  have hown := X.2.2.2.1
  have hts := X.2.2.2.2.1
  have hnm := X.2.2.2.2.2.2.2
  have hl : lv_has ls 3 [(0, .ref h0), (1, .int a0), (2, .int b0)] := hl
  refine lv_aload_n hx hb dX3_slope_0 rfl (lv_at hl 0 rfl) ?_
  refine va_get (D := g.1) (ci := 3) (v := .ref h0h) (C := RX3) (T := TX3) (N := 2) hx hb hts fw_X3 hown hK hP 0 rfl rfl 1 (by decide) (hts _ q_147) (fun _ h9 => h9) rfl dX3_slope_1 ?_
  refine lv_iload_n hx hb dX3_slope_4 rfl (lv_at hl 1 rfl) ?_
  refine va_iald hx hb hK hP 1 0 rfl rfl (vp_in_iff.mpr (by simp only [i32lt, i32le, i32eq, Int32.reduceToInt] at ha0 ha6; omega)) dX3_slope_5 ?_
  refine lv_topk (v := 0) rfl ?_
  refine lv_aload_n hx hb dX3_slope_6 rfl (lv_at hl 0 rfl) ?_
  refine va_get (D := g.1) (ci := 3) (v := .ref h0h) (C := RX3) (T := TX3) (N := 2) hx hb hts fw_X3 hown hK hP 0 rfl rfl 1 (by decide) (hts _ q_147) (fun _ h9 => h9) rfl dX3_slope_7 ?_
  refine lv_iload_n hx hb dX3_slope_10 rfl (lv_at hl 2 rfl) ?_
  refine va_iald hx hb hK hP 1 0 rfl rfl (vp_in_iff.mpr (by simp only [i32lt, i32le, i32eq, Int32.reduceToInt] at hb0 hb6; omega)) dX3_slope_11 ?_
  refine lv_topk (v := 0) rfl ?_
  refine lv_isub hx hb dX3_slope_12 ?_
  refine lv_topk (v := 0) (by decide) ?_
  refine va_mabs hx hb (hml.trans hl.1.symm) hown (hts _ q_835) (hts _ q_836) (hts _ q_91) (hts _ q_837) (Nat.le_of_ble_eq_true rfl) (Nat.le_of_ble_eq_true rfl) (Nat.le_of_ble_eq_true rfl) (Nat.le_of_ble_eq_true rfl) dX3_slope_13 ?_
  refine lv_topk (v := 0) (by first | decide | rfl) ?_
  exact rI X hK hP hD hS dX3_slope_16 (by rfl) (Nat.le_of_ble_eq_true rfl) (Nat.le_of_ble_eq_true rfl) (by show ((_, _) : Int32 × va_W) = _; unfold sp_X3_slope; try rfl)
def sp_X3_beside0 (g : GG) (cn : Nat) : Int32 × va_W := if nI cn < 8 then ((-9), []) else (nI (cn - 8), [])
set_option maxHeartbeats 4000000 in
set_option maxRecDepth 100000 in
theorem c_X3_beside0 (l : Launch) (g : GG) (cn : Nat) (hc : cn < 64) : MI l g yX3_beside cX3_beside 2 (some .int) 0 0 0 0 [] [.int (nI cn), .int 0] (fun rr_ ww_ => (rr_, ww_) = sp_X3_beside0 g cn) := by
  refine met_of (fun A => va_Qi _ (bW g A) A) (by decide) (Nat.le_of_ble_eq_true rfl) ?_
  intro p e s m below meth c A ls X hK hP hD hA hZ hS hl
  have hx := X.1
  have hb := X.2.1
  have hml := X.2.2.1
  have hown := X.2.2.2.1
  have hts := X.2.2.2.2.1
  have hnm := X.2.2.2.2.2.2.2
  have hl : lv_has ls 2 [(0, .int (nI cn)), (1, .int 0)] := hl
  have hn_cn : (nI cn).toInt = (cn : Int) := nI_toInt (by omega)
  refine lv_iload_n hx hb dX3_beside_0 rfl (lv_at hl 1 rfl) ?_
  refine lv_tableIn (off := 27) (tgt := 28) hx hb dX3_beside_1 (by decide) (by decide) (by decide) (by decide) ?_
  refine lv_iload_n hx hb dX3_beside_28 rfl (lv_at hl 0 rfl) ?_
  refine lv_bipush (v := 8) hx hb dX3_beside_29 (by decide) ?_
  refine lv_icmp_lt (tgt := 41) hx hb dX3_beside_31 (by decide) (fun c_1 => ?_) (fun c_1 => ?_)
  ·
    have hn_2 : (nI cn).toInt = ((cn : Nat) : Int) := nI_toInt (by omega)
    have m_c_1 : cn < 8 := (by simp only [i32lt, i32le, i32eq, Int32.reduceToInt] at c_1; omega)
    refine lv_bipush (v := (-9)) hx hb dX3_beside_41 (by decide) ?_
    exact rI X hK hP hD hS dX3_beside_43 (by rfl) (Nat.le_of_ble_eq_true rfl) (Nat.le_of_ble_eq_true rfl) (by show ((_, _) : Int32 × va_W) = _; unfold sp_X3_beside0; rw [if_pos c_1]; try rfl)
  ·
    have hn_3 : (nI cn).toInt = ((cn : Nat) : Int) := nI_toInt (by omega)
    have m_c_1 : ¬ (cn < 8) := (by simp only [i32lt, i32le, i32eq, Int32.reduceToInt] at c_1; omega)
    refine lv_iload_n hx hb dX3_beside_34 rfl (lv_at hl 0 rfl) ?_
    refine lv_bipush (v := 8) hx hb dX3_beside_35 (by decide) ?_
    refine lv_isub hx hb dX3_beside_37 ?_
    refine lv_topk (v := nI (cn - 8)) (pk_sub (a := cn) (b := 8) (by omega)) ?_
    have hn_4 : (nI (cn - 8)).toInt = (((cn - 8) : Nat) : Int) := nI_toInt (by omega)
    refine lv_goto (tgt := 43) hx hb dX3_beside_38 (by decide) ?_
    exact rI X hK hP hD hS dX3_beside_43 (by rfl) (Nat.le_of_ble_eq_true rfl) (Nat.le_of_ble_eq_true rfl) (by show ((_, _) : Int32 × va_W) = _; unfold sp_X3_beside0; rw [if_neg c_1]; try rfl)
def sp_X3_beside1 (g : GG) (cn : Nat) : Int32 × va_W := if nI (cn % 8) ≤ 0 then ((-9), []) else (nI (cn - 1), [])
set_option maxHeartbeats 4000000 in
set_option maxRecDepth 100000 in
theorem c_X3_beside1 (l : Launch) (g : GG) (cn : Nat) (hc : cn < 64) : MI l g yX3_beside cX3_beside 2 (some .int) 0 0 0 0 [] [.int (nI cn), .int 1] (fun rr_ ww_ => (rr_, ww_) = sp_X3_beside1 g cn) := by
  refine met_of (fun A => va_Qi _ (bW g A) A) (by decide) (Nat.le_of_ble_eq_true rfl) ?_
  intro p e s m below meth c A ls X hK hP hD hA hZ hS hl
  have hx := X.1
  have hb := X.2.1
  have hml := X.2.2.1
  have hown := X.2.2.2.1
  have hts := X.2.2.2.2.1
  have hnm := X.2.2.2.2.2.2.2
  have hl : lv_has ls 2 [(0, .int (nI cn)), (1, .int 1)] := hl
  have hn_cn : (nI cn).toInt = (cn : Int) := nI_toInt (by omega)
  refine lv_iload_n hx hb dX3_beside_0 rfl (lv_at hl 1 rfl) ?_
  refine lv_tableIn (off := 43) (tgt := 44) hx hb dX3_beside_1 (by decide) (by decide) (by decide) (by decide) ?_
  refine lv_iload_n hx hb dX3_beside_44 rfl (lv_at hl 0 rfl) ?_
  refine lv_bipush (v := 8) hx hb dX3_beside_45 (by decide) ?_
  refine lv_irem hx hb dX3_beside_47 (by decide) ?_
  refine lv_topk (v := nI (cn % 8)) (pk_rem (by omega) (by decide) (by decide)) ?_
  have hn_1 : (nI (cn % 8)).toInt = (((cn % 8) : Nat) : Int) := nI_toInt (by omega)
  refine lv_if_le (tgt := 57) hx hb dX3_beside_48 (by decide) (fun c_2 => ?_) (fun c_2 => ?_)
  ·
    have hn_3 : (nI (cn % 8)).toInt = (((cn % 8) : Nat) : Int) := nI_toInt (by omega)
    have m_c_2 : (cn % 8) ≤ 0 := (by simp only [i32lt, i32le, i32eq, Int32.reduceToInt] at c_2; omega)
    refine lv_bipush (v := (-9)) hx hb dX3_beside_57 (by decide) ?_
    exact rI X hK hP hD hS dX3_beside_59 (by rfl) (Nat.le_of_ble_eq_true rfl) (Nat.le_of_ble_eq_true rfl) (by show ((_, _) : Int32 × va_W) = _; unfold sp_X3_beside1; rw [if_pos c_2]; try rfl)
  ·
    have hn_4 : (nI (cn % 8)).toInt = (((cn % 8) : Nat) : Int) := nI_toInt (by omega)
    have m_c_2 : ¬ ((cn % 8) ≤ 0) := (by simp only [i32lt, i32le, i32eq, Int32.reduceToInt] at c_2; omega)
    refine lv_iload_n hx hb dX3_beside_51 rfl (lv_at hl 0 rfl) ?_
    refine lv_iconst (v := 1) hx hb dX3_beside_52 (by decide) ?_
    refine lv_isub hx hb dX3_beside_53 ?_
    refine lv_topk (v := nI (cn - 1)) (pk_sub (a := cn) (b := 1) (by omega)) ?_
    have hn_5 : (nI (cn - 1)).toInt = (((cn - 1) : Nat) : Int) := nI_toInt (by omega)
    refine lv_goto (tgt := 59) hx hb dX3_beside_54 (by decide) ?_
    exact rI X hK hP hD hS dX3_beside_59 (by rfl) (Nat.le_of_ble_eq_true rfl) (Nat.le_of_ble_eq_true rfl) (by show ((_, _) : Int32 × va_W) = _; unfold sp_X3_beside1; rw [if_neg c_2]; try rfl)
def sp_X3_beside2 (g : GG) (cn : Nat) : Int32 × va_W := if 7 ≤ nI (cn % 8) then ((-9), []) else (nI (cn + 1), [])
set_option maxHeartbeats 4000000 in
set_option maxRecDepth 100000 in
theorem c_X3_beside2 (l : Launch) (g : GG) (cn : Nat) (hc : cn < 64) : MI l g yX3_beside cX3_beside 2 (some .int) 0 0 0 0 [] [.int (nI cn), .int 2] (fun rr_ ww_ => (rr_, ww_) = sp_X3_beside2 g cn) := by
  refine met_of (fun A => va_Qi _ (bW g A) A) (by decide) (Nat.le_of_ble_eq_true rfl) ?_
  intro p e s m below meth c A ls X hK hP hD hA hZ hS hl
  have hx := X.1
  have hb := X.2.1
  have hml := X.2.2.1
  have hown := X.2.2.2.1
  have hts := X.2.2.2.2.1
  have hnm := X.2.2.2.2.2.2.2
  have hl : lv_has ls 2 [(0, .int (nI cn)), (1, .int 2)] := hl
  have hn_cn : (nI cn).toInt = (cn : Int) := nI_toInt (by omega)
  refine lv_iload_n hx hb dX3_beside_0 rfl (lv_at hl 1 rfl) ?_
  refine lv_tableIn (off := 59) (tgt := 60) hx hb dX3_beside_1 (by decide) (by decide) (by decide) (by decide) ?_
  refine lv_iload_n hx hb dX3_beside_60 rfl (lv_at hl 0 rfl) ?_
  refine lv_bipush (v := 8) hx hb dX3_beside_61 (by decide) ?_
  refine lv_irem hx hb dX3_beside_63 (by decide) ?_
  refine lv_topk (v := nI (cn % 8)) (pk_rem (by omega) (by decide) (by decide)) ?_
  have hn_1 : (nI (cn % 8)).toInt = (((cn % 8) : Nat) : Int) := nI_toInt (by omega)
  refine lv_bipush (v := 7) hx hb dX3_beside_64 (by decide) ?_
  refine lv_icmp_ge (tgt := 75) hx hb dX3_beside_66 (by decide) (fun c_2 => ?_) (fun c_2 => ?_)
  ·
    have hn_3 : (nI (cn % 8)).toInt = (((cn % 8) : Nat) : Int) := nI_toInt (by omega)
    have m_c_2 : 7 ≤ (cn % 8) := (by simp only [i32lt, i32le, i32eq, Int32.reduceToInt] at c_2; omega)
    refine lv_bipush (v := (-9)) hx hb dX3_beside_75 (by decide) ?_
    exact rI X hK hP hD hS dX3_beside_77 (by rfl) (Nat.le_of_ble_eq_true rfl) (Nat.le_of_ble_eq_true rfl) (by show ((_, _) : Int32 × va_W) = _; unfold sp_X3_beside2; rw [if_pos c_2]; try rfl)
  ·
    have hn_4 : (nI (cn % 8)).toInt = (((cn % 8) : Nat) : Int) := nI_toInt (by omega)
    have m_c_2 : ¬ (7 ≤ (cn % 8)) := (by simp only [i32lt, i32le, i32eq, Int32.reduceToInt] at c_2; omega)
    refine lv_iload_n hx hb dX3_beside_69 rfl (lv_at hl 0 rfl) ?_
    refine lv_iconst (v := 1) hx hb dX3_beside_70 (by decide) ?_
    refine lv_iadd hx hb dX3_beside_71 ?_
    refine lv_topk (v := nI (cn + 1)) (nI_add _ _) ?_
    have hn_5 : (nI (cn + 1)).toInt = (((cn + 1) : Nat) : Int) := nI_toInt (by omega)
    refine lv_goto (tgt := 77) hx hb dX3_beside_72 (by decide) ?_
    exact rI X hK hP hD hS dX3_beside_77 (by rfl) (Nat.le_of_ble_eq_true rfl) (Nat.le_of_ble_eq_true rfl) (by show ((_, _) : Int32 × va_W) = _; unfold sp_X3_beside2; rw [if_neg c_2]; try rfl)
def sp_X3_beside3 (g : GG) (cn : Nat) : Int32 × va_W := if 56 ≤ nI cn then ((-9), []) else (nI (cn + 8), [])
set_option maxHeartbeats 4000000 in
set_option maxRecDepth 100000 in
theorem c_X3_beside3 (l : Launch) (g : GG) (cn : Nat) (hc : cn < 64) : MI l g yX3_beside cX3_beside 2 (some .int) 0 0 0 0 [] [.int (nI cn), .int 3] (fun rr_ ww_ => (rr_, ww_) = sp_X3_beside3 g cn) := by
  refine met_of (fun A => va_Qi _ (bW g A) A) (by decide) (Nat.le_of_ble_eq_true rfl) ?_
  intro p e s m below meth c A ls X hK hP hD hA hZ hS hl
  have hx := X.1
  have hb := X.2.1
  have hml := X.2.2.1
  have hown := X.2.2.2.1
  have hts := X.2.2.2.2.1
  have hnm := X.2.2.2.2.2.2.2
  have hl : lv_has ls 2 [(0, .int (nI cn)), (1, .int 3)] := hl
  have hn_cn : (nI cn).toInt = (cn : Int) := nI_toInt (by omega)
  refine lv_iload_n hx hb dX3_beside_0 rfl (lv_at hl 1 rfl) ?_
  refine lv_tableOut (tgt := 78) hx hb dX3_beside_1 (by decide) (by decide) ?_
  refine lv_iload_n hx hb dX3_beside_78 rfl (lv_at hl 0 rfl) ?_
  refine lv_bipush (v := 56) hx hb dX3_beside_79 (by decide) ?_
  refine lv_icmp_ge (tgt := 91) hx hb dX3_beside_81 (by decide) (fun c_1 => ?_) (fun c_1 => ?_)
  ·
    have hn_2 : (nI cn).toInt = ((cn : Nat) : Int) := nI_toInt (by omega)
    have m_c_1 : 56 ≤ cn := (by simp only [i32lt, i32le, i32eq, Int32.reduceToInt] at c_1; omega)
    refine lv_bipush (v := (-9)) hx hb dX3_beside_91 (by decide) ?_
    exact rI X hK hP hD hS dX3_beside_93 (by rfl) (Nat.le_of_ble_eq_true rfl) (Nat.le_of_ble_eq_true rfl) (by show ((_, _) : Int32 × va_W) = _; unfold sp_X3_beside3; rw [if_pos c_1]; try rfl)
  ·
    have hn_3 : (nI cn).toInt = ((cn : Nat) : Int) := nI_toInt (by omega)
    have m_c_1 : ¬ (56 ≤ cn) := (by simp only [i32lt, i32le, i32eq, Int32.reduceToInt] at c_1; omega)
    refine lv_iload_n hx hb dX3_beside_84 rfl (lv_at hl 0 rfl) ?_
    refine lv_bipush (v := 8) hx hb dX3_beside_85 (by decide) ?_
    refine lv_iadd hx hb dX3_beside_87 ?_
    refine lv_topk (v := nI (cn + 8)) (nI_add _ _) ?_
    have hn_4 : (nI (cn + 8)).toInt = (((cn + 8) : Nat) : Int) := nI_toInt (by omega)
    refine lv_goto (tgt := 93) hx hb dX3_beside_88 (by decide) ?_
    exact rI X hK hP hD hS dX3_beside_93 (by rfl) (Nat.le_of_ble_eq_true rfl) (Nat.le_of_ble_eq_true rfl) (by show ((_, _) : Int32 × va_W) = _; unfold sp_X3_beside3; rw [if_neg c_1]; try rfl)
def sp_X3_onward0 (g : GG) (h0 : Nat) (cn : Nat) (h0s : Nat) (h0h : Nat) : Int32 × va_W := if nI cn < 8 then ((-9), [(h0, .inr (3, [.ref h0s, .ref h0h])), (h0s, .inl (cI g, 64, .inl (fun _ => 0))), (h0h, .inl (cI g, 64, .inl (fun _ => 0)))]) else (nI (cn - 8), [(h0s, .inl (cI g, 64, .inl (fun _ => 0))), (h0, .inr (3, [.ref h0s, .ref h0h])), (h0h, .inl (cI g, 64, .inl (fun _ => 0)))])
set_option maxHeartbeats 4000000 in
set_option maxRecDepth 100000 in
theorem c_X3_onward0 (l : Launch) (g : GG) (h0 : Nat) (cn : Nat) (h0s : Nat) (h0h : Nat) (hc : cn < 64) : MI l g yX3_onward cX3_onward 5 (some .int) 2 43 0 0 [(h0, .inr (3, [.ref h0s, .ref h0h])), (h0s, .inl (cI g, 64, .inl (fun _ => 0))), (h0h, .inl (cI g, 64, .inl (fun _ => 0)))] [.ref h0, .int (nI cn), .int 0, .int 10] (fun rr_ ww_ => (rr_, ww_) = sp_X3_onward0 g h0 cn h0s h0h) := by
  refine met_of (fun A => va_Qi _ (bW g A) A) (by decide) (Nat.le_of_ble_eq_true rfl) ?_
  intro p e s m below meth c A ls X hK hP hD hA hZ hS hl
  have hx := X.1
  have hb := X.2.1
  have hml := X.2.2.1
  have hown := X.2.2.2.1
  have hts := X.2.2.2.2.1
  have hnm := X.2.2.2.2.2.2.2
  have hl : lv_has ls 5 [(0, .ref h0), (1, .int (nI cn)), (2, .int 0), (3, .int 10)] := hl
  have hn_cn : (nI cn).toInt = (cn : Int) := nI_toInt (by omega)
  refine lv_iload_n hx hb dX3_onward_0 rfl (lv_at hl 1 rfl) ?_
  refine lv_iload_n hx hb dX3_onward_1 rfl (lv_at hl 2 rfl) ?_
  refine kSi (As := [.int (nI cn), .int 0]) (rest := []) (wr := [(h0, .inr (3, [.ref h0s, .ref h0h])), (h0s, .inl (cI g, 64, .inl (fun _ => 0))), (h0h, .inl (cI g, 64, .inl (fun _ => 0)))]) X (c_X3_beside0 l g cn (by first | decide | omega)) ok_X3_beside q_828 q_827 rfl hK hP hD hS hA hZ hl.1 [] [0, 1, 2] rfl rfl rfl rfl rfl rfl (Nat.le_of_ble_eq_true rfl) ⟨Nat.le_of_ble_eq_true rfl, Nat.le_of_ble_eq_true rfl⟩ dX3_onward_2 ⟨Nat.le_of_ble_eq_true rfl, Nat.le_of_ble_eq_true rfl⟩ (fun r_1 w1 H locs hw_2 hP hD hS => ?_)
  rw [sp_X3_beside0] at hw_2
  rcases Classical.em (nI cn < 8) with c_3 | c_3
  ·
    have hn_4 : (nI cn).toInt = ((cn : Nat) : Int) := nI_toInt (by omega)
    have m_c_3 : cn < 8 := (by simp only [i32lt, i32le, i32eq, Int32.reduceToInt] at c_3; omega)
    rw [if_pos c_3] at hw_2
    obtain ⟨e1, e2⟩ := Prod.mk.inj hw_2
    subst e1; subst e2
    have hP : va_P g.1 classes [(h0, .inr (3, [.ref h0s, .ref h0h])), (h0s, .inl (cI g, 64, .inl (fun _ => 0))), (h0h, .inl (cI g, 64, .inl (fun _ => 0)))] H := hP
    have hD : va_D A [(h0, .inr (3, [.ref h0s, .ref h0h])), (h0s, .inl (cI g, 64, .inl (fun _ => 0))), (h0h, .inl (cI g, 64, .inl (fun _ => 0)))] := hD
    refine lv_istore (lv' := [(4, .int (-9)), (0, .ref h0), (1, .int (nI cn)), (2, .int 0), (3, .int 10)]) hx hb dX3_onward_5 hl (by decide) rfl (fun ls hl => ?_)
    refine lv_iload hx hb dX3_onward_7 (lv_at hl 0 rfl) ?_
    refine lv_bipush (v := (-9)) hx hb dX3_onward_9 (by decide) ?_
    refine lv_icmp_eq (tgt := 34) hx hb dX3_onward_11 (by decide) (fun _ => ?_) (fun c_5 => absurd (by decide) c_5)
    refine lv_bipush (v := (-9)) hx hb dX3_onward_34 (by decide) ?_
    exact rI X hK hP hD hS dX3_onward_36 (by rfl) (Nat.le_of_ble_eq_true rfl) (Nat.le_of_ble_eq_true rfl) (by show ((_, _) : Int32 × va_W) = _; unfold sp_X3_onward0; rw [if_pos c_3]; try rfl)
  ·
    have hn_6 : (nI cn).toInt = ((cn : Nat) : Int) := nI_toInt (by omega)
    have m_c_3 : ¬ (cn < 8) := (by simp only [i32lt, i32le, i32eq, Int32.reduceToInt] at c_3; omega)
    rw [if_neg c_3] at hw_2
    obtain ⟨e1, e2⟩ := Prod.mk.inj hw_2
    subst e1; subst e2
    have hn_7 : (nI (cn - 8)).toInt = (((cn - 8) : Nat) : Int) := nI_toInt (by omega)
    have hP : va_P g.1 classes [(h0, .inr (3, [.ref h0s, .ref h0h])), (h0s, .inl (cI g, 64, .inl (fun _ => 0))), (h0h, .inl (cI g, 64, .inl (fun _ => 0)))] H := hP
    have hD : va_D A [(h0, .inr (3, [.ref h0s, .ref h0h])), (h0s, .inl (cI g, 64, .inl (fun _ => 0))), (h0h, .inl (cI g, 64, .inl (fun _ => 0)))] := hD
    refine lv_istore (lv' := [(4, .int (nI (cn - 8))), (0, .ref h0), (1, .int (nI cn)), (2, .int 0), (3, .int 10)]) hx hb dX3_onward_5 hl (by decide) rfl (fun ls hl => ?_)
    refine lv_iload hx hb dX3_onward_7 (lv_at hl 0 rfl) ?_
    refine lv_bipush (v := (-9)) hx hb dX3_onward_9 (by decide) ?_
    refine lv_icmp_eq (tgt := 34) hx hb dX3_onward_11 (by decide) (fun c_8 => absurd c_8 (nI_neN (-9) (by omega) (by decide))) (fun _ => ?_)
    refine lv_aload_n hx hb dX3_onward_14 rfl (lv_at hl 1 rfl) ?_
    refine lv_iload hx hb dX3_onward_15 (lv_at hl 0 rfl) ?_
    refine kVi (As := [.int (nI (cn - 8))]) (rest := []) (wr := [(h0h, .inl (cI g, 64, .inl (fun _ => 0)))]) X (c_X3_isWater l g h0 (nI (cn - 8)) h0s h0h (by simp only [i32lt, i32le, i32eq, Int32.reduceToInt]; omega) (by simp only [i32lt, i32le, i32eq, Int32.reduceToInt]; omega)) ok_X3_isWater okv_X3_isWater q_830 rfl hK hP hD hS hA hZ hl.1 [0, 1] [2] rfl rfl rfl rfl rfl 0 3 rfl rfl rfl (Nat.le_of_ble_eq_true rfl) ⟨Nat.le_of_ble_eq_true rfl, Nat.le_of_ble_eq_true rfl⟩ dX3_onward_17 ⟨Nat.le_of_ble_eq_true rfl, Nat.le_of_ble_eq_true rfl⟩ (fun r_9 w1 H locs hw_10 hP hD hS => ?_)
    rw [sp_X3_isWater] at hw_10
    obtain ⟨e1, e2⟩ := Prod.mk.inj hw_10
    subst e1; subst e2
    have hP : va_P g.1 classes [(h0h, .inl (cI g, 64, .inl (fun _ => 0))), (h0, .inr (3, [.ref h0s, .ref h0h])), (h0s, .inl (cI g, 64, .inl (fun _ => 0)))] H := hP
    have hD : va_D A [(h0h, .inl (cI g, 64, .inl (fun _ => 0))), (h0, .inr (3, [.ref h0s, .ref h0h])), (h0s, .inl (cI g, 64, .inl (fun _ => 0)))] := hD
    refine lv_if_ne (tgt := 34) hx hb dX3_onward_20 (by decide) (fun c_11 => absurd (by decide) c_11) (fun _ => ?_)
    refine lv_aload_n hx hb dX3_onward_23 rfl (lv_at hl 1 rfl) ?_
    refine lv_iload_n hx hb dX3_onward_24 rfl (lv_at hl 2 rfl) ?_
    refine lv_iload hx hb dX3_onward_25 (lv_at hl 0 rfl) ?_
    refine kVi (As := [.int (nI cn), .int (nI (cn - 8))]) (rest := []) (wr := [(h0s, .inl (cI g, 64, .inl (fun _ => 0)))]) X (c_X3_slope l g h0 (nI cn) (nI (cn - 8)) h0s h0h (by simp only [i32lt, i32le, i32eq, Int32.reduceToInt] at c_3 ⊢; omega) (by simp only [i32lt, i32le, i32eq, Int32.reduceToInt] at c_3 ⊢; omega) (by simp only [i32lt, i32le, i32eq, Int32.reduceToInt]; omega) (by simp only [i32lt, i32le, i32eq, Int32.reduceToInt]; omega)) ok_X3_slope okv_X3_slope q_831 rfl hK hP hD hS hA hZ hl.1 [1, 0] [2] rfl rfl rfl rfl rfl 0 3 rfl rfl rfl (Nat.le_of_ble_eq_true rfl) ⟨Nat.le_of_ble_eq_true rfl, Nat.le_of_ble_eq_true rfl⟩ dX3_onward_27 ⟨Nat.le_of_ble_eq_true rfl, Nat.le_of_ble_eq_true rfl⟩ (fun r_12 w1 H locs hw_13 hP hD hS => ?_)
    rw [sp_X3_slope] at hw_13
    obtain ⟨e1, e2⟩ := Prod.mk.inj hw_13
    subst e1; subst e2
    have hP : va_P g.1 classes [(h0s, .inl (cI g, 64, .inl (fun _ => 0))), (h0, .inr (3, [.ref h0s, .ref h0h])), (h0h, .inl (cI g, 64, .inl (fun _ => 0)))] H := hP
    have hD : va_D A [(h0s, .inl (cI g, 64, .inl (fun _ => 0))), (h0, .inr (3, [.ref h0s, .ref h0h])), (h0h, .inl (cI g, 64, .inl (fun _ => 0)))] := hD
    refine lv_iload_n hx hb dX3_onward_30 rfl (lv_at hl 4 rfl) ?_
    refine lv_icmp_le (tgt := 37) hx hb dX3_onward_31 (by decide) (fun _ => ?_) (fun c_14 => absurd (by decide) c_14)
    refine lv_iload hx hb dX3_onward_37 (lv_at hl 0 rfl) ?_
    exact rI X hK hP hD hS dX3_onward_39 (by rfl) (Nat.le_of_ble_eq_true rfl) (Nat.le_of_ble_eq_true rfl) (by show ((_, _) : Int32 × va_W) = _; unfold sp_X3_onward0; rw [if_neg c_3]; try rfl)
def sp_X3_onward1 (g : GG) (h0 : Nat) (cn : Nat) (h0s : Nat) (h0h : Nat) : Int32 × va_W := if nI (cn % 8) ≤ 0 then ((-9), [(h0, .inr (3, [.ref h0s, .ref h0h])), (h0s, .inl (cI g, 64, .inl (fun _ => 0))), (h0h, .inl (cI g, 64, .inl (fun _ => 0)))]) else (nI (cn - 1), [(h0s, .inl (cI g, 64, .inl (fun _ => 0))), (h0, .inr (3, [.ref h0s, .ref h0h])), (h0h, .inl (cI g, 64, .inl (fun _ => 0)))])
set_option maxHeartbeats 4000000 in
set_option maxRecDepth 100000 in
theorem c_X3_onward1 (l : Launch) (g : GG) (h0 : Nat) (cn : Nat) (h0s : Nat) (h0h : Nat) (hc : cn < 64) : MI l g yX3_onward cX3_onward 5 (some .int) 2 43 0 0 [(h0, .inr (3, [.ref h0s, .ref h0h])), (h0s, .inl (cI g, 64, .inl (fun _ => 0))), (h0h, .inl (cI g, 64, .inl (fun _ => 0)))] [.ref h0, .int (nI cn), .int 1, .int 10] (fun rr_ ww_ => (rr_, ww_) = sp_X3_onward1 g h0 cn h0s h0h) := by
  refine met_of (fun A => va_Qi _ (bW g A) A) (by decide) (Nat.le_of_ble_eq_true rfl) ?_
  intro p e s m below meth c A ls X hK hP hD hA hZ hS hl
  have hx := X.1
  have hb := X.2.1
  have hml := X.2.2.1
  have hown := X.2.2.2.1
  have hts := X.2.2.2.2.1
  have hnm := X.2.2.2.2.2.2.2
  have hl : lv_has ls 5 [(0, .ref h0), (1, .int (nI cn)), (2, .int 1), (3, .int 10)] := hl
  have hn_cn : (nI cn).toInt = (cn : Int) := nI_toInt (by omega)
  refine lv_iload_n hx hb dX3_onward_0 rfl (lv_at hl 1 rfl) ?_
  refine lv_iload_n hx hb dX3_onward_1 rfl (lv_at hl 2 rfl) ?_
  refine kSi (As := [.int (nI cn), .int 1]) (rest := []) (wr := [(h0, .inr (3, [.ref h0s, .ref h0h])), (h0s, .inl (cI g, 64, .inl (fun _ => 0))), (h0h, .inl (cI g, 64, .inl (fun _ => 0)))]) X (c_X3_beside1 l g cn (by first | decide | omega)) ok_X3_beside q_828 q_827 rfl hK hP hD hS hA hZ hl.1 [] [0, 1, 2] rfl rfl rfl rfl rfl rfl (Nat.le_of_ble_eq_true rfl) ⟨Nat.le_of_ble_eq_true rfl, Nat.le_of_ble_eq_true rfl⟩ dX3_onward_2 ⟨Nat.le_of_ble_eq_true rfl, Nat.le_of_ble_eq_true rfl⟩ (fun r_1 w1 H locs hw_2 hP hD hS => ?_)
  rw [sp_X3_beside1] at hw_2
  rcases Classical.em (nI (cn % 8) ≤ 0) with c_3 | c_3
  ·
    have hn_4 : (nI (cn % 8)).toInt = (((cn % 8) : Nat) : Int) := nI_toInt (by omega)
    have m_c_3 : (cn % 8) ≤ 0 := (by simp only [i32lt, i32le, i32eq, Int32.reduceToInt] at c_3; omega)
    rw [if_pos c_3] at hw_2
    obtain ⟨e1, e2⟩ := Prod.mk.inj hw_2
    subst e1; subst e2
    have hP : va_P g.1 classes [(h0, .inr (3, [.ref h0s, .ref h0h])), (h0s, .inl (cI g, 64, .inl (fun _ => 0))), (h0h, .inl (cI g, 64, .inl (fun _ => 0)))] H := hP
    have hD : va_D A [(h0, .inr (3, [.ref h0s, .ref h0h])), (h0s, .inl (cI g, 64, .inl (fun _ => 0))), (h0h, .inl (cI g, 64, .inl (fun _ => 0)))] := hD
    refine lv_istore (lv' := [(4, .int (-9)), (0, .ref h0), (1, .int (nI cn)), (2, .int 1), (3, .int 10)]) hx hb dX3_onward_5 hl (by decide) rfl (fun ls hl => ?_)
    refine lv_iload hx hb dX3_onward_7 (lv_at hl 0 rfl) ?_
    refine lv_bipush (v := (-9)) hx hb dX3_onward_9 (by decide) ?_
    refine lv_icmp_eq (tgt := 34) hx hb dX3_onward_11 (by decide) (fun _ => ?_) (fun c_5 => absurd (by decide) c_5)
    refine lv_bipush (v := (-9)) hx hb dX3_onward_34 (by decide) ?_
    exact rI X hK hP hD hS dX3_onward_36 (by rfl) (Nat.le_of_ble_eq_true rfl) (Nat.le_of_ble_eq_true rfl) (by show ((_, _) : Int32 × va_W) = _; unfold sp_X3_onward1; rw [if_pos c_3]; try rfl)
  ·
    have hn_6 : (nI (cn % 8)).toInt = (((cn % 8) : Nat) : Int) := nI_toInt (by omega)
    have m_c_3 : ¬ ((cn % 8) ≤ 0) := (by simp only [i32lt, i32le, i32eq, Int32.reduceToInt] at c_3; omega)
    rw [if_neg c_3] at hw_2
    obtain ⟨e1, e2⟩ := Prod.mk.inj hw_2
    subst e1; subst e2
    have hn_7 : (nI (cn - 1)).toInt = (((cn - 1) : Nat) : Int) := nI_toInt (by omega)
    have hP : va_P g.1 classes [(h0, .inr (3, [.ref h0s, .ref h0h])), (h0s, .inl (cI g, 64, .inl (fun _ => 0))), (h0h, .inl (cI g, 64, .inl (fun _ => 0)))] H := hP
    have hD : va_D A [(h0, .inr (3, [.ref h0s, .ref h0h])), (h0s, .inl (cI g, 64, .inl (fun _ => 0))), (h0h, .inl (cI g, 64, .inl (fun _ => 0)))] := hD
    refine lv_istore (lv' := [(4, .int (nI (cn - 1))), (0, .ref h0), (1, .int (nI cn)), (2, .int 1), (3, .int 10)]) hx hb dX3_onward_5 hl (by decide) rfl (fun ls hl => ?_)
    refine lv_iload hx hb dX3_onward_7 (lv_at hl 0 rfl) ?_
    refine lv_bipush (v := (-9)) hx hb dX3_onward_9 (by decide) ?_
    refine lv_icmp_eq (tgt := 34) hx hb dX3_onward_11 (by decide) (fun c_8 => absurd c_8 (nI_neN (-9) (by omega) (by decide))) (fun _ => ?_)
    refine lv_aload_n hx hb dX3_onward_14 rfl (lv_at hl 1 rfl) ?_
    refine lv_iload hx hb dX3_onward_15 (lv_at hl 0 rfl) ?_
    refine kVi (As := [.int (nI (cn - 1))]) (rest := []) (wr := [(h0h, .inl (cI g, 64, .inl (fun _ => 0)))]) X (c_X3_isWater l g h0 (nI (cn - 1)) h0s h0h (by simp only [i32lt, i32le, i32eq, Int32.reduceToInt]; omega) (by simp only [i32lt, i32le, i32eq, Int32.reduceToInt]; omega)) ok_X3_isWater okv_X3_isWater q_830 rfl hK hP hD hS hA hZ hl.1 [0, 1] [2] rfl rfl rfl rfl rfl 0 3 rfl rfl rfl (Nat.le_of_ble_eq_true rfl) ⟨Nat.le_of_ble_eq_true rfl, Nat.le_of_ble_eq_true rfl⟩ dX3_onward_17 ⟨Nat.le_of_ble_eq_true rfl, Nat.le_of_ble_eq_true rfl⟩ (fun r_9 w1 H locs hw_10 hP hD hS => ?_)
    rw [sp_X3_isWater] at hw_10
    obtain ⟨e1, e2⟩ := Prod.mk.inj hw_10
    subst e1; subst e2
    have hP : va_P g.1 classes [(h0h, .inl (cI g, 64, .inl (fun _ => 0))), (h0, .inr (3, [.ref h0s, .ref h0h])), (h0s, .inl (cI g, 64, .inl (fun _ => 0)))] H := hP
    have hD : va_D A [(h0h, .inl (cI g, 64, .inl (fun _ => 0))), (h0, .inr (3, [.ref h0s, .ref h0h])), (h0s, .inl (cI g, 64, .inl (fun _ => 0)))] := hD
    refine lv_if_ne (tgt := 34) hx hb dX3_onward_20 (by decide) (fun c_11 => absurd (by decide) c_11) (fun _ => ?_)
    refine lv_aload_n hx hb dX3_onward_23 rfl (lv_at hl 1 rfl) ?_
    refine lv_iload_n hx hb dX3_onward_24 rfl (lv_at hl 2 rfl) ?_
    refine lv_iload hx hb dX3_onward_25 (lv_at hl 0 rfl) ?_
    refine kVi (As := [.int (nI cn), .int (nI (cn - 1))]) (rest := []) (wr := [(h0s, .inl (cI g, 64, .inl (fun _ => 0)))]) X (c_X3_slope l g h0 (nI cn) (nI (cn - 1)) h0s h0h (by simp only [i32lt, i32le, i32eq, Int32.reduceToInt]; omega) (by simp only [i32lt, i32le, i32eq, Int32.reduceToInt]; omega) (by simp only [i32lt, i32le, i32eq, Int32.reduceToInt]; omega) (by simp only [i32lt, i32le, i32eq, Int32.reduceToInt]; omega)) ok_X3_slope okv_X3_slope q_831 rfl hK hP hD hS hA hZ hl.1 [1, 0] [2] rfl rfl rfl rfl rfl 0 3 rfl rfl rfl (Nat.le_of_ble_eq_true rfl) ⟨Nat.le_of_ble_eq_true rfl, Nat.le_of_ble_eq_true rfl⟩ dX3_onward_27 ⟨Nat.le_of_ble_eq_true rfl, Nat.le_of_ble_eq_true rfl⟩ (fun r_12 w1 H locs hw_13 hP hD hS => ?_)
    rw [sp_X3_slope] at hw_13
    obtain ⟨e1, e2⟩ := Prod.mk.inj hw_13
    subst e1; subst e2
    have hP : va_P g.1 classes [(h0s, .inl (cI g, 64, .inl (fun _ => 0))), (h0, .inr (3, [.ref h0s, .ref h0h])), (h0h, .inl (cI g, 64, .inl (fun _ => 0)))] H := hP
    have hD : va_D A [(h0s, .inl (cI g, 64, .inl (fun _ => 0))), (h0, .inr (3, [.ref h0s, .ref h0h])), (h0h, .inl (cI g, 64, .inl (fun _ => 0)))] := hD
    refine lv_iload_n hx hb dX3_onward_30 rfl (lv_at hl 4 rfl) ?_
    refine lv_icmp_le (tgt := 37) hx hb dX3_onward_31 (by decide) (fun _ => ?_) (fun c_14 => absurd (by decide) c_14)
    refine lv_iload hx hb dX3_onward_37 (lv_at hl 0 rfl) ?_
    exact rI X hK hP hD hS dX3_onward_39 (by rfl) (Nat.le_of_ble_eq_true rfl) (Nat.le_of_ble_eq_true rfl) (by show ((_, _) : Int32 × va_W) = _; unfold sp_X3_onward1; rw [if_neg c_3]; try rfl)
def sp_X3_onward2 (g : GG) (h0 : Nat) (cn : Nat) (h0s : Nat) (h0h : Nat) : Int32 × va_W := if 7 ≤ nI (cn % 8) then ((-9), [(h0, .inr (3, [.ref h0s, .ref h0h])), (h0s, .inl (cI g, 64, .inl (fun _ => 0))), (h0h, .inl (cI g, 64, .inl (fun _ => 0)))]) else (nI (cn + 1), [(h0s, .inl (cI g, 64, .inl (fun _ => 0))), (h0, .inr (3, [.ref h0s, .ref h0h])), (h0h, .inl (cI g, 64, .inl (fun _ => 0)))])
set_option maxHeartbeats 4000000 in
set_option maxRecDepth 100000 in
theorem c_X3_onward2 (l : Launch) (g : GG) (h0 : Nat) (cn : Nat) (h0s : Nat) (h0h : Nat) (hc : cn < 64) : MI l g yX3_onward cX3_onward 5 (some .int) 2 43 0 0 [(h0, .inr (3, [.ref h0s, .ref h0h])), (h0s, .inl (cI g, 64, .inl (fun _ => 0))), (h0h, .inl (cI g, 64, .inl (fun _ => 0)))] [.ref h0, .int (nI cn), .int 2, .int 10] (fun rr_ ww_ => (rr_, ww_) = sp_X3_onward2 g h0 cn h0s h0h) := by
  refine met_of (fun A => va_Qi _ (bW g A) A) (by decide) (Nat.le_of_ble_eq_true rfl) ?_
  intro p e s m below meth c A ls X hK hP hD hA hZ hS hl
  have hx := X.1
  have hb := X.2.1
  have hml := X.2.2.1
  have hown := X.2.2.2.1
  have hts := X.2.2.2.2.1
  have hnm := X.2.2.2.2.2.2.2
  have hl : lv_has ls 5 [(0, .ref h0), (1, .int (nI cn)), (2, .int 2), (3, .int 10)] := hl
  have hn_cn : (nI cn).toInt = (cn : Int) := nI_toInt (by omega)
  refine lv_iload_n hx hb dX3_onward_0 rfl (lv_at hl 1 rfl) ?_
  refine lv_iload_n hx hb dX3_onward_1 rfl (lv_at hl 2 rfl) ?_
  refine kSi (As := [.int (nI cn), .int 2]) (rest := []) (wr := [(h0, .inr (3, [.ref h0s, .ref h0h])), (h0s, .inl (cI g, 64, .inl (fun _ => 0))), (h0h, .inl (cI g, 64, .inl (fun _ => 0)))]) X (c_X3_beside2 l g cn (by first | decide | omega)) ok_X3_beside q_828 q_827 rfl hK hP hD hS hA hZ hl.1 [] [0, 1, 2] rfl rfl rfl rfl rfl rfl (Nat.le_of_ble_eq_true rfl) ⟨Nat.le_of_ble_eq_true rfl, Nat.le_of_ble_eq_true rfl⟩ dX3_onward_2 ⟨Nat.le_of_ble_eq_true rfl, Nat.le_of_ble_eq_true rfl⟩ (fun r_1 w1 H locs hw_2 hP hD hS => ?_)
  rw [sp_X3_beside2] at hw_2
  rcases Classical.em (7 ≤ nI (cn % 8)) with c_3 | c_3
  ·
    have hn_4 : (nI (cn % 8)).toInt = (((cn % 8) : Nat) : Int) := nI_toInt (by omega)
    have m_c_3 : 7 ≤ (cn % 8) := (by simp only [i32lt, i32le, i32eq, Int32.reduceToInt] at c_3; omega)
    rw [if_pos c_3] at hw_2
    obtain ⟨e1, e2⟩ := Prod.mk.inj hw_2
    subst e1; subst e2
    have hP : va_P g.1 classes [(h0, .inr (3, [.ref h0s, .ref h0h])), (h0s, .inl (cI g, 64, .inl (fun _ => 0))), (h0h, .inl (cI g, 64, .inl (fun _ => 0)))] H := hP
    have hD : va_D A [(h0, .inr (3, [.ref h0s, .ref h0h])), (h0s, .inl (cI g, 64, .inl (fun _ => 0))), (h0h, .inl (cI g, 64, .inl (fun _ => 0)))] := hD
    refine lv_istore (lv' := [(4, .int (-9)), (0, .ref h0), (1, .int (nI cn)), (2, .int 2), (3, .int 10)]) hx hb dX3_onward_5 hl (by decide) rfl (fun ls hl => ?_)
    refine lv_iload hx hb dX3_onward_7 (lv_at hl 0 rfl) ?_
    refine lv_bipush (v := (-9)) hx hb dX3_onward_9 (by decide) ?_
    refine lv_icmp_eq (tgt := 34) hx hb dX3_onward_11 (by decide) (fun _ => ?_) (fun c_5 => absurd (by decide) c_5)
    refine lv_bipush (v := (-9)) hx hb dX3_onward_34 (by decide) ?_
    exact rI X hK hP hD hS dX3_onward_36 (by rfl) (Nat.le_of_ble_eq_true rfl) (Nat.le_of_ble_eq_true rfl) (by show ((_, _) : Int32 × va_W) = _; unfold sp_X3_onward2; rw [if_pos c_3]; try rfl)
  ·
    have hn_6 : (nI (cn % 8)).toInt = (((cn % 8) : Nat) : Int) := nI_toInt (by omega)
    have m_c_3 : ¬ (7 ≤ (cn % 8)) := (by simp only [i32lt, i32le, i32eq, Int32.reduceToInt] at c_3; omega)
    rw [if_neg c_3] at hw_2
    obtain ⟨e1, e2⟩ := Prod.mk.inj hw_2
    subst e1; subst e2
    have hn_7 : (nI (cn + 1)).toInt = (((cn + 1) : Nat) : Int) := nI_toInt (by omega)
    have hP : va_P g.1 classes [(h0, .inr (3, [.ref h0s, .ref h0h])), (h0s, .inl (cI g, 64, .inl (fun _ => 0))), (h0h, .inl (cI g, 64, .inl (fun _ => 0)))] H := hP
    have hD : va_D A [(h0, .inr (3, [.ref h0s, .ref h0h])), (h0s, .inl (cI g, 64, .inl (fun _ => 0))), (h0h, .inl (cI g, 64, .inl (fun _ => 0)))] := hD
    refine lv_istore (lv' := [(4, .int (nI (cn + 1))), (0, .ref h0), (1, .int (nI cn)), (2, .int 2), (3, .int 10)]) hx hb dX3_onward_5 hl (by decide) rfl (fun ls hl => ?_)
    refine lv_iload hx hb dX3_onward_7 (lv_at hl 0 rfl) ?_
    refine lv_bipush (v := (-9)) hx hb dX3_onward_9 (by decide) ?_
    refine lv_icmp_eq (tgt := 34) hx hb dX3_onward_11 (by decide) (fun c_8 => absurd c_8 (nI_neN (-9) (by omega) (by decide))) (fun _ => ?_)
    refine lv_aload_n hx hb dX3_onward_14 rfl (lv_at hl 1 rfl) ?_
    refine lv_iload hx hb dX3_onward_15 (lv_at hl 0 rfl) ?_
    refine kVi (As := [.int (nI (cn + 1))]) (rest := []) (wr := [(h0h, .inl (cI g, 64, .inl (fun _ => 0)))]) X (c_X3_isWater l g h0 (nI (cn + 1)) h0s h0h (by simp only [i32lt, i32le, i32eq, Int32.reduceToInt]; omega) (by simp only [i32lt, i32le, i32eq, Int32.reduceToInt]; omega)) ok_X3_isWater okv_X3_isWater q_830 rfl hK hP hD hS hA hZ hl.1 [0, 1] [2] rfl rfl rfl rfl rfl 0 3 rfl rfl rfl (Nat.le_of_ble_eq_true rfl) ⟨Nat.le_of_ble_eq_true rfl, Nat.le_of_ble_eq_true rfl⟩ dX3_onward_17 ⟨Nat.le_of_ble_eq_true rfl, Nat.le_of_ble_eq_true rfl⟩ (fun r_9 w1 H locs hw_10 hP hD hS => ?_)
    rw [sp_X3_isWater] at hw_10
    obtain ⟨e1, e2⟩ := Prod.mk.inj hw_10
    subst e1; subst e2
    have hP : va_P g.1 classes [(h0h, .inl (cI g, 64, .inl (fun _ => 0))), (h0, .inr (3, [.ref h0s, .ref h0h])), (h0s, .inl (cI g, 64, .inl (fun _ => 0)))] H := hP
    have hD : va_D A [(h0h, .inl (cI g, 64, .inl (fun _ => 0))), (h0, .inr (3, [.ref h0s, .ref h0h])), (h0s, .inl (cI g, 64, .inl (fun _ => 0)))] := hD
    refine lv_if_ne (tgt := 34) hx hb dX3_onward_20 (by decide) (fun c_11 => absurd (by decide) c_11) (fun _ => ?_)
    refine lv_aload_n hx hb dX3_onward_23 rfl (lv_at hl 1 rfl) ?_
    refine lv_iload_n hx hb dX3_onward_24 rfl (lv_at hl 2 rfl) ?_
    refine lv_iload hx hb dX3_onward_25 (lv_at hl 0 rfl) ?_
    refine kVi (As := [.int (nI cn), .int (nI (cn + 1))]) (rest := []) (wr := [(h0s, .inl (cI g, 64, .inl (fun _ => 0)))]) X (c_X3_slope l g h0 (nI cn) (nI (cn + 1)) h0s h0h (by simp only [i32lt, i32le, i32eq, Int32.reduceToInt]; omega) (by simp only [i32lt, i32le, i32eq, Int32.reduceToInt]; omega) (by simp only [i32lt, i32le, i32eq, Int32.reduceToInt]; omega) (by simp only [i32lt, i32le, i32eq, Int32.reduceToInt]; omega)) ok_X3_slope okv_X3_slope q_831 rfl hK hP hD hS hA hZ hl.1 [1, 0] [2] rfl rfl rfl rfl rfl 0 3 rfl rfl rfl (Nat.le_of_ble_eq_true rfl) ⟨Nat.le_of_ble_eq_true rfl, Nat.le_of_ble_eq_true rfl⟩ dX3_onward_27 ⟨Nat.le_of_ble_eq_true rfl, Nat.le_of_ble_eq_true rfl⟩ (fun r_12 w1 H locs hw_13 hP hD hS => ?_)
    rw [sp_X3_slope] at hw_13
    obtain ⟨e1, e2⟩ := Prod.mk.inj hw_13
    subst e1; subst e2
    have hP : va_P g.1 classes [(h0s, .inl (cI g, 64, .inl (fun _ => 0))), (h0, .inr (3, [.ref h0s, .ref h0h])), (h0h, .inl (cI g, 64, .inl (fun _ => 0)))] H := hP
    have hD : va_D A [(h0s, .inl (cI g, 64, .inl (fun _ => 0))), (h0, .inr (3, [.ref h0s, .ref h0h])), (h0h, .inl (cI g, 64, .inl (fun _ => 0)))] := hD
    refine lv_iload_n hx hb dX3_onward_30 rfl (lv_at hl 4 rfl) ?_
    refine lv_icmp_le (tgt := 37) hx hb dX3_onward_31 (by decide) (fun _ => ?_) (fun c_14 => absurd (by decide) c_14)
    refine lv_iload hx hb dX3_onward_37 (lv_at hl 0 rfl) ?_
    exact rI X hK hP hD hS dX3_onward_39 (by rfl) (Nat.le_of_ble_eq_true rfl) (Nat.le_of_ble_eq_true rfl) (by show ((_, _) : Int32 × va_W) = _; unfold sp_X3_onward2; rw [if_neg c_3]; try rfl)
def sp_X3_onward3 (g : GG) (h0 : Nat) (cn : Nat) (h0s : Nat) (h0h : Nat) : Int32 × va_W := if 56 ≤ nI cn then ((-9), [(h0, .inr (3, [.ref h0s, .ref h0h])), (h0s, .inl (cI g, 64, .inl (fun _ => 0))), (h0h, .inl (cI g, 64, .inl (fun _ => 0)))]) else (nI (cn + 8), [(h0s, .inl (cI g, 64, .inl (fun _ => 0))), (h0, .inr (3, [.ref h0s, .ref h0h])), (h0h, .inl (cI g, 64, .inl (fun _ => 0)))])
set_option maxHeartbeats 4000000 in
set_option maxRecDepth 100000 in
theorem c_X3_onward3 (l : Launch) (g : GG) (h0 : Nat) (cn : Nat) (h0s : Nat) (h0h : Nat) (hc : cn < 64) : MI l g yX3_onward cX3_onward 5 (some .int) 2 43 0 0 [(h0, .inr (3, [.ref h0s, .ref h0h])), (h0s, .inl (cI g, 64, .inl (fun _ => 0))), (h0h, .inl (cI g, 64, .inl (fun _ => 0)))] [.ref h0, .int (nI cn), .int 3, .int 10] (fun rr_ ww_ => (rr_, ww_) = sp_X3_onward3 g h0 cn h0s h0h) := by
  refine met_of (fun A => va_Qi _ (bW g A) A) (by decide) (Nat.le_of_ble_eq_true rfl) ?_
  intro p e s m below meth c A ls X hK hP hD hA hZ hS hl
  have hx := X.1
  have hb := X.2.1
  have hml := X.2.2.1
  have hown := X.2.2.2.1
  have hts := X.2.2.2.2.1
  have hnm := X.2.2.2.2.2.2.2
  have hl : lv_has ls 5 [(0, .ref h0), (1, .int (nI cn)), (2, .int 3), (3, .int 10)] := hl
  have hn_cn : (nI cn).toInt = (cn : Int) := nI_toInt (by omega)
  refine lv_iload_n hx hb dX3_onward_0 rfl (lv_at hl 1 rfl) ?_
  refine lv_iload_n hx hb dX3_onward_1 rfl (lv_at hl 2 rfl) ?_
  refine kSi (As := [.int (nI cn), .int 3]) (rest := []) (wr := [(h0, .inr (3, [.ref h0s, .ref h0h])), (h0s, .inl (cI g, 64, .inl (fun _ => 0))), (h0h, .inl (cI g, 64, .inl (fun _ => 0)))]) X (c_X3_beside3 l g cn (by first | decide | omega)) ok_X3_beside q_828 q_827 rfl hK hP hD hS hA hZ hl.1 [] [0, 1, 2] rfl rfl rfl rfl rfl rfl (Nat.le_of_ble_eq_true rfl) ⟨Nat.le_of_ble_eq_true rfl, Nat.le_of_ble_eq_true rfl⟩ dX3_onward_2 ⟨Nat.le_of_ble_eq_true rfl, Nat.le_of_ble_eq_true rfl⟩ (fun r_1 w1 H locs hw_2 hP hD hS => ?_)
  rw [sp_X3_beside3] at hw_2
  rcases Classical.em (56 ≤ nI cn) with c_3 | c_3
  ·
    have hn_4 : (nI cn).toInt = ((cn : Nat) : Int) := nI_toInt (by omega)
    have m_c_3 : 56 ≤ cn := (by simp only [i32lt, i32le, i32eq, Int32.reduceToInt] at c_3; omega)
    rw [if_pos c_3] at hw_2
    obtain ⟨e1, e2⟩ := Prod.mk.inj hw_2
    subst e1; subst e2
    have hP : va_P g.1 classes [(h0, .inr (3, [.ref h0s, .ref h0h])), (h0s, .inl (cI g, 64, .inl (fun _ => 0))), (h0h, .inl (cI g, 64, .inl (fun _ => 0)))] H := hP
    have hD : va_D A [(h0, .inr (3, [.ref h0s, .ref h0h])), (h0s, .inl (cI g, 64, .inl (fun _ => 0))), (h0h, .inl (cI g, 64, .inl (fun _ => 0)))] := hD
    refine lv_istore (lv' := [(4, .int (-9)), (0, .ref h0), (1, .int (nI cn)), (2, .int 3), (3, .int 10)]) hx hb dX3_onward_5 hl (by decide) rfl (fun ls hl => ?_)
    refine lv_iload hx hb dX3_onward_7 (lv_at hl 0 rfl) ?_
    refine lv_bipush (v := (-9)) hx hb dX3_onward_9 (by decide) ?_
    refine lv_icmp_eq (tgt := 34) hx hb dX3_onward_11 (by decide) (fun _ => ?_) (fun c_5 => absurd (by decide) c_5)
    refine lv_bipush (v := (-9)) hx hb dX3_onward_34 (by decide) ?_
    exact rI X hK hP hD hS dX3_onward_36 (by rfl) (Nat.le_of_ble_eq_true rfl) (Nat.le_of_ble_eq_true rfl) (by show ((_, _) : Int32 × va_W) = _; unfold sp_X3_onward3; rw [if_pos c_3]; try rfl)
  ·
    have hn_6 : (nI cn).toInt = ((cn : Nat) : Int) := nI_toInt (by omega)
    have m_c_3 : ¬ (56 ≤ cn) := (by simp only [i32lt, i32le, i32eq, Int32.reduceToInt] at c_3; omega)
    rw [if_neg c_3] at hw_2
    obtain ⟨e1, e2⟩ := Prod.mk.inj hw_2
    subst e1; subst e2
    have hn_7 : (nI (cn + 8)).toInt = (((cn + 8) : Nat) : Int) := nI_toInt (by omega)
    have hP : va_P g.1 classes [(h0, .inr (3, [.ref h0s, .ref h0h])), (h0s, .inl (cI g, 64, .inl (fun _ => 0))), (h0h, .inl (cI g, 64, .inl (fun _ => 0)))] H := hP
    have hD : va_D A [(h0, .inr (3, [.ref h0s, .ref h0h])), (h0s, .inl (cI g, 64, .inl (fun _ => 0))), (h0h, .inl (cI g, 64, .inl (fun _ => 0)))] := hD
    refine lv_istore (lv' := [(4, .int (nI (cn + 8))), (0, .ref h0), (1, .int (nI cn)), (2, .int 3), (3, .int 10)]) hx hb dX3_onward_5 hl (by decide) rfl (fun ls hl => ?_)
    refine lv_iload hx hb dX3_onward_7 (lv_at hl 0 rfl) ?_
    refine lv_bipush (v := (-9)) hx hb dX3_onward_9 (by decide) ?_
    refine lv_icmp_eq (tgt := 34) hx hb dX3_onward_11 (by decide) (fun c_8 => absurd c_8 (nI_neN (-9) (by omega) (by decide))) (fun _ => ?_)
    refine lv_aload_n hx hb dX3_onward_14 rfl (lv_at hl 1 rfl) ?_
    refine lv_iload hx hb dX3_onward_15 (lv_at hl 0 rfl) ?_
    refine kVi (As := [.int (nI (cn + 8))]) (rest := []) (wr := [(h0h, .inl (cI g, 64, .inl (fun _ => 0)))]) X (c_X3_isWater l g h0 (nI (cn + 8)) h0s h0h (by simp only [i32lt, i32le, i32eq, Int32.reduceToInt]; omega) (by simp only [i32lt, i32le, i32eq, Int32.reduceToInt]; omega)) ok_X3_isWater okv_X3_isWater q_830 rfl hK hP hD hS hA hZ hl.1 [0, 1] [2] rfl rfl rfl rfl rfl 0 3 rfl rfl rfl (Nat.le_of_ble_eq_true rfl) ⟨Nat.le_of_ble_eq_true rfl, Nat.le_of_ble_eq_true rfl⟩ dX3_onward_17 ⟨Nat.le_of_ble_eq_true rfl, Nat.le_of_ble_eq_true rfl⟩ (fun r_9 w1 H locs hw_10 hP hD hS => ?_)
    rw [sp_X3_isWater] at hw_10
    obtain ⟨e1, e2⟩ := Prod.mk.inj hw_10
    subst e1; subst e2
    have hP : va_P g.1 classes [(h0h, .inl (cI g, 64, .inl (fun _ => 0))), (h0, .inr (3, [.ref h0s, .ref h0h])), (h0s, .inl (cI g, 64, .inl (fun _ => 0)))] H := hP
    have hD : va_D A [(h0h, .inl (cI g, 64, .inl (fun _ => 0))), (h0, .inr (3, [.ref h0s, .ref h0h])), (h0s, .inl (cI g, 64, .inl (fun _ => 0)))] := hD
    refine lv_if_ne (tgt := 34) hx hb dX3_onward_20 (by decide) (fun c_11 => absurd (by decide) c_11) (fun _ => ?_)
    refine lv_aload_n hx hb dX3_onward_23 rfl (lv_at hl 1 rfl) ?_
    refine lv_iload_n hx hb dX3_onward_24 rfl (lv_at hl 2 rfl) ?_
    refine lv_iload hx hb dX3_onward_25 (lv_at hl 0 rfl) ?_
    refine kVi (As := [.int (nI cn), .int (nI (cn + 8))]) (rest := []) (wr := [(h0s, .inl (cI g, 64, .inl (fun _ => 0)))]) X (c_X3_slope l g h0 (nI cn) (nI (cn + 8)) h0s h0h (by simp only [i32lt, i32le, i32eq, Int32.reduceToInt] at c_3 ⊢; omega) (by simp only [i32lt, i32le, i32eq, Int32.reduceToInt] at c_3 ⊢; omega) (by simp only [i32lt, i32le, i32eq, Int32.reduceToInt]; omega) (by simp only [i32lt, i32le, i32eq, Int32.reduceToInt]; omega)) ok_X3_slope okv_X3_slope q_831 rfl hK hP hD hS hA hZ hl.1 [1, 0] [2] rfl rfl rfl rfl rfl 0 3 rfl rfl rfl (Nat.le_of_ble_eq_true rfl) ⟨Nat.le_of_ble_eq_true rfl, Nat.le_of_ble_eq_true rfl⟩ dX3_onward_27 ⟨Nat.le_of_ble_eq_true rfl, Nat.le_of_ble_eq_true rfl⟩ (fun r_12 w1 H locs hw_13 hP hD hS => ?_)
    rw [sp_X3_slope] at hw_13
    obtain ⟨e1, e2⟩ := Prod.mk.inj hw_13
    subst e1; subst e2
    have hP : va_P g.1 classes [(h0s, .inl (cI g, 64, .inl (fun _ => 0))), (h0, .inr (3, [.ref h0s, .ref h0h])), (h0h, .inl (cI g, 64, .inl (fun _ => 0)))] H := hP
    have hD : va_D A [(h0s, .inl (cI g, 64, .inl (fun _ => 0))), (h0, .inr (3, [.ref h0s, .ref h0h])), (h0h, .inl (cI g, 64, .inl (fun _ => 0)))] := hD
    refine lv_iload_n hx hb dX3_onward_30 rfl (lv_at hl 4 rfl) ?_
    refine lv_icmp_le (tgt := 37) hx hb dX3_onward_31 (by decide) (fun _ => ?_) (fun c_14 => absurd (by decide) c_14)
    refine lv_iload hx hb dX3_onward_37 (lv_at hl 0 rfl) ?_
    exact rI X hK hP hD hS dX3_onward_39 (by rfl) (Nat.le_of_ble_eq_true rfl) (Nat.le_of_ble_eq_true rfl) (by show ((_, _) : Int32 × va_W) = _; unfold sp_X3_onward3; rw [if_neg c_3]; try rfl)
def sp_X9_survey (g : GG) (h0 : Nat) (h1 : Nat) (h0a0 : Nat) (h0a1 : Nat) (h0a2 : Nat) (h0a3 : Nat) (h0a4 : Nat) (h1s : Nat) (h1h : Nat) : va_W := [(h0, .inr (9, [.ref h0a0, .ref h0a1, .ref h0a2, .ref h0a3, .ref h0a4, .int 0])), (h0a0, .inl (cJ g, 4, .inr (.inl opF))), (h1, .inr (3, [.ref h1s, .ref h1h])), (h1s, .inl (cI g, 64, .inl (fun _ => 0))), (h1h, .inl (cI g, 64, .inl (fun _ => 0)))]
set_option maxHeartbeats 4000000 in
set_option maxRecDepth 100000 in
theorem c_X9_survey (l : Launch) (g : GG) (h0 : Nat) (h1 : Nat) (h0a0 : Nat) (h0a1 : Nat) (h0a2 : Nat) (h0a3 : Nat) (h0a4 : Nat) (h1s : Nat) (h1h : Nat) : MV l g yX9_survey cX9_survey 5 3 67 0 0 [(h0, .inr (9, [.ref h0a0, .ref h0a1, .ref h0a2, .ref h0a3, .ref h0a4, .int 0])), (h0a0, .inl (cJ g, 4, .inr (.inl (fun _ => 0)))), (h1, .inr (3, [.ref h1s, .ref h1h])), (h1s, .inl (cI g, 64, .inl (fun _ => 0))), (h1h, .inl (cI g, 64, .inl (fun _ => 0)))] [.ref h0, .ref h1, .int 10] (fun ww_ => ww_ = sp_X9_survey g h0 h1 h0a0 h0a1 h0a2 h0a3 h0a4 h1s h1h) := by
  refine met_of (fun A => va_Qv _ (bW g A) A) (by decide) (Nat.le_of_ble_eq_true rfl) ?_
  intro p e s m below meth c A ls X hK hP hD hA hZ hS hl
  have hx := X.1
  have hb := X.2.1
  have hml := X.2.2.1
  have hown := X.2.2.2.1
  have hts := X.2.2.2.2.1
  have hnm := X.2.2.2.2.2.2.2
  have hl : lv_has ls 5 [(0, .ref h0), (1, .ref h1), (2, .int 10)] := hl
  refine lv_iconst (v := 0) hx hb dX9_survey_0 (by decide) ?_
  refine lv_istore_n (lv' := [(3, .int 0), (0, .ref h0), (1, .ref h1), (2, .int 10)]) hx hb dX9_survey_1 rfl hl (by decide) rfl (fun ls hl => ?_)
  refine lv_iload_n hx hb dX9_survey_2 rfl (lv_at hl 0 rfl) ?_
  refine lv_iconst (v := 4) hx hb dX9_survey_3 (by decide) ?_
  refine lv_icmp_ge (tgt := 63) hx hb dX9_survey_4 (by decide) (fun c_1 => absurd c_1 (by decide)) (fun _ => ?_)
  refine lv_aload_n hx hb dX9_survey_7 rfl (lv_at hl 1 rfl) ?_
  refine va_get (D := g.1) (ci := 9) (v := .ref h0a0) (C := RX9) (T := TX9) (N := 6) hx hb hts fw_X9 hown hK hP 0 rfl rfl 0 (by decide) (hts _ q_439) (fun _ h9 => h9) rfl dX9_survey_8 ?_
  refine lv_iload_n hx hb dX9_survey_11 rfl (lv_at hl 0 rfl) ?_
  refine lv_lconst (v := 0) hx hb dX9_survey_12 (by decide) ?_
  refine va_last hx hb hK hP hD hS 1 1 rfl rfl (by unfold vp_in; decide) dX9_survey_13 (fun H locs hP hD hS => ?_)
  have hP : va_P g.1 classes [(h0, .inr (9, [.ref h0a0, .ref h0a1, .ref h0a2, .ref h0a3, .ref h0a4, .int 0])), (h0a0, .inl (cJ g, 4, .inr (.inl (vp_updL (fun _ => 0) 0 0)))), (h1, .inr (3, [.ref h1s, .ref h1h])), (h1s, .inl (cI g, 64, .inl (fun _ => 0))), (h1h, .inl (cI g, 64, .inl (fun _ => 0)))] H := hP
  have hD : va_D A [(h0, .inr (9, [.ref h0a0, .ref h0a1, .ref h0a2, .ref h0a3, .ref h0a4, .int 0])), (h0a0, .inl (cJ g, 4, .inr (.inl (vp_updL (fun _ => 0) 0 0)))), (h1, .inr (3, [.ref h1s, .ref h1h])), (h1s, .inl (cI g, 64, .inl (fun _ => 0))), (h1h, .inl (cI g, 64, .inl (fun _ => 0)))] := hD
  refine lv_iconst (v := 0) hx hb dX9_survey_14 (by decide) ?_
  refine lv_istore (lv' := [(4, .int 0), (3, .int 0), (0, .ref h0), (1, .ref h1), (2, .int 10)]) hx hb dX9_survey_15 hl (by decide) rfl (fun ls hl => ?_)
  rw [show vp_updL (fun _ => 0) 0 0 = opw 0 0 from opw00] at hP hD
  refine loopK 64 (fun k H locs ls => va_P g.1 classes [(h0, .inr (9, [.ref h0a0, .ref h0a1, .ref h0a2, .ref h0a3, .ref h0a4, .int 0])), (h0a0, .inl (cJ g, 4, .inr (.inl (opw 0 k)))), (h1, .inr (3, [.ref h1s, .ref h1h])), (h1s, .inl (cI g, 64, .inl (fun _ => 0))), (h1h, .inl (cI g, 64, .inl (fun _ => 0)))] H ∧ va_D A [(h0, .inr (9, [.ref h0a0, .ref h0a1, .ref h0a2, .ref h0a3, .ref h0a4, .int 0])), (h0a0, .inl (cJ g, 4, .inr (.inl (opw 0 k)))), (h1, .inr (3, [.ref h1s, .ref h1h])), (h1s, .inl (cI g, 64, .inl (fun _ => 0))), (h1h, .inl (cI g, 64, .inl (fun _ => 0)))] ∧ va_S A s.heap H locs ∧ lv_has ls 5 [(4, .int (nI k)), (3, .int 0), (0, .ref h0), (1, .ref h1), (2, .int 10)]) (Wg := fun H locs ls => W p l e _ s m _ below meth c H locs _ _ _ (F0 m 17 ls [])) ?_ ?_ _ _ _ ⟨hP, hD, hS, lv_sub hl [0, 1, 2, 3, 4] rfl⟩
  · intro k hk_k ih H locs ls hI
    obtain ⟨hP, hD, hS, hl⟩ := hI
    have hn_k : (nI k).toInt = (k : Int) := nI_toInt (by omega)
    refine lv_iload hx hb dX9_survey_17 (lv_at hl 0 rfl) ?_
    refine lv_bipush (v := 64) hx hb dX9_survey_19 (by decide) ?_
    refine lv_icmp_ge (tgt := 57) hx hb dX9_survey_21 (by decide) (fun c_2 => (by simp only [i32lt, i32le, i32eq, Int32.reduceToInt] at c_2; omega : False).elim) (fun _ => ?_)
    refine lv_aload_n hx hb dX9_survey_24 rfl (lv_at hl 3 rfl) ?_
    refine lv_iload hx hb dX9_survey_25 (lv_at hl 0 rfl) ?_
    refine lv_iload_n hx hb dX9_survey_27 rfl (lv_at hl 1 rfl) ?_
    refine lv_iload_n hx hb dX9_survey_28 rfl (lv_at hl 4 rfl) ?_
    refine kVi (As := [.int (nI k), .int 0, .int 10]) (rest := []) (wr := [(h0, .inr (9, [.ref h0a0, .ref h0a1, .ref h0a2, .ref h0a3, .ref h0a4, .int 0])), (h0a0, .inl (cJ g, 4, .inr (.inl (opw 0 k))))]) X (c_X3_onward0 l g h1 k h1s h1h (by first | decide | omega)) ok_X3_onward okv_X3_onward q_1327 rfl hK hP hD hS hA hZ hl.1 [2, 3, 4] [0, 1] rfl rfl rfl rfl rfl 0 3 rfl rfl rfl (Nat.le_of_ble_eq_true rfl) ⟨Nat.le_of_ble_eq_true rfl, Nat.le_of_ble_eq_true rfl⟩ dX9_survey_29 ⟨Nat.le_of_ble_eq_true rfl, Nat.le_of_ble_eq_true rfl⟩ (fun r_3 w1 H locs hw_4 hP hD hS => ?_)
    rw [sp_X3_onward0] at hw_4
    rcases Classical.em (nI k < 8) with c_5 | c_5
    ·
      have hn_6 : (nI k).toInt = ((k : Nat) : Int) := nI_toInt (by omega)
      have m_c_5 : k < 8 := (by simp only [i32lt, i32le, i32eq, Int32.reduceToInt] at c_5; omega)
      rw [if_pos c_5] at hw_4
      obtain ⟨e1, e2⟩ := Prod.mk.inj hw_4
      subst e1; subst e2
      have hP : va_P g.1 classes [(h0, .inr (9, [.ref h0a0, .ref h0a1, .ref h0a2, .ref h0a3, .ref h0a4, .int 0])), (h0a0, .inl (cJ g, 4, .inr (.inl (opw 0 k)))), (h1, .inr (3, [.ref h1s, .ref h1h])), (h1s, .inl (cI g, 64, .inl (fun _ => 0))), (h1h, .inl (cI g, 64, .inl (fun _ => 0)))] H := hP
      have hD : va_D A [(h0, .inr (9, [.ref h0a0, .ref h0a1, .ref h0a2, .ref h0a3, .ref h0a4, .int 0])), (h0a0, .inl (cJ g, 4, .inr (.inl (opw 0 k)))), (h1, .inr (3, [.ref h1s, .ref h1h])), (h1s, .inl (cI g, 64, .inl (fun _ => 0))), (h1h, .inl (cI g, 64, .inl (fun _ => 0)))] := hD
      refine lv_bipush (v := (-9)) hx hb dX9_survey_32 (by decide) ?_
      refine lv_icmp_eq (tgt := 51) hx hb dX9_survey_34 (by decide) (fun _ => ?_) (fun c_7 => absurd (by decide) c_7)
      refine lv_iinc (v := nI (k + 1)) (lv' := [(4, .int (nI (k + 1))), (3, .int 0), (0, .ref h0), (1, .ref h1), (2, .int 10)]) hx hb dX9_survey_51 hl (k := 0) rfl (nI_1 _) (by decide) rfl (fun ls hl => ?_)
      refine lv_goto (tgt := 17) hx hb dX9_survey_54 (by decide) ?_
      rw [opwK 0 k (by simp only [okw, decide_eq_false_iff_not]; omega)] at hP hD
      exact ih _ _ _ ⟨hP, hD, hS, lv_sub hl [0, 1, 2, 3, 4] rfl⟩
    ·
      have hn_8 : (nI k).toInt = ((k : Nat) : Int) := nI_toInt (by omega)
      have m_c_5 : ¬ (k < 8) := (by simp only [i32lt, i32le, i32eq, Int32.reduceToInt] at c_5; omega)
      rw [if_neg c_5] at hw_4
      obtain ⟨e1, e2⟩ := Prod.mk.inj hw_4
      subst e1; subst e2
      have hn_9 : (nI (k - 8)).toInt = (((k - 8) : Nat) : Int) := nI_toInt (by omega)
      have hP : va_P g.1 classes [(h0, .inr (9, [.ref h0a0, .ref h0a1, .ref h0a2, .ref h0a3, .ref h0a4, .int 0])), (h0a0, .inl (cJ g, 4, .inr (.inl (opw 0 k)))), (h1s, .inl (cI g, 64, .inl (fun _ => 0))), (h1, .inr (3, [.ref h1s, .ref h1h])), (h1h, .inl (cI g, 64, .inl (fun _ => 0)))] H := hP
      have hD : va_D A [(h0, .inr (9, [.ref h0a0, .ref h0a1, .ref h0a2, .ref h0a3, .ref h0a4, .int 0])), (h0a0, .inl (cJ g, 4, .inr (.inl (opw 0 k)))), (h1s, .inl (cI g, 64, .inl (fun _ => 0))), (h1, .inr (3, [.ref h1s, .ref h1h])), (h1h, .inl (cI g, 64, .inl (fun _ => 0)))] := hD
      refine lv_bipush (v := (-9)) hx hb dX9_survey_32 (by decide) ?_
      refine lv_icmp_eq (tgt := 51) hx hb dX9_survey_34 (by decide) (fun c_10 => absurd c_10 (nI_neN (-9) (by omega) (by decide))) (fun _ => ?_)
      refine lv_aload_n hx hb dX9_survey_37 rfl (lv_at hl 2 rfl) ?_
      refine va_get (D := g.1) (ci := 9) (v := .ref h0a0) (C := RX9) (T := TX9) (N := 6) hx hb hts fw_X9 hown hK hP 0 rfl rfl 0 (by decide) (hts _ q_439) (fun _ h9 => h9) rfl dX9_survey_38 ?_
      refine lv_iload_n hx hb dX9_survey_41 rfl (lv_at hl 1 rfl) ?_
      refine lv_dup2_11 hx hb dX9_survey_42 rfl rfl ?_
      refine va_lald hx hb hK hP 1 1 rfl rfl (by unfold vp_in; decide) dX9_survey_43 ?_
      refine lv_topkl (v := (opw 0 k) 0) rfl ?_
      refine lv_iload hx hb dX9_survey_44 (lv_at hl 0 rfl) ?_
      refine kSl (As := [.int (nI k)]) (rest := [.long ((opw 0 k) 0), .int 0, .ref h0a0]) (wr := [(h0, .inr (9, [.ref h0a0, .ref h0a1, .ref h0a2, .ref h0a3, .ref h0a4, .int 0])), (h0a0, .inl (cJ g, 4, .inr (.inl (opw 0 k)))), (h1s, .inl (cI g, 64, .inl (fun _ => 0))), (h1, .inr (3, [.ref h1s, .ref h1h])), (h1h, .inl (cI g, 64, .inl (fun _ => 0)))]) X (c_X3_bit l g (nI k)) ok_X3_bit q_842 q_1328 rfl hK hP hD hS hA hZ hl.1 [] [0, 1, 2, 3, 4] rfl rfl rfl rfl rfl rfl (Nat.le_of_ble_eq_true rfl) ⟨Nat.le_of_ble_eq_true rfl, Nat.le_of_ble_eq_true rfl⟩ dX9_survey_46 ⟨Nat.le_of_ble_eq_true rfl, Nat.le_of_ble_eq_true rfl⟩ (fun r_11 w1 H locs hw_12 hP hD hS => ?_)
      rw [sp_X3_bit] at hw_12
      obtain ⟨e1, e2⟩ := Prod.mk.inj hw_12
      subst e1; subst e2
      have hP : va_P g.1 classes [(h0, .inr (9, [.ref h0a0, .ref h0a1, .ref h0a2, .ref h0a3, .ref h0a4, .int 0])), (h0a0, .inl (cJ g, 4, .inr (.inl (opw 0 k)))), (h1s, .inl (cI g, 64, .inl (fun _ => 0))), (h1, .inr (3, [.ref h1s, .ref h1h])), (h1h, .inl (cI g, 64, .inl (fun _ => 0)))] H := hP
      have hD : va_D A [(h0, .inr (9, [.ref h0a0, .ref h0a1, .ref h0a2, .ref h0a3, .ref h0a4, .int 0])), (h0a0, .inl (cJ g, 4, .inr (.inl (opw 0 k)))), (h1s, .inl (cI g, 64, .inl (fun _ => 0))), (h1, .inr (3, [.ref h1s, .ref h1h])), (h1h, .inl (cI g, 64, .inl (fun _ => 0)))] := hD
      refine lv_lor hx hb dX9_survey_49 ?_
      refine va_last hx hb hK hP hD hS 1 1 rfl rfl (by unfold vp_in; decide) dX9_survey_50 (fun H locs hP hD hS => ?_)
      have hP : va_P g.1 classes [(h0, .inr (9, [.ref h0a0, .ref h0a1, .ref h0a2, .ref h0a3, .ref h0a4, .int 0])), (h0a0, .inl (cJ g, 4, .inr (.inl (vp_updL (opw 0 k) 0 (((opw 0 k) 0) ||| (jshl 1 (nI k))))))), (h1s, .inl (cI g, 64, .inl (fun _ => 0))), (h1, .inr (3, [.ref h1s, .ref h1h])), (h1h, .inl (cI g, 64, .inl (fun _ => 0)))] H := hP
      have hD : va_D A [(h0, .inr (9, [.ref h0a0, .ref h0a1, .ref h0a2, .ref h0a3, .ref h0a4, .int 0])), (h0a0, .inl (cJ g, 4, .inr (.inl (vp_updL (opw 0 k) 0 (((opw 0 k) 0) ||| (jshl 1 (nI k))))))), (h1s, .inl (cI g, 64, .inl (fun _ => 0))), (h1, .inr (3, [.ref h1s, .ref h1h])), (h1h, .inl (cI g, 64, .inl (fun _ => 0)))] := hD
      refine lv_iinc (v := nI (k + 1)) (lv' := [(4, .int (nI (k + 1))), (3, .int 0), (0, .ref h0), (1, .ref h1), (2, .int 10)]) hx hb dX9_survey_51 hl (k := 0) rfl (nI_1 _) (by decide) rfl (fun ls hl => ?_)
      refine lv_goto (tgt := 17) hx hb dX9_survey_54 (by decide) ?_
      rw [opwS 0 k (by simp only [okw, decide_eq_true_eq]; omega)] at hP hD
      have hP := pSub hP (ws' := [(h0, .inr (9, [.ref h0a0, .ref h0a1, .ref h0a2, .ref h0a3, .ref h0a4, .int 0])), (h0a0, .inl (cJ g, 4, .inr (.inl (opw 0 (k + 1))))), (h1, .inr (3, [.ref h1s, .ref h1h])), (h1s, .inl (cI g, 64, .inl (fun _ => 0))), (h1h, .inl (cI g, 64, .inl (fun _ => 0)))]) [0, 1, 3, 2, 4] rfl
      have hD := hD.sub (ws' := [(h0, .inr (9, [.ref h0a0, .ref h0a1, .ref h0a2, .ref h0a3, .ref h0a4, .int 0])), (h0a0, .inl (cJ g, 4, .inr (.inl (opw 0 (k + 1))))), (h1, .inr (3, [.ref h1s, .ref h1h])), (h1s, .inl (cI g, 64, .inl (fun _ => 0))), (h1h, .inl (cI g, 64, .inl (fun _ => 0)))]) [0, 1, 3, 2, 4] rfl rfl
      exact ih _ _ _ ⟨hP, hD, hS, lv_sub hl [0, 1, 2, 3, 4] rfl⟩
  · intro H locs ls hI
    obtain ⟨hP, hD, hS, hl⟩ := hI
    refine lv_iload hx hb dX9_survey_17 (lv_at hl 0 rfl) ?_
    refine lv_bipush (v := 64) hx hb dX9_survey_19 (by decide) ?_
    refine lv_icmp_ge (tgt := 57) hx hb dX9_survey_21 (by decide) (fun _ => ?_) (fun c_13 => absurd (by decide) c_13)
    refine lv_iinc (v := 1) (lv' := [(3, .int 1), (4, .int (nI 64)), (0, .ref h0), (1, .ref h1), (2, .int 10)]) hx hb dX9_survey_57 hl (k := 1) rfl (by decide) (by decide) rfl (fun ls hl => ?_)
    refine lv_goto (tgt := 2) hx hb dX9_survey_60 (by decide) ?_
    refine lv_iload_n hx hb dX9_survey_2 rfl (lv_at hl 0 rfl) ?_
    refine lv_iconst (v := 4) hx hb dX9_survey_3 (by decide) ?_
    refine lv_icmp_ge (tgt := 63) hx hb dX9_survey_4 (by decide) (fun c_14 => absurd c_14 (by decide)) (fun _ => ?_)
    refine lv_aload_n hx hb dX9_survey_7 rfl (lv_at hl 2 rfl) ?_
    refine va_get (D := g.1) (ci := 9) (v := .ref h0a0) (C := RX9) (T := TX9) (N := 6) hx hb hts fw_X9 hown hK hP 0 rfl rfl 0 (by decide) (hts _ q_439) (fun _ h9 => h9) rfl dX9_survey_8 ?_
    refine lv_iload_n hx hb dX9_survey_11 rfl (lv_at hl 0 rfl) ?_
    refine lv_lconst (v := 0) hx hb dX9_survey_12 (by decide) ?_
    refine va_last hx hb hK hP hD hS 1 1 rfl rfl (by unfold vp_in; decide) dX9_survey_13 (fun H locs hP hD hS => ?_)
    have hP : va_P g.1 classes [(h0, .inr (9, [.ref h0a0, .ref h0a1, .ref h0a2, .ref h0a3, .ref h0a4, .int 0])), (h0a0, .inl (cJ g, 4, .inr (.inl (vp_updL (opw 0 64) 1 0)))), (h1, .inr (3, [.ref h1s, .ref h1h])), (h1s, .inl (cI g, 64, .inl (fun _ => 0))), (h1h, .inl (cI g, 64, .inl (fun _ => 0)))] H := hP
    have hD : va_D A [(h0, .inr (9, [.ref h0a0, .ref h0a1, .ref h0a2, .ref h0a3, .ref h0a4, .int 0])), (h0a0, .inl (cJ g, 4, .inr (.inl (vp_updL (opw 0 64) 1 0)))), (h1, .inr (3, [.ref h1s, .ref h1h])), (h1s, .inl (cI g, 64, .inl (fun _ => 0))), (h1h, .inl (cI g, 64, .inl (fun _ => 0)))] := hD
    refine lv_iconst (v := 0) hx hb dX9_survey_14 (by decide) ?_
    refine lv_istore (lv' := [(4, .int 0), (3, .int 1), (0, .ref h0), (1, .ref h1), (2, .int 10)]) hx hb dX9_survey_15 hl (by decide) rfl (fun ls hl => ?_)
    rw [show vp_updL (opw 0 64) 1 0 = opw 1 0 from opwN 0] at hP hD
    refine loopK 64 (fun k H locs ls => va_P g.1 classes [(h0, .inr (9, [.ref h0a0, .ref h0a1, .ref h0a2, .ref h0a3, .ref h0a4, .int 0])), (h0a0, .inl (cJ g, 4, .inr (.inl (opw 1 k)))), (h1, .inr (3, [.ref h1s, .ref h1h])), (h1s, .inl (cI g, 64, .inl (fun _ => 0))), (h1h, .inl (cI g, 64, .inl (fun _ => 0)))] H ∧ va_D A [(h0, .inr (9, [.ref h0a0, .ref h0a1, .ref h0a2, .ref h0a3, .ref h0a4, .int 0])), (h0a0, .inl (cJ g, 4, .inr (.inl (opw 1 k)))), (h1, .inr (3, [.ref h1s, .ref h1h])), (h1s, .inl (cI g, 64, .inl (fun _ => 0))), (h1h, .inl (cI g, 64, .inl (fun _ => 0)))] ∧ va_S A s.heap H locs ∧ lv_has ls 5 [(4, .int (nI k)), (3, .int 1), (0, .ref h0), (1, .ref h1), (2, .int 10)]) (Wg := fun H locs ls => W p l e _ s m _ below meth c H locs _ _ _ (F0 m 17 ls [])) ?_ ?_ _ _ _ ⟨hP, hD, hS, lv_sub hl [0, 1, 2, 3, 4] rfl⟩
    · intro k hk_k ih H locs ls hI
      obtain ⟨hP, hD, hS, hl⟩ := hI
      have hn_k : (nI k).toInt = (k : Int) := nI_toInt (by omega)
      refine lv_iload hx hb dX9_survey_17 (lv_at hl 0 rfl) ?_
      refine lv_bipush (v := 64) hx hb dX9_survey_19 (by decide) ?_
      refine lv_icmp_ge (tgt := 57) hx hb dX9_survey_21 (by decide) (fun c_15 => (by simp only [i32lt, i32le, i32eq, Int32.reduceToInt] at c_15; omega : False).elim) (fun _ => ?_)
      refine lv_aload_n hx hb dX9_survey_24 rfl (lv_at hl 3 rfl) ?_
      refine lv_iload hx hb dX9_survey_25 (lv_at hl 0 rfl) ?_
      refine lv_iload_n hx hb dX9_survey_27 rfl (lv_at hl 1 rfl) ?_
      refine lv_iload_n hx hb dX9_survey_28 rfl (lv_at hl 4 rfl) ?_
      refine kVi (As := [.int (nI k), .int 1, .int 10]) (rest := []) (wr := [(h0, .inr (9, [.ref h0a0, .ref h0a1, .ref h0a2, .ref h0a3, .ref h0a4, .int 0])), (h0a0, .inl (cJ g, 4, .inr (.inl (opw 1 k))))]) X (c_X3_onward1 l g h1 k h1s h1h (by first | decide | omega)) ok_X3_onward okv_X3_onward q_1327 rfl hK hP hD hS hA hZ hl.1 [2, 3, 4] [0, 1] rfl rfl rfl rfl rfl 0 3 rfl rfl rfl (Nat.le_of_ble_eq_true rfl) ⟨Nat.le_of_ble_eq_true rfl, Nat.le_of_ble_eq_true rfl⟩ dX9_survey_29 ⟨Nat.le_of_ble_eq_true rfl, Nat.le_of_ble_eq_true rfl⟩ (fun r_16 w1 H locs hw_17 hP hD hS => ?_)
      rw [sp_X3_onward1] at hw_17
      rcases Classical.em (nI (k % 8) ≤ 0) with c_18 | c_18
      ·
        have hn_19 : (nI (k % 8)).toInt = (((k % 8) : Nat) : Int) := nI_toInt (by omega)
        have m_c_18 : (k % 8) ≤ 0 := (by simp only [i32lt, i32le, i32eq, Int32.reduceToInt] at c_18; omega)
        rw [if_pos c_18] at hw_17
        obtain ⟨e1, e2⟩ := Prod.mk.inj hw_17
        subst e1; subst e2
        have hP : va_P g.1 classes [(h0, .inr (9, [.ref h0a0, .ref h0a1, .ref h0a2, .ref h0a3, .ref h0a4, .int 0])), (h0a0, .inl (cJ g, 4, .inr (.inl (opw 1 k)))), (h1, .inr (3, [.ref h1s, .ref h1h])), (h1s, .inl (cI g, 64, .inl (fun _ => 0))), (h1h, .inl (cI g, 64, .inl (fun _ => 0)))] H := hP
        have hD : va_D A [(h0, .inr (9, [.ref h0a0, .ref h0a1, .ref h0a2, .ref h0a3, .ref h0a4, .int 0])), (h0a0, .inl (cJ g, 4, .inr (.inl (opw 1 k)))), (h1, .inr (3, [.ref h1s, .ref h1h])), (h1s, .inl (cI g, 64, .inl (fun _ => 0))), (h1h, .inl (cI g, 64, .inl (fun _ => 0)))] := hD
        refine lv_bipush (v := (-9)) hx hb dX9_survey_32 (by decide) ?_
        refine lv_icmp_eq (tgt := 51) hx hb dX9_survey_34 (by decide) (fun _ => ?_) (fun c_20 => absurd (by decide) c_20)
        refine lv_iinc (v := nI (k + 1)) (lv' := [(4, .int (nI (k + 1))), (3, .int 1), (0, .ref h0), (1, .ref h1), (2, .int 10)]) hx hb dX9_survey_51 hl (k := 0) rfl (nI_1 _) (by decide) rfl (fun ls hl => ?_)
        refine lv_goto (tgt := 17) hx hb dX9_survey_54 (by decide) ?_
        rw [opwK 1 k (by simp only [okw, decide_eq_false_iff_not]; omega)] at hP hD
        exact ih _ _ _ ⟨hP, hD, hS, lv_sub hl [0, 1, 2, 3, 4] rfl⟩
      ·
        have hn_21 : (nI (k % 8)).toInt = (((k % 8) : Nat) : Int) := nI_toInt (by omega)
        have m_c_18 : ¬ ((k % 8) ≤ 0) := (by simp only [i32lt, i32le, i32eq, Int32.reduceToInt] at c_18; omega)
        rw [if_neg c_18] at hw_17
        obtain ⟨e1, e2⟩ := Prod.mk.inj hw_17
        subst e1; subst e2
        have hn_22 : (nI (k - 1)).toInt = (((k - 1) : Nat) : Int) := nI_toInt (by omega)
        have hP : va_P g.1 classes [(h0, .inr (9, [.ref h0a0, .ref h0a1, .ref h0a2, .ref h0a3, .ref h0a4, .int 0])), (h0a0, .inl (cJ g, 4, .inr (.inl (opw 1 k)))), (h1s, .inl (cI g, 64, .inl (fun _ => 0))), (h1, .inr (3, [.ref h1s, .ref h1h])), (h1h, .inl (cI g, 64, .inl (fun _ => 0)))] H := hP
        have hD : va_D A [(h0, .inr (9, [.ref h0a0, .ref h0a1, .ref h0a2, .ref h0a3, .ref h0a4, .int 0])), (h0a0, .inl (cJ g, 4, .inr (.inl (opw 1 k)))), (h1s, .inl (cI g, 64, .inl (fun _ => 0))), (h1, .inr (3, [.ref h1s, .ref h1h])), (h1h, .inl (cI g, 64, .inl (fun _ => 0)))] := hD
        refine lv_bipush (v := (-9)) hx hb dX9_survey_32 (by decide) ?_
        refine lv_icmp_eq (tgt := 51) hx hb dX9_survey_34 (by decide) (fun c_23 => absurd c_23 (nI_neN (-9) (by omega) (by decide))) (fun _ => ?_)
        refine lv_aload_n hx hb dX9_survey_37 rfl (lv_at hl 2 rfl) ?_
        refine va_get (D := g.1) (ci := 9) (v := .ref h0a0) (C := RX9) (T := TX9) (N := 6) hx hb hts fw_X9 hown hK hP 0 rfl rfl 0 (by decide) (hts _ q_439) (fun _ h9 => h9) rfl dX9_survey_38 ?_
        refine lv_iload_n hx hb dX9_survey_41 rfl (lv_at hl 1 rfl) ?_
        refine lv_dup2_11 hx hb dX9_survey_42 rfl rfl ?_
        refine va_lald hx hb hK hP 1 1 rfl rfl (by unfold vp_in; decide) dX9_survey_43 ?_
        refine lv_topkl (v := (opw 1 k) 1) rfl ?_
        refine lv_iload hx hb dX9_survey_44 (lv_at hl 0 rfl) ?_
        refine kSl (As := [.int (nI k)]) (rest := [.long ((opw 1 k) 1), .int 1, .ref h0a0]) (wr := [(h0, .inr (9, [.ref h0a0, .ref h0a1, .ref h0a2, .ref h0a3, .ref h0a4, .int 0])), (h0a0, .inl (cJ g, 4, .inr (.inl (opw 1 k)))), (h1s, .inl (cI g, 64, .inl (fun _ => 0))), (h1, .inr (3, [.ref h1s, .ref h1h])), (h1h, .inl (cI g, 64, .inl (fun _ => 0)))]) X (c_X3_bit l g (nI k)) ok_X3_bit q_842 q_1328 rfl hK hP hD hS hA hZ hl.1 [] [0, 1, 2, 3, 4] rfl rfl rfl rfl rfl rfl (Nat.le_of_ble_eq_true rfl) ⟨Nat.le_of_ble_eq_true rfl, Nat.le_of_ble_eq_true rfl⟩ dX9_survey_46 ⟨Nat.le_of_ble_eq_true rfl, Nat.le_of_ble_eq_true rfl⟩ (fun r_24 w1 H locs hw_25 hP hD hS => ?_)
        rw [sp_X3_bit] at hw_25
        obtain ⟨e1, e2⟩ := Prod.mk.inj hw_25
        subst e1; subst e2
        have hP : va_P g.1 classes [(h0, .inr (9, [.ref h0a0, .ref h0a1, .ref h0a2, .ref h0a3, .ref h0a4, .int 0])), (h0a0, .inl (cJ g, 4, .inr (.inl (opw 1 k)))), (h1s, .inl (cI g, 64, .inl (fun _ => 0))), (h1, .inr (3, [.ref h1s, .ref h1h])), (h1h, .inl (cI g, 64, .inl (fun _ => 0)))] H := hP
        have hD : va_D A [(h0, .inr (9, [.ref h0a0, .ref h0a1, .ref h0a2, .ref h0a3, .ref h0a4, .int 0])), (h0a0, .inl (cJ g, 4, .inr (.inl (opw 1 k)))), (h1s, .inl (cI g, 64, .inl (fun _ => 0))), (h1, .inr (3, [.ref h1s, .ref h1h])), (h1h, .inl (cI g, 64, .inl (fun _ => 0)))] := hD
        refine lv_lor hx hb dX9_survey_49 ?_
        refine va_last hx hb hK hP hD hS 1 1 rfl rfl (by unfold vp_in; decide) dX9_survey_50 (fun H locs hP hD hS => ?_)
        have hP : va_P g.1 classes [(h0, .inr (9, [.ref h0a0, .ref h0a1, .ref h0a2, .ref h0a3, .ref h0a4, .int 0])), (h0a0, .inl (cJ g, 4, .inr (.inl (vp_updL (opw 1 k) 1 (((opw 1 k) 1) ||| (jshl 1 (nI k))))))), (h1s, .inl (cI g, 64, .inl (fun _ => 0))), (h1, .inr (3, [.ref h1s, .ref h1h])), (h1h, .inl (cI g, 64, .inl (fun _ => 0)))] H := hP
        have hD : va_D A [(h0, .inr (9, [.ref h0a0, .ref h0a1, .ref h0a2, .ref h0a3, .ref h0a4, .int 0])), (h0a0, .inl (cJ g, 4, .inr (.inl (vp_updL (opw 1 k) 1 (((opw 1 k) 1) ||| (jshl 1 (nI k))))))), (h1s, .inl (cI g, 64, .inl (fun _ => 0))), (h1, .inr (3, [.ref h1s, .ref h1h])), (h1h, .inl (cI g, 64, .inl (fun _ => 0)))] := hD
        refine lv_iinc (v := nI (k + 1)) (lv' := [(4, .int (nI (k + 1))), (3, .int 1), (0, .ref h0), (1, .ref h1), (2, .int 10)]) hx hb dX9_survey_51 hl (k := 0) rfl (nI_1 _) (by decide) rfl (fun ls hl => ?_)
        refine lv_goto (tgt := 17) hx hb dX9_survey_54 (by decide) ?_
        rw [opwS 1 k (by simp only [okw, decide_eq_true_eq]; omega)] at hP hD
        have hP := pSub hP (ws' := [(h0, .inr (9, [.ref h0a0, .ref h0a1, .ref h0a2, .ref h0a3, .ref h0a4, .int 0])), (h0a0, .inl (cJ g, 4, .inr (.inl (opw 1 (k + 1))))), (h1, .inr (3, [.ref h1s, .ref h1h])), (h1s, .inl (cI g, 64, .inl (fun _ => 0))), (h1h, .inl (cI g, 64, .inl (fun _ => 0)))]) [0, 1, 3, 2, 4] rfl
        have hD := hD.sub (ws' := [(h0, .inr (9, [.ref h0a0, .ref h0a1, .ref h0a2, .ref h0a3, .ref h0a4, .int 0])), (h0a0, .inl (cJ g, 4, .inr (.inl (opw 1 (k + 1))))), (h1, .inr (3, [.ref h1s, .ref h1h])), (h1s, .inl (cI g, 64, .inl (fun _ => 0))), (h1h, .inl (cI g, 64, .inl (fun _ => 0)))]) [0, 1, 3, 2, 4] rfl rfl
        exact ih _ _ _ ⟨hP, hD, hS, lv_sub hl [0, 1, 2, 3, 4] rfl⟩
    · intro H locs ls hI
      obtain ⟨hP, hD, hS, hl⟩ := hI
      refine lv_iload hx hb dX9_survey_17 (lv_at hl 0 rfl) ?_
      refine lv_bipush (v := 64) hx hb dX9_survey_19 (by decide) ?_
      refine lv_icmp_ge (tgt := 57) hx hb dX9_survey_21 (by decide) (fun _ => ?_) (fun c_26 => absurd (by decide) c_26)
      refine lv_iinc (v := 2) (lv' := [(3, .int 2), (4, .int (nI 64)), (0, .ref h0), (1, .ref h1), (2, .int 10)]) hx hb dX9_survey_57 hl (k := 1) rfl (by decide) (by decide) rfl (fun ls hl => ?_)
      refine lv_goto (tgt := 2) hx hb dX9_survey_60 (by decide) ?_
      refine lv_iload_n hx hb dX9_survey_2 rfl (lv_at hl 0 rfl) ?_
      refine lv_iconst (v := 4) hx hb dX9_survey_3 (by decide) ?_
      refine lv_icmp_ge (tgt := 63) hx hb dX9_survey_4 (by decide) (fun c_27 => absurd c_27 (by decide)) (fun _ => ?_)
      refine lv_aload_n hx hb dX9_survey_7 rfl (lv_at hl 2 rfl) ?_
      refine va_get (D := g.1) (ci := 9) (v := .ref h0a0) (C := RX9) (T := TX9) (N := 6) hx hb hts fw_X9 hown hK hP 0 rfl rfl 0 (by decide) (hts _ q_439) (fun _ h9 => h9) rfl dX9_survey_8 ?_
      refine lv_iload_n hx hb dX9_survey_11 rfl (lv_at hl 0 rfl) ?_
      refine lv_lconst (v := 0) hx hb dX9_survey_12 (by decide) ?_
      refine va_last hx hb hK hP hD hS 1 1 rfl rfl (by unfold vp_in; decide) dX9_survey_13 (fun H locs hP hD hS => ?_)
      have hP : va_P g.1 classes [(h0, .inr (9, [.ref h0a0, .ref h0a1, .ref h0a2, .ref h0a3, .ref h0a4, .int 0])), (h0a0, .inl (cJ g, 4, .inr (.inl (vp_updL (opw 1 64) 2 0)))), (h1, .inr (3, [.ref h1s, .ref h1h])), (h1s, .inl (cI g, 64, .inl (fun _ => 0))), (h1h, .inl (cI g, 64, .inl (fun _ => 0)))] H := hP
      have hD : va_D A [(h0, .inr (9, [.ref h0a0, .ref h0a1, .ref h0a2, .ref h0a3, .ref h0a4, .int 0])), (h0a0, .inl (cJ g, 4, .inr (.inl (vp_updL (opw 1 64) 2 0)))), (h1, .inr (3, [.ref h1s, .ref h1h])), (h1s, .inl (cI g, 64, .inl (fun _ => 0))), (h1h, .inl (cI g, 64, .inl (fun _ => 0)))] := hD
      refine lv_iconst (v := 0) hx hb dX9_survey_14 (by decide) ?_
      refine lv_istore (lv' := [(4, .int 0), (3, .int 2), (0, .ref h0), (1, .ref h1), (2, .int 10)]) hx hb dX9_survey_15 hl (by decide) rfl (fun ls hl => ?_)
      rw [show vp_updL (opw 1 64) 2 0 = opw 2 0 from opwN 1] at hP hD
      refine loopK 64 (fun k H locs ls => va_P g.1 classes [(h0, .inr (9, [.ref h0a0, .ref h0a1, .ref h0a2, .ref h0a3, .ref h0a4, .int 0])), (h0a0, .inl (cJ g, 4, .inr (.inl (opw 2 k)))), (h1, .inr (3, [.ref h1s, .ref h1h])), (h1s, .inl (cI g, 64, .inl (fun _ => 0))), (h1h, .inl (cI g, 64, .inl (fun _ => 0)))] H ∧ va_D A [(h0, .inr (9, [.ref h0a0, .ref h0a1, .ref h0a2, .ref h0a3, .ref h0a4, .int 0])), (h0a0, .inl (cJ g, 4, .inr (.inl (opw 2 k)))), (h1, .inr (3, [.ref h1s, .ref h1h])), (h1s, .inl (cI g, 64, .inl (fun _ => 0))), (h1h, .inl (cI g, 64, .inl (fun _ => 0)))] ∧ va_S A s.heap H locs ∧ lv_has ls 5 [(4, .int (nI k)), (3, .int 2), (0, .ref h0), (1, .ref h1), (2, .int 10)]) (Wg := fun H locs ls => W p l e _ s m _ below meth c H locs _ _ _ (F0 m 17 ls [])) ?_ ?_ _ _ _ ⟨hP, hD, hS, lv_sub hl [0, 1, 2, 3, 4] rfl⟩
      · intro k hk_k ih H locs ls hI
        obtain ⟨hP, hD, hS, hl⟩ := hI
        have hn_k : (nI k).toInt = (k : Int) := nI_toInt (by omega)
        refine lv_iload hx hb dX9_survey_17 (lv_at hl 0 rfl) ?_
        refine lv_bipush (v := 64) hx hb dX9_survey_19 (by decide) ?_
        refine lv_icmp_ge (tgt := 57) hx hb dX9_survey_21 (by decide) (fun c_28 => (by simp only [i32lt, i32le, i32eq, Int32.reduceToInt] at c_28; omega : False).elim) (fun _ => ?_)
        refine lv_aload_n hx hb dX9_survey_24 rfl (lv_at hl 3 rfl) ?_
        refine lv_iload hx hb dX9_survey_25 (lv_at hl 0 rfl) ?_
        refine lv_iload_n hx hb dX9_survey_27 rfl (lv_at hl 1 rfl) ?_
        refine lv_iload_n hx hb dX9_survey_28 rfl (lv_at hl 4 rfl) ?_
        refine kVi (As := [.int (nI k), .int 2, .int 10]) (rest := []) (wr := [(h0, .inr (9, [.ref h0a0, .ref h0a1, .ref h0a2, .ref h0a3, .ref h0a4, .int 0])), (h0a0, .inl (cJ g, 4, .inr (.inl (opw 2 k))))]) X (c_X3_onward2 l g h1 k h1s h1h (by first | decide | omega)) ok_X3_onward okv_X3_onward q_1327 rfl hK hP hD hS hA hZ hl.1 [2, 3, 4] [0, 1] rfl rfl rfl rfl rfl 0 3 rfl rfl rfl (Nat.le_of_ble_eq_true rfl) ⟨Nat.le_of_ble_eq_true rfl, Nat.le_of_ble_eq_true rfl⟩ dX9_survey_29 ⟨Nat.le_of_ble_eq_true rfl, Nat.le_of_ble_eq_true rfl⟩ (fun r_29 w1 H locs hw_30 hP hD hS => ?_)
        rw [sp_X3_onward2] at hw_30
        rcases Classical.em (7 ≤ nI (k % 8)) with c_31 | c_31
        ·
          have hn_32 : (nI (k % 8)).toInt = (((k % 8) : Nat) : Int) := nI_toInt (by omega)
          have m_c_31 : 7 ≤ (k % 8) := (by simp only [i32lt, i32le, i32eq, Int32.reduceToInt] at c_31; omega)
          rw [if_pos c_31] at hw_30
          obtain ⟨e1, e2⟩ := Prod.mk.inj hw_30
          subst e1; subst e2
          have hP : va_P g.1 classes [(h0, .inr (9, [.ref h0a0, .ref h0a1, .ref h0a2, .ref h0a3, .ref h0a4, .int 0])), (h0a0, .inl (cJ g, 4, .inr (.inl (opw 2 k)))), (h1, .inr (3, [.ref h1s, .ref h1h])), (h1s, .inl (cI g, 64, .inl (fun _ => 0))), (h1h, .inl (cI g, 64, .inl (fun _ => 0)))] H := hP
          have hD : va_D A [(h0, .inr (9, [.ref h0a0, .ref h0a1, .ref h0a2, .ref h0a3, .ref h0a4, .int 0])), (h0a0, .inl (cJ g, 4, .inr (.inl (opw 2 k)))), (h1, .inr (3, [.ref h1s, .ref h1h])), (h1s, .inl (cI g, 64, .inl (fun _ => 0))), (h1h, .inl (cI g, 64, .inl (fun _ => 0)))] := hD
          refine lv_bipush (v := (-9)) hx hb dX9_survey_32 (by decide) ?_
          refine lv_icmp_eq (tgt := 51) hx hb dX9_survey_34 (by decide) (fun _ => ?_) (fun c_33 => absurd (by decide) c_33)
          refine lv_iinc (v := nI (k + 1)) (lv' := [(4, .int (nI (k + 1))), (3, .int 2), (0, .ref h0), (1, .ref h1), (2, .int 10)]) hx hb dX9_survey_51 hl (k := 0) rfl (nI_1 _) (by decide) rfl (fun ls hl => ?_)
          refine lv_goto (tgt := 17) hx hb dX9_survey_54 (by decide) ?_
          rw [opwK 2 k (by simp only [okw, decide_eq_false_iff_not]; omega)] at hP hD
          exact ih _ _ _ ⟨hP, hD, hS, lv_sub hl [0, 1, 2, 3, 4] rfl⟩
        ·
          have hn_34 : (nI (k % 8)).toInt = (((k % 8) : Nat) : Int) := nI_toInt (by omega)
          have m_c_31 : ¬ (7 ≤ (k % 8)) := (by simp only [i32lt, i32le, i32eq, Int32.reduceToInt] at c_31; omega)
          rw [if_neg c_31] at hw_30
          obtain ⟨e1, e2⟩ := Prod.mk.inj hw_30
          subst e1; subst e2
          have hn_35 : (nI (k + 1)).toInt = (((k + 1) : Nat) : Int) := nI_toInt (by omega)
          have hP : va_P g.1 classes [(h0, .inr (9, [.ref h0a0, .ref h0a1, .ref h0a2, .ref h0a3, .ref h0a4, .int 0])), (h0a0, .inl (cJ g, 4, .inr (.inl (opw 2 k)))), (h1s, .inl (cI g, 64, .inl (fun _ => 0))), (h1, .inr (3, [.ref h1s, .ref h1h])), (h1h, .inl (cI g, 64, .inl (fun _ => 0)))] H := hP
          have hD : va_D A [(h0, .inr (9, [.ref h0a0, .ref h0a1, .ref h0a2, .ref h0a3, .ref h0a4, .int 0])), (h0a0, .inl (cJ g, 4, .inr (.inl (opw 2 k)))), (h1s, .inl (cI g, 64, .inl (fun _ => 0))), (h1, .inr (3, [.ref h1s, .ref h1h])), (h1h, .inl (cI g, 64, .inl (fun _ => 0)))] := hD
          refine lv_bipush (v := (-9)) hx hb dX9_survey_32 (by decide) ?_
          refine lv_icmp_eq (tgt := 51) hx hb dX9_survey_34 (by decide) (fun c_36 => absurd c_36 (nI_neN (-9) (by omega) (by decide))) (fun _ => ?_)
          refine lv_aload_n hx hb dX9_survey_37 rfl (lv_at hl 2 rfl) ?_
          refine va_get (D := g.1) (ci := 9) (v := .ref h0a0) (C := RX9) (T := TX9) (N := 6) hx hb hts fw_X9 hown hK hP 0 rfl rfl 0 (by decide) (hts _ q_439) (fun _ h9 => h9) rfl dX9_survey_38 ?_
          refine lv_iload_n hx hb dX9_survey_41 rfl (lv_at hl 1 rfl) ?_
          refine lv_dup2_11 hx hb dX9_survey_42 rfl rfl ?_
          refine va_lald hx hb hK hP 1 1 rfl rfl (by unfold vp_in; decide) dX9_survey_43 ?_
          refine lv_topkl (v := (opw 2 k) 2) rfl ?_
          refine lv_iload hx hb dX9_survey_44 (lv_at hl 0 rfl) ?_
          refine kSl (As := [.int (nI k)]) (rest := [.long ((opw 2 k) 2), .int 2, .ref h0a0]) (wr := [(h0, .inr (9, [.ref h0a0, .ref h0a1, .ref h0a2, .ref h0a3, .ref h0a4, .int 0])), (h0a0, .inl (cJ g, 4, .inr (.inl (opw 2 k)))), (h1s, .inl (cI g, 64, .inl (fun _ => 0))), (h1, .inr (3, [.ref h1s, .ref h1h])), (h1h, .inl (cI g, 64, .inl (fun _ => 0)))]) X (c_X3_bit l g (nI k)) ok_X3_bit q_842 q_1328 rfl hK hP hD hS hA hZ hl.1 [] [0, 1, 2, 3, 4] rfl rfl rfl rfl rfl rfl (Nat.le_of_ble_eq_true rfl) ⟨Nat.le_of_ble_eq_true rfl, Nat.le_of_ble_eq_true rfl⟩ dX9_survey_46 ⟨Nat.le_of_ble_eq_true rfl, Nat.le_of_ble_eq_true rfl⟩ (fun r_37 w1 H locs hw_38 hP hD hS => ?_)
          rw [sp_X3_bit] at hw_38
          obtain ⟨e1, e2⟩ := Prod.mk.inj hw_38
          subst e1; subst e2
          have hP : va_P g.1 classes [(h0, .inr (9, [.ref h0a0, .ref h0a1, .ref h0a2, .ref h0a3, .ref h0a4, .int 0])), (h0a0, .inl (cJ g, 4, .inr (.inl (opw 2 k)))), (h1s, .inl (cI g, 64, .inl (fun _ => 0))), (h1, .inr (3, [.ref h1s, .ref h1h])), (h1h, .inl (cI g, 64, .inl (fun _ => 0)))] H := hP
          have hD : va_D A [(h0, .inr (9, [.ref h0a0, .ref h0a1, .ref h0a2, .ref h0a3, .ref h0a4, .int 0])), (h0a0, .inl (cJ g, 4, .inr (.inl (opw 2 k)))), (h1s, .inl (cI g, 64, .inl (fun _ => 0))), (h1, .inr (3, [.ref h1s, .ref h1h])), (h1h, .inl (cI g, 64, .inl (fun _ => 0)))] := hD
          refine lv_lor hx hb dX9_survey_49 ?_
          refine va_last hx hb hK hP hD hS 1 1 rfl rfl (by unfold vp_in; decide) dX9_survey_50 (fun H locs hP hD hS => ?_)
          have hP : va_P g.1 classes [(h0, .inr (9, [.ref h0a0, .ref h0a1, .ref h0a2, .ref h0a3, .ref h0a4, .int 0])), (h0a0, .inl (cJ g, 4, .inr (.inl (vp_updL (opw 2 k) 2 (((opw 2 k) 2) ||| (jshl 1 (nI k))))))), (h1s, .inl (cI g, 64, .inl (fun _ => 0))), (h1, .inr (3, [.ref h1s, .ref h1h])), (h1h, .inl (cI g, 64, .inl (fun _ => 0)))] H := hP
          have hD : va_D A [(h0, .inr (9, [.ref h0a0, .ref h0a1, .ref h0a2, .ref h0a3, .ref h0a4, .int 0])), (h0a0, .inl (cJ g, 4, .inr (.inl (vp_updL (opw 2 k) 2 (((opw 2 k) 2) ||| (jshl 1 (nI k))))))), (h1s, .inl (cI g, 64, .inl (fun _ => 0))), (h1, .inr (3, [.ref h1s, .ref h1h])), (h1h, .inl (cI g, 64, .inl (fun _ => 0)))] := hD
          refine lv_iinc (v := nI (k + 1)) (lv' := [(4, .int (nI (k + 1))), (3, .int 2), (0, .ref h0), (1, .ref h1), (2, .int 10)]) hx hb dX9_survey_51 hl (k := 0) rfl (nI_1 _) (by decide) rfl (fun ls hl => ?_)
          refine lv_goto (tgt := 17) hx hb dX9_survey_54 (by decide) ?_
          rw [opwS 2 k (by simp only [okw, decide_eq_true_eq]; omega)] at hP hD
          have hP := pSub hP (ws' := [(h0, .inr (9, [.ref h0a0, .ref h0a1, .ref h0a2, .ref h0a3, .ref h0a4, .int 0])), (h0a0, .inl (cJ g, 4, .inr (.inl (opw 2 (k + 1))))), (h1, .inr (3, [.ref h1s, .ref h1h])), (h1s, .inl (cI g, 64, .inl (fun _ => 0))), (h1h, .inl (cI g, 64, .inl (fun _ => 0)))]) [0, 1, 3, 2, 4] rfl
          have hD := hD.sub (ws' := [(h0, .inr (9, [.ref h0a0, .ref h0a1, .ref h0a2, .ref h0a3, .ref h0a4, .int 0])), (h0a0, .inl (cJ g, 4, .inr (.inl (opw 2 (k + 1))))), (h1, .inr (3, [.ref h1s, .ref h1h])), (h1s, .inl (cI g, 64, .inl (fun _ => 0))), (h1h, .inl (cI g, 64, .inl (fun _ => 0)))]) [0, 1, 3, 2, 4] rfl rfl
          exact ih _ _ _ ⟨hP, hD, hS, lv_sub hl [0, 1, 2, 3, 4] rfl⟩
      · intro H locs ls hI
        obtain ⟨hP, hD, hS, hl⟩ := hI
        refine lv_iload hx hb dX9_survey_17 (lv_at hl 0 rfl) ?_
        refine lv_bipush (v := 64) hx hb dX9_survey_19 (by decide) ?_
        refine lv_icmp_ge (tgt := 57) hx hb dX9_survey_21 (by decide) (fun _ => ?_) (fun c_39 => absurd (by decide) c_39)
        refine lv_iinc (v := 3) (lv' := [(3, .int 3), (4, .int (nI 64)), (0, .ref h0), (1, .ref h1), (2, .int 10)]) hx hb dX9_survey_57 hl (k := 1) rfl (by decide) (by decide) rfl (fun ls hl => ?_)
        refine lv_goto (tgt := 2) hx hb dX9_survey_60 (by decide) ?_
        refine lv_iload_n hx hb dX9_survey_2 rfl (lv_at hl 0 rfl) ?_
        refine lv_iconst (v := 4) hx hb dX9_survey_3 (by decide) ?_
        refine lv_icmp_ge (tgt := 63) hx hb dX9_survey_4 (by decide) (fun c_40 => absurd c_40 (by decide)) (fun _ => ?_)
        refine lv_aload_n hx hb dX9_survey_7 rfl (lv_at hl 2 rfl) ?_
        refine va_get (D := g.1) (ci := 9) (v := .ref h0a0) (C := RX9) (T := TX9) (N := 6) hx hb hts fw_X9 hown hK hP 0 rfl rfl 0 (by decide) (hts _ q_439) (fun _ h9 => h9) rfl dX9_survey_8 ?_
        refine lv_iload_n hx hb dX9_survey_11 rfl (lv_at hl 0 rfl) ?_
        refine lv_lconst (v := 0) hx hb dX9_survey_12 (by decide) ?_
        refine va_last hx hb hK hP hD hS 1 1 rfl rfl (by unfold vp_in; decide) dX9_survey_13 (fun H locs hP hD hS => ?_)
        have hP : va_P g.1 classes [(h0, .inr (9, [.ref h0a0, .ref h0a1, .ref h0a2, .ref h0a3, .ref h0a4, .int 0])), (h0a0, .inl (cJ g, 4, .inr (.inl (vp_updL (opw 2 64) 3 0)))), (h1, .inr (3, [.ref h1s, .ref h1h])), (h1s, .inl (cI g, 64, .inl (fun _ => 0))), (h1h, .inl (cI g, 64, .inl (fun _ => 0)))] H := hP
        have hD : va_D A [(h0, .inr (9, [.ref h0a0, .ref h0a1, .ref h0a2, .ref h0a3, .ref h0a4, .int 0])), (h0a0, .inl (cJ g, 4, .inr (.inl (vp_updL (opw 2 64) 3 0)))), (h1, .inr (3, [.ref h1s, .ref h1h])), (h1s, .inl (cI g, 64, .inl (fun _ => 0))), (h1h, .inl (cI g, 64, .inl (fun _ => 0)))] := hD
        refine lv_iconst (v := 0) hx hb dX9_survey_14 (by decide) ?_
        refine lv_istore (lv' := [(4, .int 0), (3, .int 3), (0, .ref h0), (1, .ref h1), (2, .int 10)]) hx hb dX9_survey_15 hl (by decide) rfl (fun ls hl => ?_)
        rw [show vp_updL (opw 2 64) 3 0 = opw 3 0 from opwN 2] at hP hD
        refine loopK 64 (fun k H locs ls => va_P g.1 classes [(h0, .inr (9, [.ref h0a0, .ref h0a1, .ref h0a2, .ref h0a3, .ref h0a4, .int 0])), (h0a0, .inl (cJ g, 4, .inr (.inl (opw 3 k)))), (h1, .inr (3, [.ref h1s, .ref h1h])), (h1s, .inl (cI g, 64, .inl (fun _ => 0))), (h1h, .inl (cI g, 64, .inl (fun _ => 0)))] H ∧ va_D A [(h0, .inr (9, [.ref h0a0, .ref h0a1, .ref h0a2, .ref h0a3, .ref h0a4, .int 0])), (h0a0, .inl (cJ g, 4, .inr (.inl (opw 3 k)))), (h1, .inr (3, [.ref h1s, .ref h1h])), (h1s, .inl (cI g, 64, .inl (fun _ => 0))), (h1h, .inl (cI g, 64, .inl (fun _ => 0)))] ∧ va_S A s.heap H locs ∧ lv_has ls 5 [(4, .int (nI k)), (3, .int 3), (0, .ref h0), (1, .ref h1), (2, .int 10)]) (Wg := fun H locs ls => W p l e _ s m _ below meth c H locs _ _ _ (F0 m 17 ls [])) ?_ ?_ _ _ _ ⟨hP, hD, hS, lv_sub hl [0, 1, 2, 3, 4] rfl⟩
        · intro k hk_k ih H locs ls hI
          obtain ⟨hP, hD, hS, hl⟩ := hI
          have hn_k : (nI k).toInt = (k : Int) := nI_toInt (by omega)
          refine lv_iload hx hb dX9_survey_17 (lv_at hl 0 rfl) ?_
          refine lv_bipush (v := 64) hx hb dX9_survey_19 (by decide) ?_
          refine lv_icmp_ge (tgt := 57) hx hb dX9_survey_21 (by decide) (fun c_41 => (by simp only [i32lt, i32le, i32eq, Int32.reduceToInt] at c_41; omega : False).elim) (fun _ => ?_)
          refine lv_aload_n hx hb dX9_survey_24 rfl (lv_at hl 3 rfl) ?_
          refine lv_iload hx hb dX9_survey_25 (lv_at hl 0 rfl) ?_
          refine lv_iload_n hx hb dX9_survey_27 rfl (lv_at hl 1 rfl) ?_
          refine lv_iload_n hx hb dX9_survey_28 rfl (lv_at hl 4 rfl) ?_
          refine kVi (As := [.int (nI k), .int 3, .int 10]) (rest := []) (wr := [(h0, .inr (9, [.ref h0a0, .ref h0a1, .ref h0a2, .ref h0a3, .ref h0a4, .int 0])), (h0a0, .inl (cJ g, 4, .inr (.inl (opw 3 k))))]) X (c_X3_onward3 l g h1 k h1s h1h (by first | decide | omega)) ok_X3_onward okv_X3_onward q_1327 rfl hK hP hD hS hA hZ hl.1 [2, 3, 4] [0, 1] rfl rfl rfl rfl rfl 0 3 rfl rfl rfl (Nat.le_of_ble_eq_true rfl) ⟨Nat.le_of_ble_eq_true rfl, Nat.le_of_ble_eq_true rfl⟩ dX9_survey_29 ⟨Nat.le_of_ble_eq_true rfl, Nat.le_of_ble_eq_true rfl⟩ (fun r_42 w1 H locs hw_43 hP hD hS => ?_)
          rw [sp_X3_onward3] at hw_43
          rcases Classical.em (56 ≤ nI k) with c_44 | c_44
          ·
            have hn_45 : (nI k).toInt = ((k : Nat) : Int) := nI_toInt (by omega)
            have m_c_44 : 56 ≤ k := (by simp only [i32lt, i32le, i32eq, Int32.reduceToInt] at c_44; omega)
            rw [if_pos c_44] at hw_43
            obtain ⟨e1, e2⟩ := Prod.mk.inj hw_43
            subst e1; subst e2
            have hP : va_P g.1 classes [(h0, .inr (9, [.ref h0a0, .ref h0a1, .ref h0a2, .ref h0a3, .ref h0a4, .int 0])), (h0a0, .inl (cJ g, 4, .inr (.inl (opw 3 k)))), (h1, .inr (3, [.ref h1s, .ref h1h])), (h1s, .inl (cI g, 64, .inl (fun _ => 0))), (h1h, .inl (cI g, 64, .inl (fun _ => 0)))] H := hP
            have hD : va_D A [(h0, .inr (9, [.ref h0a0, .ref h0a1, .ref h0a2, .ref h0a3, .ref h0a4, .int 0])), (h0a0, .inl (cJ g, 4, .inr (.inl (opw 3 k)))), (h1, .inr (3, [.ref h1s, .ref h1h])), (h1s, .inl (cI g, 64, .inl (fun _ => 0))), (h1h, .inl (cI g, 64, .inl (fun _ => 0)))] := hD
            refine lv_bipush (v := (-9)) hx hb dX9_survey_32 (by decide) ?_
            refine lv_icmp_eq (tgt := 51) hx hb dX9_survey_34 (by decide) (fun _ => ?_) (fun c_46 => absurd (by decide) c_46)
            refine lv_iinc (v := nI (k + 1)) (lv' := [(4, .int (nI (k + 1))), (3, .int 3), (0, .ref h0), (1, .ref h1), (2, .int 10)]) hx hb dX9_survey_51 hl (k := 0) rfl (nI_1 _) (by decide) rfl (fun ls hl => ?_)
            refine lv_goto (tgt := 17) hx hb dX9_survey_54 (by decide) ?_
            rw [opwK 3 k (by simp only [okw, decide_eq_false_iff_not]; omega)] at hP hD
            exact ih _ _ _ ⟨hP, hD, hS, lv_sub hl [0, 1, 2, 3, 4] rfl⟩
          ·
            have hn_47 : (nI k).toInt = ((k : Nat) : Int) := nI_toInt (by omega)
            have m_c_44 : ¬ (56 ≤ k) := (by simp only [i32lt, i32le, i32eq, Int32.reduceToInt] at c_44; omega)
            rw [if_neg c_44] at hw_43
            obtain ⟨e1, e2⟩ := Prod.mk.inj hw_43
            subst e1; subst e2
            have hn_48 : (nI (k + 8)).toInt = (((k + 8) : Nat) : Int) := nI_toInt (by omega)
            have hP : va_P g.1 classes [(h0, .inr (9, [.ref h0a0, .ref h0a1, .ref h0a2, .ref h0a3, .ref h0a4, .int 0])), (h0a0, .inl (cJ g, 4, .inr (.inl (opw 3 k)))), (h1s, .inl (cI g, 64, .inl (fun _ => 0))), (h1, .inr (3, [.ref h1s, .ref h1h])), (h1h, .inl (cI g, 64, .inl (fun _ => 0)))] H := hP
            have hD : va_D A [(h0, .inr (9, [.ref h0a0, .ref h0a1, .ref h0a2, .ref h0a3, .ref h0a4, .int 0])), (h0a0, .inl (cJ g, 4, .inr (.inl (opw 3 k)))), (h1s, .inl (cI g, 64, .inl (fun _ => 0))), (h1, .inr (3, [.ref h1s, .ref h1h])), (h1h, .inl (cI g, 64, .inl (fun _ => 0)))] := hD
            refine lv_bipush (v := (-9)) hx hb dX9_survey_32 (by decide) ?_
            refine lv_icmp_eq (tgt := 51) hx hb dX9_survey_34 (by decide) (fun c_49 => absurd c_49 (nI_neN (-9) (by omega) (by decide))) (fun _ => ?_)
            refine lv_aload_n hx hb dX9_survey_37 rfl (lv_at hl 2 rfl) ?_
            refine va_get (D := g.1) (ci := 9) (v := .ref h0a0) (C := RX9) (T := TX9) (N := 6) hx hb hts fw_X9 hown hK hP 0 rfl rfl 0 (by decide) (hts _ q_439) (fun _ h9 => h9) rfl dX9_survey_38 ?_
            refine lv_iload_n hx hb dX9_survey_41 rfl (lv_at hl 1 rfl) ?_
            refine lv_dup2_11 hx hb dX9_survey_42 rfl rfl ?_
            refine va_lald hx hb hK hP 1 1 rfl rfl (by unfold vp_in; decide) dX9_survey_43 ?_
            refine lv_topkl (v := (opw 3 k) 3) rfl ?_
            refine lv_iload hx hb dX9_survey_44 (lv_at hl 0 rfl) ?_
            refine kSl (As := [.int (nI k)]) (rest := [.long ((opw 3 k) 3), .int 3, .ref h0a0]) (wr := [(h0, .inr (9, [.ref h0a0, .ref h0a1, .ref h0a2, .ref h0a3, .ref h0a4, .int 0])), (h0a0, .inl (cJ g, 4, .inr (.inl (opw 3 k)))), (h1s, .inl (cI g, 64, .inl (fun _ => 0))), (h1, .inr (3, [.ref h1s, .ref h1h])), (h1h, .inl (cI g, 64, .inl (fun _ => 0)))]) X (c_X3_bit l g (nI k)) ok_X3_bit q_842 q_1328 rfl hK hP hD hS hA hZ hl.1 [] [0, 1, 2, 3, 4] rfl rfl rfl rfl rfl rfl (Nat.le_of_ble_eq_true rfl) ⟨Nat.le_of_ble_eq_true rfl, Nat.le_of_ble_eq_true rfl⟩ dX9_survey_46 ⟨Nat.le_of_ble_eq_true rfl, Nat.le_of_ble_eq_true rfl⟩ (fun r_50 w1 H locs hw_51 hP hD hS => ?_)
            rw [sp_X3_bit] at hw_51
            obtain ⟨e1, e2⟩ := Prod.mk.inj hw_51
            subst e1; subst e2
            have hP : va_P g.1 classes [(h0, .inr (9, [.ref h0a0, .ref h0a1, .ref h0a2, .ref h0a3, .ref h0a4, .int 0])), (h0a0, .inl (cJ g, 4, .inr (.inl (opw 3 k)))), (h1s, .inl (cI g, 64, .inl (fun _ => 0))), (h1, .inr (3, [.ref h1s, .ref h1h])), (h1h, .inl (cI g, 64, .inl (fun _ => 0)))] H := hP
            have hD : va_D A [(h0, .inr (9, [.ref h0a0, .ref h0a1, .ref h0a2, .ref h0a3, .ref h0a4, .int 0])), (h0a0, .inl (cJ g, 4, .inr (.inl (opw 3 k)))), (h1s, .inl (cI g, 64, .inl (fun _ => 0))), (h1, .inr (3, [.ref h1s, .ref h1h])), (h1h, .inl (cI g, 64, .inl (fun _ => 0)))] := hD
            refine lv_lor hx hb dX9_survey_49 ?_
            refine va_last hx hb hK hP hD hS 1 1 rfl rfl (by unfold vp_in; decide) dX9_survey_50 (fun H locs hP hD hS => ?_)
            have hP : va_P g.1 classes [(h0, .inr (9, [.ref h0a0, .ref h0a1, .ref h0a2, .ref h0a3, .ref h0a4, .int 0])), (h0a0, .inl (cJ g, 4, .inr (.inl (vp_updL (opw 3 k) 3 (((opw 3 k) 3) ||| (jshl 1 (nI k))))))), (h1s, .inl (cI g, 64, .inl (fun _ => 0))), (h1, .inr (3, [.ref h1s, .ref h1h])), (h1h, .inl (cI g, 64, .inl (fun _ => 0)))] H := hP
            have hD : va_D A [(h0, .inr (9, [.ref h0a0, .ref h0a1, .ref h0a2, .ref h0a3, .ref h0a4, .int 0])), (h0a0, .inl (cJ g, 4, .inr (.inl (vp_updL (opw 3 k) 3 (((opw 3 k) 3) ||| (jshl 1 (nI k))))))), (h1s, .inl (cI g, 64, .inl (fun _ => 0))), (h1, .inr (3, [.ref h1s, .ref h1h])), (h1h, .inl (cI g, 64, .inl (fun _ => 0)))] := hD
            refine lv_iinc (v := nI (k + 1)) (lv' := [(4, .int (nI (k + 1))), (3, .int 3), (0, .ref h0), (1, .ref h1), (2, .int 10)]) hx hb dX9_survey_51 hl (k := 0) rfl (nI_1 _) (by decide) rfl (fun ls hl => ?_)
            refine lv_goto (tgt := 17) hx hb dX9_survey_54 (by decide) ?_
            rw [opwS 3 k (by simp only [okw, decide_eq_true_eq]; omega)] at hP hD
            have hP := pSub hP (ws' := [(h0, .inr (9, [.ref h0a0, .ref h0a1, .ref h0a2, .ref h0a3, .ref h0a4, .int 0])), (h0a0, .inl (cJ g, 4, .inr (.inl (opw 3 (k + 1))))), (h1, .inr (3, [.ref h1s, .ref h1h])), (h1s, .inl (cI g, 64, .inl (fun _ => 0))), (h1h, .inl (cI g, 64, .inl (fun _ => 0)))]) [0, 1, 3, 2, 4] rfl
            have hD := hD.sub (ws' := [(h0, .inr (9, [.ref h0a0, .ref h0a1, .ref h0a2, .ref h0a3, .ref h0a4, .int 0])), (h0a0, .inl (cJ g, 4, .inr (.inl (opw 3 (k + 1))))), (h1, .inr (3, [.ref h1s, .ref h1h])), (h1s, .inl (cI g, 64, .inl (fun _ => 0))), (h1h, .inl (cI g, 64, .inl (fun _ => 0)))]) [0, 1, 3, 2, 4] rfl rfl
            exact ih _ _ _ ⟨hP, hD, hS, lv_sub hl [0, 1, 2, 3, 4] rfl⟩
        · intro H locs ls hI
          obtain ⟨hP, hD, hS, hl⟩ := hI
          refine lv_iload hx hb dX9_survey_17 (lv_at hl 0 rfl) ?_
          refine lv_bipush (v := 64) hx hb dX9_survey_19 (by decide) ?_
          refine lv_icmp_ge (tgt := 57) hx hb dX9_survey_21 (by decide) (fun _ => ?_) (fun c_52 => absurd (by decide) c_52)
          refine lv_iinc (v := 4) (lv' := [(3, .int 4), (4, .int (nI 64)), (0, .ref h0), (1, .ref h1), (2, .int 10)]) hx hb dX9_survey_57 hl (k := 1) rfl (by decide) (by decide) rfl (fun ls hl => ?_)
          refine lv_goto (tgt := 2) hx hb dX9_survey_60 (by decide) ?_
          refine lv_iload_n hx hb dX9_survey_2 rfl (lv_at hl 0 rfl) ?_
          refine lv_iconst (v := 4) hx hb dX9_survey_3 (by decide) ?_
          refine lv_icmp_ge (tgt := 63) hx hb dX9_survey_4 (by decide) (fun _ => ?_) (fun c_53 => absurd (by decide) c_53)
          have hP := cell_cgJ hP 1 rfl (f' := opF) (by decide +kernel)
          have hD := hD.set (p := 1) (e := .inl (cJ g, 4, .inr (.inl opF))) rfl
          have hP : va_P g.1 classes [(h0, .inr (9, [.ref h0a0, .ref h0a1, .ref h0a2, .ref h0a3, .ref h0a4, .int 0])), (h0a0, .inl (cJ g, 4, .inr (.inl opF))), (h1, .inr (3, [.ref h1s, .ref h1h])), (h1s, .inl (cI g, 64, .inl (fun _ => 0))), (h1h, .inl (cI g, 64, .inl (fun _ => 0)))] H := hP
          have hD : va_D A [(h0, .inr (9, [.ref h0a0, .ref h0a1, .ref h0a2, .ref h0a3, .ref h0a4, .int 0])), (h0a0, .inl (cJ g, 4, .inr (.inl opF))), (h1, .inr (3, [.ref h1s, .ref h1h])), (h1s, .inl (cI g, 64, .inl (fun _ => 0))), (h1h, .inl (cI g, 64, .inl (fun _ => 0)))] := hD
          exact rV X hK hP hD hS dX9_survey_63 (Nat.le_of_ble_eq_true rfl) (Nat.le_of_ble_eq_true rfl) (by show (_ : va_W) = _; unfold sp_X9_survey; try rfl)
