set_option maxRecDepth 200000 in
theorem q_662 : Cond.code yX1_assess cX1_assess 4 none ∈ tb := tb_mem 662 (by rfl) rfl
set_option maxRecDepth 200000 in
theorem q_660 : Cond.instanceMethod yX1_assess ∈ tb := tb_mem 660 (by decide +kernel) rfl
set_option maxRecDepth 200000 in
theorem q_661 : Cond.selects "CityRoad$Buildings" yX1_assess yX1_assess ∈ tb := tb_mem 661 (by decide +kernel) rfl
set_option maxRecDepth 200000 in
theorem q_659 : Cond.methodLink "CityRoad$Buildings" 65 yX1_assess ∈ tb := tb_mem 659 (by decide +kernel) rfl
set_option maxRecDepth 200000 in
theorem q_475 : Cond.fieldLink "CityRoad" 477 "CityRoad" "finding" "I" ∈ tb := tb_mem 475 (by decide +kernel) rfl
theorem dX1_assess_0 : decode cX1_assess 0 = .ok (.aload_n 0, 1) := by decide +kernel
theorem dX1_assess_1 : decode cX1_assess 1 = .ok (.getfield 27, 3) := by decide +kernel
theorem dX1_assess_4 : decode cX1_assess 4 = .ok (.iload_n 1, 1) := by decide +kernel
theorem dX1_assess_5 : decode cX1_assess 5 = .ok (.iload_n 2, 1) := by decide +kernel
theorem dX1_assess_6 : decode cX1_assess 6 = .ok (.iastore, 1) := by decide +kernel
theorem dX1_assess_7 : decode cX1_assess 7 = .ok (.aload_n 0, 1) := by decide +kernel
theorem dX1_assess_8 : decode cX1_assess 8 = .ok (.getfield 39, 3) := by decide +kernel
theorem dX1_assess_11 : decode cX1_assess 11 = .ok (.aload_n 0, 1) := by decide +kernel
theorem dX1_assess_12 : decode cX1_assess 12 = .ok (.getfield 62, 3) := by decide +kernel
theorem dX1_assess_15 : decode cX1_assess 15 = .ok (.iload_n 1, 1) := by decide +kernel
theorem dX1_assess_16 : decode cX1_assess 16 = .ok (.iastore, 1) := by decide +kernel
theorem dX1_assess_17 : decode cX1_assess 17 = .ok (.aload_n 0, 1) := by decide +kernel
theorem dX1_assess_18 : decode cX1_assess 18 = .ok (.getfield 42, 3) := by decide +kernel
theorem dX1_assess_21 : decode cX1_assess 21 = .ok (.aload_n 0, 1) := by decide +kernel
theorem dX1_assess_22 : decode cX1_assess 22 = .ok (.getfield 62, 3) := by decide +kernel
theorem dX1_assess_25 : decode cX1_assess 25 = .ok (.iload_n 3, 1) := by decide +kernel
theorem dX1_assess_26 : decode cX1_assess 26 = .ok (.iastore, 1) := by decide +kernel
theorem dX1_assess_27 : decode cX1_assess 27 = .ok (.aload_n 0, 1) := by decide +kernel
theorem dX1_assess_28 : decode cX1_assess 28 = .ok (.getfield 45, 3) := by decide +kernel
theorem dX1_assess_31 : decode cX1_assess 31 = .ok (.aload_n 0, 1) := by decide +kernel
theorem dX1_assess_32 : decode cX1_assess 32 = .ok (.getfield 62, 3) := by decide +kernel
theorem dX1_assess_35 : decode cX1_assess 35 = .ok (.iload_n 2, 1) := by decide +kernel
theorem dX1_assess_36 : decode cX1_assess 36 = .ok (.iastore, 1) := by decide +kernel
theorem dX1_assess_37 : decode cX1_assess 37 = .ok (.aload_n 0, 1) := by decide +kernel
theorem dX1_assess_38 : decode cX1_assess 38 = .ok (.dup, 1) := by decide +kernel
theorem dX1_assess_39 : decode cX1_assess 39 = .ok (.getfield 62, 3) := by decide +kernel
theorem dX1_assess_42 : decode cX1_assess 42 = .ok (.iconst 1, 1) := by decide +kernel
theorem dX1_assess_43 : decode cX1_assess 43 = .ok (.iadd, 1) := by decide +kernel
theorem dX1_assess_44 : decode cX1_assess 44 = .ok (.putfield 62, 3) := by decide +kernel
theorem dX1_assess_47 : decode cX1_assess 47 = .ok (.return_, 1) := by decide +kernel
theorem dX1_add_0 : decode cX1_add 0 = .ok (.aload_n 0, 1) := by decide +kernel
theorem dX1_add_1 : decode cX1_add 1 = .ok (.getfield 58, 3) := by decide +kernel
theorem dX1_add_4 : decode cX1_add 4 = .ok (.istore 6, 2) := by decide +kernel
theorem dX1_add_6 : decode cX1_add 6 = .ok (.aload_n 0, 1) := by decide +kernel
theorem dX1_add_7 : decode cX1_add 7 = .ok (.dup, 1) := by decide +kernel
theorem dX1_add_8 : decode cX1_add 8 = .ok (.getfield 58, 3) := by decide +kernel
theorem dX1_add_11 : decode cX1_add 11 = .ok (.iconst 1, 1) := by decide +kernel
theorem dX1_add_12 : decode cX1_add 12 = .ok (.iadd, 1) := by decide +kernel
theorem dX1_add_13 : decode cX1_add 13 = .ok (.putfield 58, 3) := by decide +kernel
theorem dX1_add_16 : decode cX1_add 16 = .ok (.aload_n 0, 1) := by decide +kernel
theorem dX1_add_17 : decode cX1_add 17 = .ok (.getfield 11, 3) := by decide +kernel
theorem dX1_add_20 : decode cX1_add 20 = .ok (.iload 6, 2) := by decide +kernel
theorem dX1_add_22 : decode cX1_add 22 = .ok (.iload_n 1, 1) := by decide +kernel
theorem dX1_add_23 : decode cX1_add 23 = .ok (.iastore, 1) := by decide +kernel
theorem dX1_add_24 : decode cX1_add 24 = .ok (.aload_n 0, 1) := by decide +kernel
theorem dX1_add_25 : decode cX1_add 25 = .ok (.getfield 15, 3) := by decide +kernel
theorem dX1_add_28 : decode cX1_add 28 = .ok (.iload 6, 2) := by decide +kernel
theorem dX1_add_30 : decode cX1_add 30 = .ok (.iload_n 2, 1) := by decide +kernel
theorem dX1_add_31 : decode cX1_add 31 = .ok (.iastore, 1) := by decide +kernel
theorem dX1_add_32 : decode cX1_add 32 = .ok (.aload_n 0, 1) := by decide +kernel
theorem dX1_add_33 : decode cX1_add 33 = .ok (.getfield 18, 3) := by decide +kernel
theorem dX1_add_36 : decode cX1_add 36 = .ok (.iload 6, 2) := by decide +kernel
theorem dX1_add_38 : decode cX1_add 38 = .ok (.iload_n 3, 1) := by decide +kernel
theorem dX1_add_39 : decode cX1_add 39 = .ok (.iastore, 1) := by decide +kernel
theorem dX1_add_40 : decode cX1_add 40 = .ok (.aload_n 0, 1) := by decide +kernel
theorem dX1_add_41 : decode cX1_add 41 = .ok (.getfield 24, 3) := by decide +kernel
theorem dX1_add_44 : decode cX1_add 44 = .ok (.iload 6, 2) := by decide +kernel
theorem dX1_add_46 : decode cX1_add 46 = .ok (.bipush (-9), 2) := by decide +kernel
theorem dX1_add_48 : decode cX1_add 48 = .ok (.iastore, 1) := by decide +kernel
theorem dX1_add_49 : decode cX1_add 49 = .ok (.aload_n 0, 1) := by decide +kernel
theorem dX1_add_50 : decode cX1_add 50 = .ok (.getfield 36, 3) := by decide +kernel
theorem dX1_add_53 : decode cX1_add 53 = .ok (.iload_n 1, 1) := by decide +kernel
theorem dX1_add_54 : decode cX1_add 54 = .ok (.iload 6, 2) := by decide +kernel
theorem dX1_add_56 : decode cX1_add 56 = .ok (.iastore, 1) := by decide +kernel
theorem dX1_add_57 : decode cX1_add 57 = .ok (.aload_n 0, 1) := by decide +kernel
theorem dX1_add_58 : decode cX1_add 58 = .ok (.iload 6, 2) := by decide +kernel
theorem dX1_add_60 : decode cX1_add 60 = .ok (.iload 4, 2) := by decide +kernel
theorem dX1_add_62 : decode cX1_add 62 = .ok (.iload 5, 2) := by decide +kernel
theorem dX1_add_64 : decode cX1_add 64 = .ok (.invokevirtual 65, 3) := by decide +kernel
theorem dX1_add_67 : decode cX1_add 67 = .ok (.iload 6, 2) := by decide +kernel
theorem dX1_add_69 : decode cX1_add 69 = .ok (.ireturn, 1) := by decide +kernel
theorem dX4_setGrant_0 : decode cX4_setGrant 0 = .ok (.aload_n 0, 1) := by decide +kernel
theorem dX4_setGrant_1 : decode cX4_setGrant 1 = .ok (.getfield 39, 3) := by decide +kernel
theorem dX4_setGrant_4 : decode cX4_setGrant 4 = .ok (.iload_n 1, 1) := by decide +kernel
theorem dX4_setGrant_5 : decode cX4_setGrant 5 = .ok (.iload_n 2, 1) := by decide +kernel
theorem dX4_setGrant_6 : decode cX4_setGrant 6 = .ok (.iastore, 1) := by decide +kernel
theorem dX4_setGrant_7 : decode cX4_setGrant 7 = .ok (.aload_n 0, 1) := by decide +kernel
theorem dX4_setGrant_8 : decode cX4_setGrant 8 = .ok (.getfield 45, 3) := by decide +kernel
theorem dX4_setGrant_11 : decode cX4_setGrant 11 = .ok (.iload_n 1, 1) := by decide +kernel
theorem dX4_setGrant_12 : decode cX4_setGrant 12 = .ok (.iload_n 3, 1) := by decide +kernel
theorem dX4_setGrant_13 : decode cX4_setGrant 13 = .ok (.iastore, 1) := by decide +kernel
theorem dX4_setGrant_14 : decode cX4_setGrant 14 = .ok (.return_, 1) := by decide +kernel
theorem dX11_found_0 : decode cX11_found 0 = .ok (.aload_n 0, 1) := by decide +kernel
theorem dX11_found_1 : decode cX11_found 1 = .ok (.iload_n 1, 1) := by decide +kernel
theorem dX11_found_2 : decode cX11_found 2 = .ok (.putfield 477, 3) := by decide +kernel
theorem dX11_found_5 : decode cX11_found 5 = .ok (.aload_n 0, 1) := by decide +kernel
theorem dX11_found_6 : decode cX11_found 6 = .ok (.getfield 91, 3) := by decide +kernel
theorem dX11_found_9 : decode cX11_found 9 = .ok (.iload_n 1, 1) := by decide +kernel
theorem dX11_found_10 : decode cX11_found 10 = .ok (.dup2, 1) := by decide +kernel
theorem dX11_found_11 : decode cX11_found 11 = .ok (.iaload, 1) := by decide +kernel
theorem dX11_found_12 : decode cX11_found 12 = .ok (.iconst 1, 1) := by decide +kernel
theorem dX11_found_13 : decode cX11_found 13 = .ok (.iadd, 1) := by decide +kernel
theorem dX11_found_14 : decode cX11_found 14 = .ok (.iastore, 1) := by decide +kernel
theorem dX11_found_15 : decode cX11_found 15 = .ok (.bipush (-3), 2) := by decide +kernel
theorem dX11_found_17 : decode cX11_found 17 = .ok (.ireturn, 1) := by decide +kernel
theorem ok_X1_assess : okM yX1_assess cX1_assess 4 none 3 := ⟨q_662, q_94, by decide +kernel, by decide +kernel, by decide +kernel⟩
theorem okv_X1_assess : okV yX1_assess := ⟨q_660, q_661⟩
def sp_X1_assess (g : GG) (h0 : Nat) (v0 : Int32) (d0 : Int32) (h0a0 : Nat) (h0a1 : Nat) (h0a2 : Nat) (h0a3 : Nat) (h0a4 : Nat) (h0a5 : Nat) (h0a6 : Nat) (h0a7 : Nat) (h0a8 : Nat) (h0a9 : Nat) (h0a10 : Nat) (h0a11 : Nat) (f_h0a5 : Nat → Int32) (f_h0a8 : Nat → Int32) (f_h0a9 : Nat → Int32) (f_h0a10 : Nat → Int32) : va_W := [(h0, .inr (1, [.ref h0a0, .ref h0a1, .ref h0a2, .ref h0a3, .ref h0a4, .ref h0a5, .ref h0a6, .ref h0a7, .ref h0a8, .ref h0a9, .ref h0a10, .ref h0a11, .int 1, .int 1])), (h0a5, .inl (cI g, 32, .inl (upd f_h0a5 0 v0))), (h0a8, .inl (cI g, 100, .inl (upd f_h0a8 0 0))), (h0a9, .inl (cI g, 100, .inl (upd f_h0a9 0 d0))), (h0a10, .inl (cI g, 100, .inl (upd f_h0a10 0 v0)))]
set_option maxHeartbeats 4000000 in
set_option maxRecDepth 100000 in
theorem c_X1_assess (l : Launch) (g : GG) (h0 : Nat) (v0 : Int32) (d0 : Int32) (h0a0 : Nat) (h0a1 : Nat) (h0a2 : Nat) (h0a3 : Nat) (h0a4 : Nat) (h0a5 : Nat) (h0a6 : Nat) (h0a7 : Nat) (h0a8 : Nat) (h0a9 : Nat) (h0a10 : Nat) (h0a11 : Nat) (f_h0a5 : Nat → Int32) (f_h0a8 : Nat → Int32) (f_h0a9 : Nat → Int32) (f_h0a10 : Nat → Int32) : MV l g yX1_assess cX1_assess 4 0 0 0 0 [(h0, .inr (1, [.ref h0a0, .ref h0a1, .ref h0a2, .ref h0a3, .ref h0a4, .ref h0a5, .ref h0a6, .ref h0a7, .ref h0a8, .ref h0a9, .ref h0a10, .ref h0a11, .int 1, .int 0])), (h0a5, .inl (cI g, 32, .inl f_h0a5)), (h0a8, .inl (cI g, 100, .inl f_h0a8)), (h0a9, .inl (cI g, 100, .inl f_h0a9)), (h0a10, .inl (cI g, 100, .inl f_h0a10))] [.ref h0, .int 0, .int v0, .int d0] (fun ww_ => ww_ = sp_X1_assess g h0 v0 d0 h0a0 h0a1 h0a2 h0a3 h0a4 h0a5 h0a6 h0a7 h0a8 h0a9 h0a10 h0a11 f_h0a5 f_h0a8 f_h0a9 f_h0a10) := by
  refine met_of (fun A => va_Qv _ (bW g A) A) (by decide) (Nat.le_of_ble_eq_true rfl) ?_
  intro p e s m below meth c A ls X hK hP hD hA hZ hS hl
  have hx := X.1
  have hb := X.2.1
  have hml := X.2.2.1
  have hown := X.2.2.2.1
  have hts := X.2.2.2.2.1
  have hnm := X.2.2.2.2.2.2.2
  have hl : lv_has ls 4 [(0, .ref h0), (1, .int 0), (2, .int v0), (3, .int d0)] := hl
  refine lv_aload_n hx hb dX1_assess_0 rfl (lv_at hl 0 rfl) ?_
  refine va_get (D := g.1) (ci := 1) (v := .ref h0a5) (C := RX1) (T := TX1) (N := 14) hx hb hts fw_X1 hown hK hP 0 rfl rfl 5 (by decide) (hts _ q_165) (fun _ h9 => h9) rfl dX1_assess_1 ?_
  refine lv_iload_n hx hb dX1_assess_4 rfl (lv_at hl 1 rfl) ?_
  refine lv_iload_n hx hb dX1_assess_5 rfl (lv_at hl 2 rfl) ?_
  refine va_iast hx hb hK hP hD hS 1 0 rfl rfl (by unfold vp_in; decide) dX1_assess_6 (fun H locs hP hD hS => ?_)
  have hP : va_P g.1 classes [(h0, .inr (1, [.ref h0a0, .ref h0a1, .ref h0a2, .ref h0a3, .ref h0a4, .ref h0a5, .ref h0a6, .ref h0a7, .ref h0a8, .ref h0a9, .ref h0a10, .ref h0a11, .int 1, .int 0])), (h0a5, .inl (cI g, 32, .inl (upd f_h0a5 0 v0))), (h0a8, .inl (cI g, 100, .inl f_h0a8)), (h0a9, .inl (cI g, 100, .inl f_h0a9)), (h0a10, .inl (cI g, 100, .inl f_h0a10))] H := hP
  have hD : va_D A [(h0, .inr (1, [.ref h0a0, .ref h0a1, .ref h0a2, .ref h0a3, .ref h0a4, .ref h0a5, .ref h0a6, .ref h0a7, .ref h0a8, .ref h0a9, .ref h0a10, .ref h0a11, .int 1, .int 0])), (h0a5, .inl (cI g, 32, .inl (upd f_h0a5 0 v0))), (h0a8, .inl (cI g, 100, .inl f_h0a8)), (h0a9, .inl (cI g, 100, .inl f_h0a9)), (h0a10, .inl (cI g, 100, .inl f_h0a10))] := hD
  refine lv_aload_n hx hb dX1_assess_7 rfl (lv_at hl 0 rfl) ?_
  refine va_get (D := g.1) (ci := 1) (v := .ref h0a8) (C := RX1) (T := TX1) (N := 14) hx hb hts fw_X1 hown hK hP 0 rfl rfl 8 (by decide) (hts _ q_168) (fun _ h9 => h9) rfl dX1_assess_8 ?_
  refine lv_aload_n hx hb dX1_assess_11 rfl (lv_at hl 0 rfl) ?_
  refine va_get (D := g.1) (ci := 1) (v := .int 0) (C := RX1) (T := TX1) (N := 14) hx hb hts fw_X1 hown hK hP 0 rfl rfl 13 (by decide) (hts _ q_173) (fun _ h9 => h9) rfl dX1_assess_12 ?_
  refine lv_iload_n hx hb dX1_assess_15 rfl (lv_at hl 1 rfl) ?_
  refine va_iast hx hb hK hP hD hS 2 0 rfl rfl (by unfold vp_in; decide) dX1_assess_16 (fun H locs hP hD hS => ?_)
  have hP : va_P g.1 classes [(h0, .inr (1, [.ref h0a0, .ref h0a1, .ref h0a2, .ref h0a3, .ref h0a4, .ref h0a5, .ref h0a6, .ref h0a7, .ref h0a8, .ref h0a9, .ref h0a10, .ref h0a11, .int 1, .int 0])), (h0a5, .inl (cI g, 32, .inl (upd f_h0a5 0 v0))), (h0a8, .inl (cI g, 100, .inl (upd f_h0a8 0 0))), (h0a9, .inl (cI g, 100, .inl f_h0a9)), (h0a10, .inl (cI g, 100, .inl f_h0a10))] H := hP
  have hD : va_D A [(h0, .inr (1, [.ref h0a0, .ref h0a1, .ref h0a2, .ref h0a3, .ref h0a4, .ref h0a5, .ref h0a6, .ref h0a7, .ref h0a8, .ref h0a9, .ref h0a10, .ref h0a11, .int 1, .int 0])), (h0a5, .inl (cI g, 32, .inl (upd f_h0a5 0 v0))), (h0a8, .inl (cI g, 100, .inl (upd f_h0a8 0 0))), (h0a9, .inl (cI g, 100, .inl f_h0a9)), (h0a10, .inl (cI g, 100, .inl f_h0a10))] := hD
  refine lv_aload_n hx hb dX1_assess_17 rfl (lv_at hl 0 rfl) ?_
  refine va_get (D := g.1) (ci := 1) (v := .ref h0a9) (C := RX1) (T := TX1) (N := 14) hx hb hts fw_X1 hown hK hP 0 rfl rfl 9 (by decide) (hts _ q_169) (fun _ h9 => h9) rfl dX1_assess_18 ?_
  refine lv_aload_n hx hb dX1_assess_21 rfl (lv_at hl 0 rfl) ?_
  refine va_get (D := g.1) (ci := 1) (v := .int 0) (C := RX1) (T := TX1) (N := 14) hx hb hts fw_X1 hown hK hP 0 rfl rfl 13 (by decide) (hts _ q_173) (fun _ h9 => h9) rfl dX1_assess_22 ?_
  refine lv_iload_n hx hb dX1_assess_25 rfl (lv_at hl 3 rfl) ?_
  refine va_iast hx hb hK hP hD hS 3 0 rfl rfl (by unfold vp_in; decide) dX1_assess_26 (fun H locs hP hD hS => ?_)
  have hP : va_P g.1 classes [(h0, .inr (1, [.ref h0a0, .ref h0a1, .ref h0a2, .ref h0a3, .ref h0a4, .ref h0a5, .ref h0a6, .ref h0a7, .ref h0a8, .ref h0a9, .ref h0a10, .ref h0a11, .int 1, .int 0])), (h0a5, .inl (cI g, 32, .inl (upd f_h0a5 0 v0))), (h0a8, .inl (cI g, 100, .inl (upd f_h0a8 0 0))), (h0a9, .inl (cI g, 100, .inl (upd f_h0a9 0 d0))), (h0a10, .inl (cI g, 100, .inl f_h0a10))] H := hP
  have hD : va_D A [(h0, .inr (1, [.ref h0a0, .ref h0a1, .ref h0a2, .ref h0a3, .ref h0a4, .ref h0a5, .ref h0a6, .ref h0a7, .ref h0a8, .ref h0a9, .ref h0a10, .ref h0a11, .int 1, .int 0])), (h0a5, .inl (cI g, 32, .inl (upd f_h0a5 0 v0))), (h0a8, .inl (cI g, 100, .inl (upd f_h0a8 0 0))), (h0a9, .inl (cI g, 100, .inl (upd f_h0a9 0 d0))), (h0a10, .inl (cI g, 100, .inl f_h0a10))] := hD
  refine lv_aload_n hx hb dX1_assess_27 rfl (lv_at hl 0 rfl) ?_
  refine va_get (D := g.1) (ci := 1) (v := .ref h0a10) (C := RX1) (T := TX1) (N := 14) hx hb hts fw_X1 hown hK hP 0 rfl rfl 10 (by decide) (hts _ q_170) (fun _ h9 => h9) rfl dX1_assess_28 ?_
  refine lv_aload_n hx hb dX1_assess_31 rfl (lv_at hl 0 rfl) ?_
  refine va_get (D := g.1) (ci := 1) (v := .int 0) (C := RX1) (T := TX1) (N := 14) hx hb hts fw_X1 hown hK hP 0 rfl rfl 13 (by decide) (hts _ q_173) (fun _ h9 => h9) rfl dX1_assess_32 ?_
  refine lv_iload_n hx hb dX1_assess_35 rfl (lv_at hl 2 rfl) ?_
  refine va_iast hx hb hK hP hD hS 4 0 rfl rfl (by unfold vp_in; decide) dX1_assess_36 (fun H locs hP hD hS => ?_)
  have hP : va_P g.1 classes [(h0, .inr (1, [.ref h0a0, .ref h0a1, .ref h0a2, .ref h0a3, .ref h0a4, .ref h0a5, .ref h0a6, .ref h0a7, .ref h0a8, .ref h0a9, .ref h0a10, .ref h0a11, .int 1, .int 0])), (h0a5, .inl (cI g, 32, .inl (upd f_h0a5 0 v0))), (h0a8, .inl (cI g, 100, .inl (upd f_h0a8 0 0))), (h0a9, .inl (cI g, 100, .inl (upd f_h0a9 0 d0))), (h0a10, .inl (cI g, 100, .inl (upd f_h0a10 0 v0)))] H := hP
  have hD : va_D A [(h0, .inr (1, [.ref h0a0, .ref h0a1, .ref h0a2, .ref h0a3, .ref h0a4, .ref h0a5, .ref h0a6, .ref h0a7, .ref h0a8, .ref h0a9, .ref h0a10, .ref h0a11, .int 1, .int 0])), (h0a5, .inl (cI g, 32, .inl (upd f_h0a5 0 v0))), (h0a8, .inl (cI g, 100, .inl (upd f_h0a8 0 0))), (h0a9, .inl (cI g, 100, .inl (upd f_h0a9 0 d0))), (h0a10, .inl (cI g, 100, .inl (upd f_h0a10 0 v0)))] := hD
  refine lv_aload_n hx hb dX1_assess_37 rfl (lv_at hl 0 rfl) ?_
  refine lv_dup hx hb dX1_assess_38 rfl ?_
  refine va_get (D := g.1) (ci := 1) (v := .int 0) (C := RX1) (T := TX1) (N := 14) hx hb hts fw_X1 hown hK hP 0 rfl rfl 13 (by decide) (hts _ q_173) (fun _ h9 => h9) rfl dX1_assess_39 ?_
  refine lv_iconst (v := 1) hx hb dX1_assess_42 (by decide) ?_
  refine lv_iadd hx hb dX1_assess_43 ?_
  refine lv_topk (v := 1) (by decide) ?_
  refine va_put (D := g.1) (ci := 1) (v := .int 1) (ty := .int) (C := RX1) (T := TX1) (N := 14) hx hb hts fw_X1 tyX1 tyX1_ok nmX1 hown hK hP hD hS 0 rfl rfl 13 (by decide) (hts _ q_173) (fun _ h9 => h9) rfl (by decide +kernel) rfl rfl (Nat.le_of_ble_eq_true rfl) dX1_assess_44 (fun H locs hP hD hS => ?_)
  have hP : va_P g.1 classes [(h0, .inr (1, [.ref h0a0, .ref h0a1, .ref h0a2, .ref h0a3, .ref h0a4, .ref h0a5, .ref h0a6, .ref h0a7, .ref h0a8, .ref h0a9, .ref h0a10, .ref h0a11, .int 1, .int 1])), (h0a5, .inl (cI g, 32, .inl (upd f_h0a5 0 v0))), (h0a8, .inl (cI g, 100, .inl (upd f_h0a8 0 0))), (h0a9, .inl (cI g, 100, .inl (upd f_h0a9 0 d0))), (h0a10, .inl (cI g, 100, .inl (upd f_h0a10 0 v0)))] H := hP
  have hD : va_D A [(h0, .inr (1, [.ref h0a0, .ref h0a1, .ref h0a2, .ref h0a3, .ref h0a4, .ref h0a5, .ref h0a6, .ref h0a7, .ref h0a8, .ref h0a9, .ref h0a10, .ref h0a11, .int 1, .int 1])), (h0a5, .inl (cI g, 32, .inl (upd f_h0a5 0 v0))), (h0a8, .inl (cI g, 100, .inl (upd f_h0a8 0 0))), (h0a9, .inl (cI g, 100, .inl (upd f_h0a9 0 d0))), (h0a10, .inl (cI g, 100, .inl (upd f_h0a10 0 v0)))] := hD
  exact rV X hK hP hD hS dX1_assess_47 (Nat.le_of_ble_eq_true rfl) (Nat.le_of_ble_eq_true rfl) (by show (_ : va_W) = _; unfold sp_X1_assess; try rfl)
def sp_X1_add (g : GG) (h0 : Nat) (c0 : Int32) (u0 : Int32) (o0 : Int32) (v0 : Int32) (h0a0 : Nat) (h0a1 : Nat) (h0a2 : Nat) (h0a3 : Nat) (h0a4 : Nat) (h0a5 : Nat) (h0a6 : Nat) (h0a7 : Nat) (h0a8 : Nat) (h0a9 : Nat) (h0a10 : Nat) (h0a11 : Nat) : Int32 × va_W := (0, [(h0a0, .inl (cI g, 32, .inl (upd (fun _ => 0) 0 c0))), (h0a1, .inl (cI g, 32, .inl (upd (fun _ => 0) 0 u0))), (h0a2, .inl (cI g, 32, .inl (upd (fun _ => 0) 0 o0))), (h0a4, .inl (cI g, 32, .inl (upd (fun _ => 0) 0 (-9)))), (h0a7, .inl (cI g, 64, .inl (upd (fun _ => (-9)) (c0).toNatClampNeg 0))), (h0, .inr (1, [.ref h0a0, .ref h0a1, .ref h0a2, .ref h0a3, .ref h0a4, .ref h0a5, .ref h0a6, .ref h0a7, .ref h0a8, .ref h0a9, .ref h0a10, .ref h0a11, .int 1, .int 1])), (h0a5, .inl (cI g, 32, .inl (upd (fun _ => 0) 0 v0))), (h0a8, .inl (cI g, 100, .inl (upd (fun _ => 0) 0 0))), (h0a9, .inl (cI g, 100, .inl (upd (fun _ => 0) 0 0))), (h0a10, .inl (cI g, 100, .inl (upd (fun _ => 0) 0 v0)))])
set_option maxHeartbeats 4000000 in
set_option maxRecDepth 100000 in
theorem c_X1_add (l : Launch) (g : GG) (h0 : Nat) (c0 : Int32) (u0 : Int32) (o0 : Int32) (v0 : Int32) (h0a0 : Nat) (h0a1 : Nat) (h0a2 : Nat) (h0a3 : Nat) (h0a4 : Nat) (h0a5 : Nat) (h0a6 : Nat) (h0a7 : Nat) (h0a8 : Nat) (h0a9 : Nat) (h0a10 : Nat) (h0a11 : Nat) (hc0 : ¬ (c0 < 0)) (hc6 : ¬ (64 ≤ c0)) : MI l g yX1_add cX1_add 7 (some .int) 1 23 0 0 [(h0, .inr (1, [.ref h0a0, .ref h0a1, .ref h0a2, .ref h0a3, .ref h0a4, .ref h0a5, .ref h0a6, .ref h0a7, .ref h0a8, .ref h0a9, .ref h0a10, .ref h0a11, .int 0, .int 0])), (h0a0, .inl (cI g, 32, .inl (fun _ => 0))), (h0a1, .inl (cI g, 32, .inl (fun _ => 0))), (h0a2, .inl (cI g, 32, .inl (fun _ => 0))), (h0a4, .inl (cI g, 32, .inl (fun _ => 0))), (h0a5, .inl (cI g, 32, .inl (fun _ => 0))), (h0a7, .inl (cI g, 64, .inl (fun _ => (-9)))), (h0a8, .inl (cI g, 100, .inl (fun _ => 0))), (h0a9, .inl (cI g, 100, .inl (fun _ => 0))), (h0a10, .inl (cI g, 100, .inl (fun _ => 0)))] [.ref h0, .int c0, .int u0, .int o0, .int v0, .int 0] (fun rr_ ww_ => (rr_, ww_) = sp_X1_add g h0 c0 u0 o0 v0 h0a0 h0a1 h0a2 h0a3 h0a4 h0a5 h0a6 h0a7 h0a8 h0a9 h0a10 h0a11) := by
  refine met_of (fun A => va_Qi _ (bW g A) A) (by decide) (Nat.le_of_ble_eq_true rfl) ?_
  intro p e s m below meth c A ls X hK hP hD hA hZ hS hl
  have hx := X.1
  have hb := X.2.1
  have hml := X.2.2.1
  have hown := X.2.2.2.1
  have hts := X.2.2.2.2.1
  have hnm := X.2.2.2.2.2.2.2
  have hl : lv_has ls 7 [(0, .ref h0), (1, .int c0), (2, .int u0), (3, .int o0), (4, .int v0), (5, .int 0)] := hl
  refine lv_aload_n hx hb dX1_add_0 rfl (lv_at hl 0 rfl) ?_
  refine va_get (D := g.1) (ci := 1) (v := .int 0) (C := RX1) (T := TX1) (N := 14) hx hb hts fw_X1 hown hK hP 0 rfl rfl 12 (by decide) (hts _ q_172) (fun _ h9 => h9) rfl dX1_add_1 ?_
  refine lv_istore (lv' := [(6, .int 0), (0, .ref h0), (1, .int c0), (2, .int u0), (3, .int o0), (4, .int v0), (5, .int 0)]) hx hb dX1_add_4 hl (by decide) rfl (fun ls hl => ?_)
  refine lv_aload_n hx hb dX1_add_6 rfl (lv_at hl 1 rfl) ?_
  refine lv_dup hx hb dX1_add_7 rfl ?_
  refine va_get (D := g.1) (ci := 1) (v := .int 0) (C := RX1) (T := TX1) (N := 14) hx hb hts fw_X1 hown hK hP 0 rfl rfl 12 (by decide) (hts _ q_172) (fun _ h9 => h9) rfl dX1_add_8 ?_
  refine lv_iconst (v := 1) hx hb dX1_add_11 (by decide) ?_
  refine lv_iadd hx hb dX1_add_12 ?_
  refine lv_topk (v := 1) (by decide) ?_
  refine va_put (D := g.1) (ci := 1) (v := .int 1) (ty := .int) (C := RX1) (T := TX1) (N := 14) hx hb hts fw_X1 tyX1 tyX1_ok nmX1 hown hK hP hD hS 0 rfl rfl 12 (by decide) (hts _ q_172) (fun _ h9 => h9) rfl (by decide +kernel) rfl rfl (Nat.le_of_ble_eq_true rfl) dX1_add_13 (fun H locs hP hD hS => ?_)
  have hP : va_P g.1 classes [(h0, .inr (1, [.ref h0a0, .ref h0a1, .ref h0a2, .ref h0a3, .ref h0a4, .ref h0a5, .ref h0a6, .ref h0a7, .ref h0a8, .ref h0a9, .ref h0a10, .ref h0a11, .int 1, .int 0])), (h0a0, .inl (cI g, 32, .inl (fun _ => 0))), (h0a1, .inl (cI g, 32, .inl (fun _ => 0))), (h0a2, .inl (cI g, 32, .inl (fun _ => 0))), (h0a4, .inl (cI g, 32, .inl (fun _ => 0))), (h0a5, .inl (cI g, 32, .inl (fun _ => 0))), (h0a7, .inl (cI g, 64, .inl (fun _ => (-9)))), (h0a8, .inl (cI g, 100, .inl (fun _ => 0))), (h0a9, .inl (cI g, 100, .inl (fun _ => 0))), (h0a10, .inl (cI g, 100, .inl (fun _ => 0)))] H := hP
  have hD : va_D A [(h0, .inr (1, [.ref h0a0, .ref h0a1, .ref h0a2, .ref h0a3, .ref h0a4, .ref h0a5, .ref h0a6, .ref h0a7, .ref h0a8, .ref h0a9, .ref h0a10, .ref h0a11, .int 1, .int 0])), (h0a0, .inl (cI g, 32, .inl (fun _ => 0))), (h0a1, .inl (cI g, 32, .inl (fun _ => 0))), (h0a2, .inl (cI g, 32, .inl (fun _ => 0))), (h0a4, .inl (cI g, 32, .inl (fun _ => 0))), (h0a5, .inl (cI g, 32, .inl (fun _ => 0))), (h0a7, .inl (cI g, 64, .inl (fun _ => (-9)))), (h0a8, .inl (cI g, 100, .inl (fun _ => 0))), (h0a9, .inl (cI g, 100, .inl (fun _ => 0))), (h0a10, .inl (cI g, 100, .inl (fun _ => 0)))] := hD
  refine lv_aload_n hx hb dX1_add_16 rfl (lv_at hl 1 rfl) ?_
  refine va_get (D := g.1) (ci := 1) (v := .ref h0a0) (C := RX1) (T := TX1) (N := 14) hx hb hts fw_X1 hown hK hP 0 rfl rfl 0 (by decide) (hts _ q_160) (fun _ h9 => h9) rfl dX1_add_17 ?_
  refine lv_iload hx hb dX1_add_20 (lv_at hl 0 rfl) ?_
  refine lv_iload_n hx hb dX1_add_22 rfl (lv_at hl 2 rfl) ?_
  refine va_iast hx hb hK hP hD hS 1 0 rfl rfl (by unfold vp_in; decide) dX1_add_23 (fun H locs hP hD hS => ?_)
  have hP : va_P g.1 classes [(h0, .inr (1, [.ref h0a0, .ref h0a1, .ref h0a2, .ref h0a3, .ref h0a4, .ref h0a5, .ref h0a6, .ref h0a7, .ref h0a8, .ref h0a9, .ref h0a10, .ref h0a11, .int 1, .int 0])), (h0a0, .inl (cI g, 32, .inl (upd (fun _ => 0) 0 c0))), (h0a1, .inl (cI g, 32, .inl (fun _ => 0))), (h0a2, .inl (cI g, 32, .inl (fun _ => 0))), (h0a4, .inl (cI g, 32, .inl (fun _ => 0))), (h0a5, .inl (cI g, 32, .inl (fun _ => 0))), (h0a7, .inl (cI g, 64, .inl (fun _ => (-9)))), (h0a8, .inl (cI g, 100, .inl (fun _ => 0))), (h0a9, .inl (cI g, 100, .inl (fun _ => 0))), (h0a10, .inl (cI g, 100, .inl (fun _ => 0)))] H := hP
  have hD : va_D A [(h0, .inr (1, [.ref h0a0, .ref h0a1, .ref h0a2, .ref h0a3, .ref h0a4, .ref h0a5, .ref h0a6, .ref h0a7, .ref h0a8, .ref h0a9, .ref h0a10, .ref h0a11, .int 1, .int 0])), (h0a0, .inl (cI g, 32, .inl (upd (fun _ => 0) 0 c0))), (h0a1, .inl (cI g, 32, .inl (fun _ => 0))), (h0a2, .inl (cI g, 32, .inl (fun _ => 0))), (h0a4, .inl (cI g, 32, .inl (fun _ => 0))), (h0a5, .inl (cI g, 32, .inl (fun _ => 0))), (h0a7, .inl (cI g, 64, .inl (fun _ => (-9)))), (h0a8, .inl (cI g, 100, .inl (fun _ => 0))), (h0a9, .inl (cI g, 100, .inl (fun _ => 0))), (h0a10, .inl (cI g, 100, .inl (fun _ => 0)))] := hD
  refine lv_aload_n hx hb dX1_add_24 rfl (lv_at hl 1 rfl) ?_
  refine va_get (D := g.1) (ci := 1) (v := .ref h0a1) (C := RX1) (T := TX1) (N := 14) hx hb hts fw_X1 hown hK hP 0 rfl rfl 1 (by decide) (hts _ q_161) (fun _ h9 => h9) rfl dX1_add_25 ?_
  refine lv_iload hx hb dX1_add_28 (lv_at hl 0 rfl) ?_
  refine lv_iload_n hx hb dX1_add_30 rfl (lv_at hl 3 rfl) ?_
  refine va_iast hx hb hK hP hD hS 2 0 rfl rfl (by unfold vp_in; decide) dX1_add_31 (fun H locs hP hD hS => ?_)
  have hP : va_P g.1 classes [(h0, .inr (1, [.ref h0a0, .ref h0a1, .ref h0a2, .ref h0a3, .ref h0a4, .ref h0a5, .ref h0a6, .ref h0a7, .ref h0a8, .ref h0a9, .ref h0a10, .ref h0a11, .int 1, .int 0])), (h0a0, .inl (cI g, 32, .inl (upd (fun _ => 0) 0 c0))), (h0a1, .inl (cI g, 32, .inl (upd (fun _ => 0) 0 u0))), (h0a2, .inl (cI g, 32, .inl (fun _ => 0))), (h0a4, .inl (cI g, 32, .inl (fun _ => 0))), (h0a5, .inl (cI g, 32, .inl (fun _ => 0))), (h0a7, .inl (cI g, 64, .inl (fun _ => (-9)))), (h0a8, .inl (cI g, 100, .inl (fun _ => 0))), (h0a9, .inl (cI g, 100, .inl (fun _ => 0))), (h0a10, .inl (cI g, 100, .inl (fun _ => 0)))] H := hP
  have hD : va_D A [(h0, .inr (1, [.ref h0a0, .ref h0a1, .ref h0a2, .ref h0a3, .ref h0a4, .ref h0a5, .ref h0a6, .ref h0a7, .ref h0a8, .ref h0a9, .ref h0a10, .ref h0a11, .int 1, .int 0])), (h0a0, .inl (cI g, 32, .inl (upd (fun _ => 0) 0 c0))), (h0a1, .inl (cI g, 32, .inl (upd (fun _ => 0) 0 u0))), (h0a2, .inl (cI g, 32, .inl (fun _ => 0))), (h0a4, .inl (cI g, 32, .inl (fun _ => 0))), (h0a5, .inl (cI g, 32, .inl (fun _ => 0))), (h0a7, .inl (cI g, 64, .inl (fun _ => (-9)))), (h0a8, .inl (cI g, 100, .inl (fun _ => 0))), (h0a9, .inl (cI g, 100, .inl (fun _ => 0))), (h0a10, .inl (cI g, 100, .inl (fun _ => 0)))] := hD
  refine lv_aload_n hx hb dX1_add_32 rfl (lv_at hl 1 rfl) ?_
  refine va_get (D := g.1) (ci := 1) (v := .ref h0a2) (C := RX1) (T := TX1) (N := 14) hx hb hts fw_X1 hown hK hP 0 rfl rfl 2 (by decide) (hts _ q_162) (fun _ h9 => h9) rfl dX1_add_33 ?_
  refine lv_iload hx hb dX1_add_36 (lv_at hl 0 rfl) ?_
  refine lv_iload_n hx hb dX1_add_38 rfl (lv_at hl 4 rfl) ?_
  refine va_iast hx hb hK hP hD hS 3 0 rfl rfl (by unfold vp_in; decide) dX1_add_39 (fun H locs hP hD hS => ?_)
  have hP : va_P g.1 classes [(h0, .inr (1, [.ref h0a0, .ref h0a1, .ref h0a2, .ref h0a3, .ref h0a4, .ref h0a5, .ref h0a6, .ref h0a7, .ref h0a8, .ref h0a9, .ref h0a10, .ref h0a11, .int 1, .int 0])), (h0a0, .inl (cI g, 32, .inl (upd (fun _ => 0) 0 c0))), (h0a1, .inl (cI g, 32, .inl (upd (fun _ => 0) 0 u0))), (h0a2, .inl (cI g, 32, .inl (upd (fun _ => 0) 0 o0))), (h0a4, .inl (cI g, 32, .inl (fun _ => 0))), (h0a5, .inl (cI g, 32, .inl (fun _ => 0))), (h0a7, .inl (cI g, 64, .inl (fun _ => (-9)))), (h0a8, .inl (cI g, 100, .inl (fun _ => 0))), (h0a9, .inl (cI g, 100, .inl (fun _ => 0))), (h0a10, .inl (cI g, 100, .inl (fun _ => 0)))] H := hP
  have hD : va_D A [(h0, .inr (1, [.ref h0a0, .ref h0a1, .ref h0a2, .ref h0a3, .ref h0a4, .ref h0a5, .ref h0a6, .ref h0a7, .ref h0a8, .ref h0a9, .ref h0a10, .ref h0a11, .int 1, .int 0])), (h0a0, .inl (cI g, 32, .inl (upd (fun _ => 0) 0 c0))), (h0a1, .inl (cI g, 32, .inl (upd (fun _ => 0) 0 u0))), (h0a2, .inl (cI g, 32, .inl (upd (fun _ => 0) 0 o0))), (h0a4, .inl (cI g, 32, .inl (fun _ => 0))), (h0a5, .inl (cI g, 32, .inl (fun _ => 0))), (h0a7, .inl (cI g, 64, .inl (fun _ => (-9)))), (h0a8, .inl (cI g, 100, .inl (fun _ => 0))), (h0a9, .inl (cI g, 100, .inl (fun _ => 0))), (h0a10, .inl (cI g, 100, .inl (fun _ => 0)))] := hD
  refine lv_aload_n hx hb dX1_add_40 rfl (lv_at hl 1 rfl) ?_
  refine va_get (D := g.1) (ci := 1) (v := .ref h0a4) (C := RX1) (T := TX1) (N := 14) hx hb hts fw_X1 hown hK hP 0 rfl rfl 4 (by decide) (hts _ q_164) (fun _ h9 => h9) rfl dX1_add_41 ?_
  refine lv_iload hx hb dX1_add_44 (lv_at hl 0 rfl) ?_
  refine lv_bipush (v := (-9)) hx hb dX1_add_46 (by decide) ?_
  refine va_iast hx hb hK hP hD hS 4 0 rfl rfl (by unfold vp_in; decide) dX1_add_48 (fun H locs hP hD hS => ?_)
  have hP : va_P g.1 classes [(h0, .inr (1, [.ref h0a0, .ref h0a1, .ref h0a2, .ref h0a3, .ref h0a4, .ref h0a5, .ref h0a6, .ref h0a7, .ref h0a8, .ref h0a9, .ref h0a10, .ref h0a11, .int 1, .int 0])), (h0a0, .inl (cI g, 32, .inl (upd (fun _ => 0) 0 c0))), (h0a1, .inl (cI g, 32, .inl (upd (fun _ => 0) 0 u0))), (h0a2, .inl (cI g, 32, .inl (upd (fun _ => 0) 0 o0))), (h0a4, .inl (cI g, 32, .inl (upd (fun _ => 0) 0 (-9)))), (h0a5, .inl (cI g, 32, .inl (fun _ => 0))), (h0a7, .inl (cI g, 64, .inl (fun _ => (-9)))), (h0a8, .inl (cI g, 100, .inl (fun _ => 0))), (h0a9, .inl (cI g, 100, .inl (fun _ => 0))), (h0a10, .inl (cI g, 100, .inl (fun _ => 0)))] H := hP
  have hD : va_D A [(h0, .inr (1, [.ref h0a0, .ref h0a1, .ref h0a2, .ref h0a3, .ref h0a4, .ref h0a5, .ref h0a6, .ref h0a7, .ref h0a8, .ref h0a9, .ref h0a10, .ref h0a11, .int 1, .int 0])), (h0a0, .inl (cI g, 32, .inl (upd (fun _ => 0) 0 c0))), (h0a1, .inl (cI g, 32, .inl (upd (fun _ => 0) 0 u0))), (h0a2, .inl (cI g, 32, .inl (upd (fun _ => 0) 0 o0))), (h0a4, .inl (cI g, 32, .inl (upd (fun _ => 0) 0 (-9)))), (h0a5, .inl (cI g, 32, .inl (fun _ => 0))), (h0a7, .inl (cI g, 64, .inl (fun _ => (-9)))), (h0a8, .inl (cI g, 100, .inl (fun _ => 0))), (h0a9, .inl (cI g, 100, .inl (fun _ => 0))), (h0a10, .inl (cI g, 100, .inl (fun _ => 0)))] := hD
  refine lv_aload_n hx hb dX1_add_49 rfl (lv_at hl 1 rfl) ?_
  refine va_get (D := g.1) (ci := 1) (v := .ref h0a7) (C := RX1) (T := TX1) (N := 14) hx hb hts fw_X1 hown hK hP 0 rfl rfl 7 (by decide) (hts _ q_167) (fun _ h9 => h9) rfl dX1_add_50 ?_
  refine lv_iload_n hx hb dX1_add_53 rfl (lv_at hl 2 rfl) ?_
  refine lv_iload hx hb dX1_add_54 (lv_at hl 0 rfl) ?_
  refine va_iast hx hb hK hP hD hS 6 0 rfl rfl (vp_in_iff.mpr (by simp only [i32lt, i32le, i32eq, Int32.reduceToInt] at hc0 hc6; omega)) dX1_add_56 (fun H locs hP hD hS => ?_)
  have hP : va_P g.1 classes [(h0, .inr (1, [.ref h0a0, .ref h0a1, .ref h0a2, .ref h0a3, .ref h0a4, .ref h0a5, .ref h0a6, .ref h0a7, .ref h0a8, .ref h0a9, .ref h0a10, .ref h0a11, .int 1, .int 0])), (h0a0, .inl (cI g, 32, .inl (upd (fun _ => 0) 0 c0))), (h0a1, .inl (cI g, 32, .inl (upd (fun _ => 0) 0 u0))), (h0a2, .inl (cI g, 32, .inl (upd (fun _ => 0) 0 o0))), (h0a4, .inl (cI g, 32, .inl (upd (fun _ => 0) 0 (-9)))), (h0a5, .inl (cI g, 32, .inl (fun _ => 0))), (h0a7, .inl (cI g, 64, .inl (upd (fun _ => (-9)) (c0).toNatClampNeg 0))), (h0a8, .inl (cI g, 100, .inl (fun _ => 0))), (h0a9, .inl (cI g, 100, .inl (fun _ => 0))), (h0a10, .inl (cI g, 100, .inl (fun _ => 0)))] H := hP
  have hD : va_D A [(h0, .inr (1, [.ref h0a0, .ref h0a1, .ref h0a2, .ref h0a3, .ref h0a4, .ref h0a5, .ref h0a6, .ref h0a7, .ref h0a8, .ref h0a9, .ref h0a10, .ref h0a11, .int 1, .int 0])), (h0a0, .inl (cI g, 32, .inl (upd (fun _ => 0) 0 c0))), (h0a1, .inl (cI g, 32, .inl (upd (fun _ => 0) 0 u0))), (h0a2, .inl (cI g, 32, .inl (upd (fun _ => 0) 0 o0))), (h0a4, .inl (cI g, 32, .inl (upd (fun _ => 0) 0 (-9)))), (h0a5, .inl (cI g, 32, .inl (fun _ => 0))), (h0a7, .inl (cI g, 64, .inl (upd (fun _ => (-9)) (c0).toNatClampNeg 0))), (h0a8, .inl (cI g, 100, .inl (fun _ => 0))), (h0a9, .inl (cI g, 100, .inl (fun _ => 0))), (h0a10, .inl (cI g, 100, .inl (fun _ => 0)))] := hD
  refine lv_aload_n hx hb dX1_add_57 rfl (lv_at hl 1 rfl) ?_
  refine lv_iload hx hb dX1_add_58 (lv_at hl 0 rfl) ?_
  refine lv_iload hx hb dX1_add_60 (lv_at hl 5 rfl) ?_
  refine lv_iload hx hb dX1_add_62 (lv_at hl 6 rfl) ?_
  refine kVv (As := [.int 0, .int v0, .int 0]) (rest := []) (wr := [(h0a0, .inl (cI g, 32, .inl (upd (fun _ => 0) 0 c0))), (h0a1, .inl (cI g, 32, .inl (upd (fun _ => 0) 0 u0))), (h0a2, .inl (cI g, 32, .inl (upd (fun _ => 0) 0 o0))), (h0a4, .inl (cI g, 32, .inl (upd (fun _ => 0) 0 (-9)))), (h0a7, .inl (cI g, 64, .inl (upd (fun _ => (-9)) (c0).toNatClampNeg 0)))]) X (c_X1_assess l g h0 v0 0 h0a0 h0a1 h0a2 h0a3 h0a4 h0a5 h0a6 h0a7 h0a8 h0a9 h0a10 h0a11 (fun _ => 0) (fun _ => 0) (fun _ => 0) (fun _ => 0)) ok_X1_assess okv_X1_assess q_659 rfl hK hP hD hS hA hZ hl.1 [0, 5, 7, 8, 9] [1, 2, 3, 4, 6] rfl rfl rfl rfl rfl 0 1 rfl rfl rfl (Nat.le_of_ble_eq_true rfl) ⟨Nat.le_of_ble_eq_true rfl, Nat.le_of_ble_eq_true rfl⟩ dX1_add_64 ⟨Nat.le_of_ble_eq_true rfl, Nat.le_of_ble_eq_true rfl⟩ (fun w1 H locs hw_2 hP hD hS => ?_)
  rw [sp_X1_assess] at hw_2
  subst hw_2
  have hP : va_P g.1 classes [(h0a0, .inl (cI g, 32, .inl (upd (fun _ => 0) 0 c0))), (h0a1, .inl (cI g, 32, .inl (upd (fun _ => 0) 0 u0))), (h0a2, .inl (cI g, 32, .inl (upd (fun _ => 0) 0 o0))), (h0a4, .inl (cI g, 32, .inl (upd (fun _ => 0) 0 (-9)))), (h0a7, .inl (cI g, 64, .inl (upd (fun _ => (-9)) (c0).toNatClampNeg 0))), (h0, .inr (1, [.ref h0a0, .ref h0a1, .ref h0a2, .ref h0a3, .ref h0a4, .ref h0a5, .ref h0a6, .ref h0a7, .ref h0a8, .ref h0a9, .ref h0a10, .ref h0a11, .int 1, .int 1])), (h0a5, .inl (cI g, 32, .inl (upd (fun _ => 0) 0 v0))), (h0a8, .inl (cI g, 100, .inl (upd (fun _ => 0) 0 0))), (h0a9, .inl (cI g, 100, .inl (upd (fun _ => 0) 0 0))), (h0a10, .inl (cI g, 100, .inl (upd (fun _ => 0) 0 v0)))] H := hP
  have hD : va_D A [(h0a0, .inl (cI g, 32, .inl (upd (fun _ => 0) 0 c0))), (h0a1, .inl (cI g, 32, .inl (upd (fun _ => 0) 0 u0))), (h0a2, .inl (cI g, 32, .inl (upd (fun _ => 0) 0 o0))), (h0a4, .inl (cI g, 32, .inl (upd (fun _ => 0) 0 (-9)))), (h0a7, .inl (cI g, 64, .inl (upd (fun _ => (-9)) (c0).toNatClampNeg 0))), (h0, .inr (1, [.ref h0a0, .ref h0a1, .ref h0a2, .ref h0a3, .ref h0a4, .ref h0a5, .ref h0a6, .ref h0a7, .ref h0a8, .ref h0a9, .ref h0a10, .ref h0a11, .int 1, .int 1])), (h0a5, .inl (cI g, 32, .inl (upd (fun _ => 0) 0 v0))), (h0a8, .inl (cI g, 100, .inl (upd (fun _ => 0) 0 0))), (h0a9, .inl (cI g, 100, .inl (upd (fun _ => 0) 0 0))), (h0a10, .inl (cI g, 100, .inl (upd (fun _ => 0) 0 v0)))] := hD
  refine lv_iload hx hb dX1_add_67 (lv_at hl 0 rfl) ?_
  exact rI X hK hP hD hS dX1_add_69 (by rfl) (Nat.le_of_ble_eq_true rfl) (Nat.le_of_ble_eq_true rfl) (by show ((_, _) : Int32 × va_W) = _; unfold sp_X1_add; try rfl)
def sp_X4_setGrant (g : GG) (h0 : Nat) (n0 : Int32) (d0 : Int32) (h0a0 : Nat) (h0a1 : Nat) (h0a2 : Nat) (h0a3 : Nat) (h0a4 : Nat) (h0a5 : Nat) (h0a6 : Nat) (h0a7 : Nat) (h0a8 : Nat) (h0a9 : Nat) (h0a10 : Nat) (h0a11 : Nat) (h0a12 : Nat) (f_h0a8 : Nat → Int32) (f_h0a10 : Nat → Int32) : va_W := [(h0, .inr (4, [.ref h0a0, .ref h0a1, .ref h0a2, .ref h0a3, .ref h0a4, .ref h0a5, .ref h0a6, .ref h0a7, .ref h0a8, .ref h0a9, .ref h0a10, .ref h0a11, .ref h0a12, .int 1])), (h0a8, .inl (cI g, 24, .inl (upd f_h0a8 0 n0))), (h0a10, .inl (cI g, 24, .inl (upd f_h0a10 0 d0)))]
set_option maxHeartbeats 4000000 in
set_option maxRecDepth 100000 in
theorem c_X4_setGrant (l : Launch) (g : GG) (h0 : Nat) (n0 : Int32) (d0 : Int32) (h0a0 : Nat) (h0a1 : Nat) (h0a2 : Nat) (h0a3 : Nat) (h0a4 : Nat) (h0a5 : Nat) (h0a6 : Nat) (h0a7 : Nat) (h0a8 : Nat) (h0a9 : Nat) (h0a10 : Nat) (h0a11 : Nat) (h0a12 : Nat) (f_h0a8 : Nat → Int32) (f_h0a10 : Nat → Int32) : MV l g yX4_setGrant cX4_setGrant 4 0 0 0 0 [(h0, .inr (4, [.ref h0a0, .ref h0a1, .ref h0a2, .ref h0a3, .ref h0a4, .ref h0a5, .ref h0a6, .ref h0a7, .ref h0a8, .ref h0a9, .ref h0a10, .ref h0a11, .ref h0a12, .int 1])), (h0a8, .inl (cI g, 24, .inl f_h0a8)), (h0a10, .inl (cI g, 24, .inl f_h0a10))] [.ref h0, .int 0, .int n0, .int d0] (fun ww_ => ww_ = sp_X4_setGrant g h0 n0 d0 h0a0 h0a1 h0a2 h0a3 h0a4 h0a5 h0a6 h0a7 h0a8 h0a9 h0a10 h0a11 h0a12 f_h0a8 f_h0a10) := by
  refine met_of (fun A => va_Qv _ (bW g A) A) (by decide) (Nat.le_of_ble_eq_true rfl) ?_
  intro p e s m below meth c A ls X hK hP hD hA hZ hS hl
  have hx := X.1
  have hb := X.2.1
  have hml := X.2.2.1
  have hown := X.2.2.2.1
  have hts := X.2.2.2.2.1
  have hnm := X.2.2.2.2.2.2.2
  have hl : lv_has ls 4 [(0, .ref h0), (1, .int 0), (2, .int n0), (3, .int d0)] := hl
  refine lv_aload_n hx hb dX4_setGrant_0 rfl (lv_at hl 0 rfl) ?_
  refine va_get (D := g.1) (ci := 4) (v := .ref h0a8) (C := RX4) (T := TX4) (N := 14) hx hb hts fw_X4 hown hK hP 0 rfl rfl 8 (by decide) (hts _ q_259) (fun _ h9 => h9) rfl dX4_setGrant_1 ?_
  refine lv_iload_n hx hb dX4_setGrant_4 rfl (lv_at hl 1 rfl) ?_
  refine lv_iload_n hx hb dX4_setGrant_5 rfl (lv_at hl 2 rfl) ?_
  refine va_iast hx hb hK hP hD hS 1 0 rfl rfl (by unfold vp_in; decide) dX4_setGrant_6 (fun H locs hP hD hS => ?_)
  have hP : va_P g.1 classes [(h0, .inr (4, [.ref h0a0, .ref h0a1, .ref h0a2, .ref h0a3, .ref h0a4, .ref h0a5, .ref h0a6, .ref h0a7, .ref h0a8, .ref h0a9, .ref h0a10, .ref h0a11, .ref h0a12, .int 1])), (h0a8, .inl (cI g, 24, .inl (upd f_h0a8 0 n0))), (h0a10, .inl (cI g, 24, .inl f_h0a10))] H := hP
  have hD : va_D A [(h0, .inr (4, [.ref h0a0, .ref h0a1, .ref h0a2, .ref h0a3, .ref h0a4, .ref h0a5, .ref h0a6, .ref h0a7, .ref h0a8, .ref h0a9, .ref h0a10, .ref h0a11, .ref h0a12, .int 1])), (h0a8, .inl (cI g, 24, .inl (upd f_h0a8 0 n0))), (h0a10, .inl (cI g, 24, .inl f_h0a10))] := hD
  refine lv_aload_n hx hb dX4_setGrant_7 rfl (lv_at hl 0 rfl) ?_
  refine va_get (D := g.1) (ci := 4) (v := .ref h0a10) (C := RX4) (T := TX4) (N := 14) hx hb hts fw_X4 hown hK hP 0 rfl rfl 10 (by decide) (hts _ q_261) (fun _ h9 => h9) rfl dX4_setGrant_8 ?_
  refine lv_iload_n hx hb dX4_setGrant_11 rfl (lv_at hl 1 rfl) ?_
  refine lv_iload_n hx hb dX4_setGrant_12 rfl (lv_at hl 3 rfl) ?_
  refine va_iast hx hb hK hP hD hS 2 0 rfl rfl (by unfold vp_in; decide) dX4_setGrant_13 (fun H locs hP hD hS => ?_)
  have hP : va_P g.1 classes [(h0, .inr (4, [.ref h0a0, .ref h0a1, .ref h0a2, .ref h0a3, .ref h0a4, .ref h0a5, .ref h0a6, .ref h0a7, .ref h0a8, .ref h0a9, .ref h0a10, .ref h0a11, .ref h0a12, .int 1])), (h0a8, .inl (cI g, 24, .inl (upd f_h0a8 0 n0))), (h0a10, .inl (cI g, 24, .inl (upd f_h0a10 0 d0)))] H := hP
  have hD : va_D A [(h0, .inr (4, [.ref h0a0, .ref h0a1, .ref h0a2, .ref h0a3, .ref h0a4, .ref h0a5, .ref h0a6, .ref h0a7, .ref h0a8, .ref h0a9, .ref h0a10, .ref h0a11, .ref h0a12, .int 1])), (h0a8, .inl (cI g, 24, .inl (upd f_h0a8 0 n0))), (h0a10, .inl (cI g, 24, .inl (upd f_h0a10 0 d0)))] := hD
  exact rV X hK hP hD hS dX4_setGrant_14 (Nat.le_of_ble_eq_true rfl) (Nat.le_of_ble_eq_true rfl) (by show (_ : va_W) = _; unfold sp_X4_setGrant; try rfl)
def sp_X11_found1 (g : GG) (x0 : Nat) (xr : Nat) (xt : Nat) (xg : Nat) (xb : Nat) (xp : Nat) (xu : Nat) (xm : Nat) (xd : Nat) (xw : Nat) (xh : Nat) (xa : Nat) (xs : Nat) (xf : Nat) : Int32 × va_W := ((-3), [(x0, .inr (11, [.ref xr, .ref xt, .ref xg, .ref xb, .ref xp, .ref xu, .ref xm, .ref xd, .ref xw, .ref xh, .ref xa, .ref xs, .ref xf, .int 0, .int 0, .long 0, .long 0, .int 1])), (xf, .inl (cI g, 6, .inl (upd (fun _ => 0) 1 1)))])
set_option maxHeartbeats 4000000 in
set_option maxRecDepth 100000 in
theorem c_X11_found1 (l : Launch) (g : GG) (x0 : Nat) (xr : Nat) (xt : Nat) (xg : Nat) (xb : Nat) (xp : Nat) (xu : Nat) (xm : Nat) (xd : Nat) (xw : Nat) (xh : Nat) (xa : Nat) (xs : Nat) (xf : Nat) : MI l g yX11_found cX11_found 2 (some .int) 0 0 0 0 [(x0, .inr (11, [.ref xr, .ref xt, .ref xg, .ref xb, .ref xp, .ref xu, .ref xm, .ref xd, .ref xw, .ref xh, .ref xa, .ref xs, .ref xf, .int 0, .int 0, .long 0, .long 0, .int 0])), (xf, .inl (cI g, 6, .inl (fun _ => 0)))] [.ref x0, .int 1] (fun rr_ ww_ => (rr_, ww_) = sp_X11_found1 g x0 xr xt xg xb xp xu xm xd xw xh xa xs xf) := by
  refine met_of (fun A => va_Qi _ (bW g A) A) (by decide) (Nat.le_of_ble_eq_true rfl) ?_
  intro p e s m below meth c A ls X hK hP hD hA hZ hS hl
  have hx := X.1
  have hb := X.2.1
  have hml := X.2.2.1
  have hown := X.2.2.2.1
  have hts := X.2.2.2.2.1
  have hnm := X.2.2.2.2.2.2.2
  have hl : lv_has ls 2 [(0, .ref x0), (1, .int 1)] := hl
  refine lv_aload_n hx hb dX11_found_0 rfl (lv_at hl 0 rfl) ?_
  refine lv_iload_n hx hb dX11_found_1 rfl (lv_at hl 1 rfl) ?_
  refine va_put (D := g.1) (ci := 11) (v := .int 1) (ty := .int) (C := RX11) (T := TX11) (N := 18) hx hb hts fw_X11 tyX11 tyX11_ok nmX11 hown hK hP hD hS 0 rfl rfl 17 (by decide) (hts _ q_475) (fun _ h9 => h9) rfl (by decide +kernel) rfl rfl (Nat.le_of_ble_eq_true rfl) dX11_found_2 (fun H locs hP hD hS => ?_)
  have hP : va_P g.1 classes [(x0, .inr (11, [.ref xr, .ref xt, .ref xg, .ref xb, .ref xp, .ref xu, .ref xm, .ref xd, .ref xw, .ref xh, .ref xa, .ref xs, .ref xf, .int 0, .int 0, .long 0, .long 0, .int 1])), (xf, .inl (cI g, 6, .inl (fun _ => 0)))] H := hP
  have hD : va_D A [(x0, .inr (11, [.ref xr, .ref xt, .ref xg, .ref xb, .ref xp, .ref xu, .ref xm, .ref xd, .ref xw, .ref xh, .ref xa, .ref xs, .ref xf, .int 0, .int 0, .long 0, .long 0, .int 1])), (xf, .inl (cI g, 6, .inl (fun _ => 0)))] := hD
  refine lv_aload_n hx hb dX11_found_5 rfl (lv_at hl 0 rfl) ?_
  refine va_get (D := g.1) (ci := 11) (v := .ref xf) (C := RX11) (T := TX11) (N := 18) hx hb hts fw_X11 hown hK hP 0 rfl rfl 12 (by decide) (hts _ q_470) (fun _ h9 => h9) rfl dX11_found_6 ?_
  refine lv_iload_n hx hb dX11_found_9 rfl (lv_at hl 1 rfl) ?_
  refine lv_dup2_11 hx hb dX11_found_10 rfl rfl ?_
  refine va_iald hx hb hK hP 1 0 rfl rfl (by unfold vp_in; decide) dX11_found_11 ?_
  refine lv_topk (v := 0) rfl ?_
  refine lv_iconst (v := 1) hx hb dX11_found_12 (by decide) ?_
  refine lv_iadd hx hb dX11_found_13 ?_
  refine lv_topk (v := 1) (by decide) ?_
  refine va_iast hx hb hK hP hD hS 1 0 rfl rfl (by unfold vp_in; decide) dX11_found_14 (fun H locs hP hD hS => ?_)
  have hP : va_P g.1 classes [(x0, .inr (11, [.ref xr, .ref xt, .ref xg, .ref xb, .ref xp, .ref xu, .ref xm, .ref xd, .ref xw, .ref xh, .ref xa, .ref xs, .ref xf, .int 0, .int 0, .long 0, .long 0, .int 1])), (xf, .inl (cI g, 6, .inl (upd (fun _ => 0) 1 1)))] H := hP
  have hD : va_D A [(x0, .inr (11, [.ref xr, .ref xt, .ref xg, .ref xb, .ref xp, .ref xu, .ref xm, .ref xd, .ref xw, .ref xh, .ref xa, .ref xs, .ref xf, .int 0, .int 0, .long 0, .long 0, .int 1])), (xf, .inl (cI g, 6, .inl (upd (fun _ => 0) 1 1)))] := hD
  refine lv_bipush (v := (-3)) hx hb dX11_found_15 (by decide) ?_
  exact rI X hK hP hD hS dX11_found_17 (by rfl) (Nat.le_of_ble_eq_true rfl) (Nat.le_of_ble_eq_true rfl) (by show ((_, _) : Int32 × va_W) = _; unfold sp_X11_found1; try rfl)
def sp_X11_found5 (g : GG) (x0 : Nat) (xr : Nat) (xt : Nat) (xg : Nat) (xb : Nat) (xp : Nat) (xu : Nat) (xm : Nat) (xd : Nat) (xw : Nat) (xh : Nat) (xa : Nat) (xs : Nat) (xf : Nat) : Int32 × va_W := ((-3), [(x0, .inr (11, [.ref xr, .ref xt, .ref xg, .ref xb, .ref xp, .ref xu, .ref xm, .ref xd, .ref xw, .ref xh, .ref xa, .ref xs, .ref xf, .int 0, .int 0, .long 0, .long 0, .int 5])), (xf, .inl (cI g, 6, .inl (upd (fun _ => 0) 5 1)))])
set_option maxHeartbeats 4000000 in
set_option maxRecDepth 100000 in
theorem c_X11_found5 (l : Launch) (g : GG) (x0 : Nat) (xr : Nat) (xt : Nat) (xg : Nat) (xb : Nat) (xp : Nat) (xu : Nat) (xm : Nat) (xd : Nat) (xw : Nat) (xh : Nat) (xa : Nat) (xs : Nat) (xf : Nat) : MI l g yX11_found cX11_found 2 (some .int) 0 0 0 0 [(x0, .inr (11, [.ref xr, .ref xt, .ref xg, .ref xb, .ref xp, .ref xu, .ref xm, .ref xd, .ref xw, .ref xh, .ref xa, .ref xs, .ref xf, .int 0, .int 0, .long 0, .long 0, .int 0])), (xf, .inl (cI g, 6, .inl (fun _ => 0)))] [.ref x0, .int 5] (fun rr_ ww_ => (rr_, ww_) = sp_X11_found5 g x0 xr xt xg xb xp xu xm xd xw xh xa xs xf) := by
  refine met_of (fun A => va_Qi _ (bW g A) A) (by decide) (Nat.le_of_ble_eq_true rfl) ?_
  intro p e s m below meth c A ls X hK hP hD hA hZ hS hl
  have hx := X.1
  have hb := X.2.1
  have hml := X.2.2.1
  have hown := X.2.2.2.1
  have hts := X.2.2.2.2.1
  have hnm := X.2.2.2.2.2.2.2
  have hl : lv_has ls 2 [(0, .ref x0), (1, .int 5)] := hl
  refine lv_aload_n hx hb dX11_found_0 rfl (lv_at hl 0 rfl) ?_
  refine lv_iload_n hx hb dX11_found_1 rfl (lv_at hl 1 rfl) ?_
  refine va_put (D := g.1) (ci := 11) (v := .int 5) (ty := .int) (C := RX11) (T := TX11) (N := 18) hx hb hts fw_X11 tyX11 tyX11_ok nmX11 hown hK hP hD hS 0 rfl rfl 17 (by decide) (hts _ q_475) (fun _ h9 => h9) rfl (by decide +kernel) rfl rfl (Nat.le_of_ble_eq_true rfl) dX11_found_2 (fun H locs hP hD hS => ?_)
  have hP : va_P g.1 classes [(x0, .inr (11, [.ref xr, .ref xt, .ref xg, .ref xb, .ref xp, .ref xu, .ref xm, .ref xd, .ref xw, .ref xh, .ref xa, .ref xs, .ref xf, .int 0, .int 0, .long 0, .long 0, .int 5])), (xf, .inl (cI g, 6, .inl (fun _ => 0)))] H := hP
  have hD : va_D A [(x0, .inr (11, [.ref xr, .ref xt, .ref xg, .ref xb, .ref xp, .ref xu, .ref xm, .ref xd, .ref xw, .ref xh, .ref xa, .ref xs, .ref xf, .int 0, .int 0, .long 0, .long 0, .int 5])), (xf, .inl (cI g, 6, .inl (fun _ => 0)))] := hD
  refine lv_aload_n hx hb dX11_found_5 rfl (lv_at hl 0 rfl) ?_
  refine va_get (D := g.1) (ci := 11) (v := .ref xf) (C := RX11) (T := TX11) (N := 18) hx hb hts fw_X11 hown hK hP 0 rfl rfl 12 (by decide) (hts _ q_470) (fun _ h9 => h9) rfl dX11_found_6 ?_
  refine lv_iload_n hx hb dX11_found_9 rfl (lv_at hl 1 rfl) ?_
  refine lv_dup2_11 hx hb dX11_found_10 rfl rfl ?_
  refine va_iald hx hb hK hP 1 0 rfl rfl (by unfold vp_in; decide) dX11_found_11 ?_
  refine lv_topk (v := 0) rfl ?_
  refine lv_iconst (v := 1) hx hb dX11_found_12 (by decide) ?_
  refine lv_iadd hx hb dX11_found_13 ?_
  refine lv_topk (v := 1) (by decide) ?_
  refine va_iast hx hb hK hP hD hS 1 0 rfl rfl (by unfold vp_in; decide) dX11_found_14 (fun H locs hP hD hS => ?_)
  have hP : va_P g.1 classes [(x0, .inr (11, [.ref xr, .ref xt, .ref xg, .ref xb, .ref xp, .ref xu, .ref xm, .ref xd, .ref xw, .ref xh, .ref xa, .ref xs, .ref xf, .int 0, .int 0, .long 0, .long 0, .int 5])), (xf, .inl (cI g, 6, .inl (upd (fun _ => 0) 5 1)))] H := hP
  have hD : va_D A [(x0, .inr (11, [.ref xr, .ref xt, .ref xg, .ref xb, .ref xp, .ref xu, .ref xm, .ref xd, .ref xw, .ref xh, .ref xa, .ref xs, .ref xf, .int 0, .int 0, .long 0, .long 0, .int 5])), (xf, .inl (cI g, 6, .inl (upd (fun _ => 0) 5 1)))] := hD
  refine lv_bipush (v := (-3)) hx hb dX11_found_15 (by decide) ?_
  exact rI X hK hP hD hS dX11_found_17 (by rfl) (Nat.le_of_ble_eq_true rfl) (Nat.le_of_ble_eq_true rfl) (by show ((_, _) : Int32 × va_W) = _; unfold sp_X11_found5; try rfl)
def sp_X11_found4 (g : GG) (x0 : Nat) (xr : Nat) (xt : Nat) (xg : Nat) (xb : Nat) (xp : Nat) (xu : Nat) (xm : Nat) (xd : Nat) (xw : Nat) (xh : Nat) (xa : Nat) (xs : Nat) (xf : Nat) : Int32 × va_W := ((-3), [(x0, .inr (11, [.ref xr, .ref xt, .ref xg, .ref xb, .ref xp, .ref xu, .ref xm, .ref xd, .ref xw, .ref xh, .ref xa, .ref xs, .ref xf, .int 0, .int 0, .long 0, .long 0, .int 4])), (xf, .inl (cI g, 6, .inl (upd (fun _ => 0) 4 1)))])
set_option maxHeartbeats 4000000 in
set_option maxRecDepth 100000 in
theorem c_X11_found4 (l : Launch) (g : GG) (x0 : Nat) (xr : Nat) (xt : Nat) (xg : Nat) (xb : Nat) (xp : Nat) (xu : Nat) (xm : Nat) (xd : Nat) (xw : Nat) (xh : Nat) (xa : Nat) (xs : Nat) (xf : Nat) : MI l g yX11_found cX11_found 2 (some .int) 0 0 0 0 [(x0, .inr (11, [.ref xr, .ref xt, .ref xg, .ref xb, .ref xp, .ref xu, .ref xm, .ref xd, .ref xw, .ref xh, .ref xa, .ref xs, .ref xf, .int 0, .int 0, .long 0, .long 0, .int 0])), (xf, .inl (cI g, 6, .inl (fun _ => 0)))] [.ref x0, .int 4] (fun rr_ ww_ => (rr_, ww_) = sp_X11_found4 g x0 xr xt xg xb xp xu xm xd xw xh xa xs xf) := by
  refine met_of (fun A => va_Qi _ (bW g A) A) (by decide) (Nat.le_of_ble_eq_true rfl) ?_
  intro p e s m below meth c A ls X hK hP hD hA hZ hS hl
  have hx := X.1
  have hb := X.2.1
  have hml := X.2.2.1
  have hown := X.2.2.2.1
  have hts := X.2.2.2.2.1
  have hnm := X.2.2.2.2.2.2.2
  have hl : lv_has ls 2 [(0, .ref x0), (1, .int 4)] := hl
  refine lv_aload_n hx hb dX11_found_0 rfl (lv_at hl 0 rfl) ?_
  refine lv_iload_n hx hb dX11_found_1 rfl (lv_at hl 1 rfl) ?_
  refine va_put (D := g.1) (ci := 11) (v := .int 4) (ty := .int) (C := RX11) (T := TX11) (N := 18) hx hb hts fw_X11 tyX11 tyX11_ok nmX11 hown hK hP hD hS 0 rfl rfl 17 (by decide) (hts _ q_475) (fun _ h9 => h9) rfl (by decide +kernel) rfl rfl (Nat.le_of_ble_eq_true rfl) dX11_found_2 (fun H locs hP hD hS => ?_)
  have hP : va_P g.1 classes [(x0, .inr (11, [.ref xr, .ref xt, .ref xg, .ref xb, .ref xp, .ref xu, .ref xm, .ref xd, .ref xw, .ref xh, .ref xa, .ref xs, .ref xf, .int 0, .int 0, .long 0, .long 0, .int 4])), (xf, .inl (cI g, 6, .inl (fun _ => 0)))] H := hP
  have hD : va_D A [(x0, .inr (11, [.ref xr, .ref xt, .ref xg, .ref xb, .ref xp, .ref xu, .ref xm, .ref xd, .ref xw, .ref xh, .ref xa, .ref xs, .ref xf, .int 0, .int 0, .long 0, .long 0, .int 4])), (xf, .inl (cI g, 6, .inl (fun _ => 0)))] := hD
  refine lv_aload_n hx hb dX11_found_5 rfl (lv_at hl 0 rfl) ?_
  refine va_get (D := g.1) (ci := 11) (v := .ref xf) (C := RX11) (T := TX11) (N := 18) hx hb hts fw_X11 hown hK hP 0 rfl rfl 12 (by decide) (hts _ q_470) (fun _ h9 => h9) rfl dX11_found_6 ?_
  refine lv_iload_n hx hb dX11_found_9 rfl (lv_at hl 1 rfl) ?_
  refine lv_dup2_11 hx hb dX11_found_10 rfl rfl ?_
  refine va_iald hx hb hK hP 1 0 rfl rfl (by unfold vp_in; decide) dX11_found_11 ?_
  refine lv_topk (v := 0) rfl ?_
  refine lv_iconst (v := 1) hx hb dX11_found_12 (by decide) ?_
  refine lv_iadd hx hb dX11_found_13 ?_
  refine lv_topk (v := 1) (by decide) ?_
  refine va_iast hx hb hK hP hD hS 1 0 rfl rfl (by unfold vp_in; decide) dX11_found_14 (fun H locs hP hD hS => ?_)
  have hP : va_P g.1 classes [(x0, .inr (11, [.ref xr, .ref xt, .ref xg, .ref xb, .ref xp, .ref xu, .ref xm, .ref xd, .ref xw, .ref xh, .ref xa, .ref xs, .ref xf, .int 0, .int 0, .long 0, .long 0, .int 4])), (xf, .inl (cI g, 6, .inl (upd (fun _ => 0) 4 1)))] H := hP
  have hD : va_D A [(x0, .inr (11, [.ref xr, .ref xt, .ref xg, .ref xb, .ref xp, .ref xu, .ref xm, .ref xd, .ref xw, .ref xh, .ref xa, .ref xs, .ref xf, .int 0, .int 0, .long 0, .long 0, .int 4])), (xf, .inl (cI g, 6, .inl (upd (fun _ => 0) 4 1)))] := hD
  refine lv_bipush (v := (-3)) hx hb dX11_found_15 (by decide) ?_
  exact rI X hK hP hD hS dX11_found_17 (by rfl) (Nat.le_of_ble_eq_true rfl) (Nat.le_of_ble_eq_true rfl) (by show ((_, _) : Int32 × va_W) = _; unfold sp_X11_found4; try rfl)
